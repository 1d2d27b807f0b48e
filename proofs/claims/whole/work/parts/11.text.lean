theorem dX4_clear_0 : decode cX4_clear 0 = .ok (.aload_n 0, 1) := by decide +kernel
theorem dX4_clear_1 : decode cX4_clear 1 = .ok (.iconst 0, 1) := by decide +kernel
theorem dX4_clear_2 : decode cX4_clear 2 = .ok (.putfield 51, 3) := by decide +kernel
theorem dX4_clear_5 : decode cX4_clear 5 = .ok (.aload_n 0, 1) := by decide +kernel
theorem dX4_clear_6 : decode cX4_clear 6 = .ok (.iconst 0, 1) := by decide +kernel
theorem dX4_clear_7 : decode cX4_clear 7 = .ok (.putfield 54, 3) := by decide +kernel
theorem dX4_clear_10 : decode cX4_clear 10 = .ok (.aload_n 0, 1) := by decide +kernel
theorem dX4_clear_11 : decode cX4_clear 11 = .ok (.iconst 0, 1) := by decide +kernel
theorem dX4_clear_12 : decode cX4_clear 12 = .ok (.putfield 57, 3) := by decide +kernel
theorem dX4_clear_15 : decode cX4_clear 15 = .ok (.aload_n 0, 1) := by decide +kernel
theorem dX4_clear_16 : decode cX4_clear 16 = .ok (.iconst 0, 1) := by decide +kernel
theorem dX4_clear_17 : decode cX4_clear 17 = .ok (.putfield 60, 3) := by decide +kernel
theorem dX4_clear_20 : decode cX4_clear 20 = .ok (.aload_n 0, 1) := by decide +kernel
theorem dX4_clear_21 : decode cX4_clear 21 = .ok (.iconst 0, 1) := by decide +kernel
theorem dX4_clear_22 : decode cX4_clear 22 = .ok (.putfield 63, 3) := by decide +kernel
theorem dX4_clear_25 : decode cX4_clear 25 = .ok (.aload_n 0, 1) := by decide +kernel
theorem dX4_clear_26 : decode cX4_clear 26 = .ok (.iconst 0, 1) := by decide +kernel
theorem dX4_clear_27 : decode cX4_clear 27 = .ok (.putfield 66, 3) := by decide +kernel
theorem dX4_clear_30 : decode cX4_clear 30 = .ok (.aload_n 0, 1) := by decide +kernel
theorem dX4_clear_31 : decode cX4_clear 31 = .ok (.iconst 2, 1) := by decide +kernel
theorem dX4_clear_32 : decode cX4_clear 32 = .ok (.putfield 69, 3) := by decide +kernel
theorem dX4_clear_35 : decode cX4_clear 35 = .ok (.aload_n 0, 1) := by decide +kernel
theorem dX4_clear_36 : decode cX4_clear 36 = .ok (.iconst 0, 1) := by decide +kernel
theorem dX4_clear_37 : decode cX4_clear 37 = .ok (.putfield 72, 3) := by decide +kernel
theorem dX4_clear_40 : decode cX4_clear 40 = .ok (.aload_n 0, 1) := by decide +kernel
theorem dX4_clear_41 : decode cX4_clear 41 = .ok (.iconst 0, 1) := by decide +kernel
theorem dX4_clear_42 : decode cX4_clear 42 = .ok (.putfield 75, 3) := by decide +kernel
theorem dX4_clear_45 : decode cX4_clear 45 = .ok (.aload_n 0, 1) := by decide +kernel
theorem dX4_clear_46 : decode cX4_clear 46 = .ok (.iconst (-1), 1) := by decide +kernel
theorem dX4_clear_47 : decode cX4_clear 47 = .ok (.putfield 44, 3) := by decide +kernel
theorem dX4_clear_50 : decode cX4_clear 50 = .ok (.aload_n 0, 1) := by decide +kernel
theorem dX4_clear_51 : decode cX4_clear 51 = .ok (.getfield 40, 3) := by decide +kernel
theorem dX4_clear_54 : decode cX4_clear 54 = .ok (.invokevirtual 78, 3) := by decide +kernel
theorem dX4_clear_57 : decode cX4_clear 57 = .ok (.return_, 1) := by decide +kernel
abbrev rm_X4_clear : Room := { frames := 3, cells := 0, slots := 0, locals := 64 }
def f_X4_clear (k0 : Nat) (S : St)  : Option (St) :=
  lt_v (up_I S (ky k0 0) (0 : Int32)) (fun (S1 : St) => lt_v (up_I S1 (ky k0 1) (0 : Int32)) (fun (S2 : St) => lt_v (up_I S2 (ky k0 2) (0 : Int32)) (fun (S3 : St) => lt_v (up_I S3 (ky k0 3) (0 : Int32)) (fun (S4 : St) => lt_v (up_I S4 (ky k0 4) (0 : Int32)) (fun (S5 : St) => lt_v (up_I S5 (ky k0 5) (0 : Int32)) (fun (S6 : St) => lt_v (up_I S6 (ky k0 6) (2 : Int32)) (fun (S7 : St) => lt_v (up_I S7 (ky k0 15) (0 : Int32)) (fun (S8 : St) => lt_v (up_I S8 (ky k0 17) (0 : Int32)) (fun (S9 : St) => lt_v (up_I S9 (ky k0 18) (-1 : Int32)) (fun (S10 : St) => (f_X1_clear (k0 + 2) S10 ).bind (fun (q11 : St) => some q11)))))))))))
set_option maxRecDepth 100000 in
set_option maxHeartbeats 4000000 in
theorem k_X4_clear (l : Launch) (g : GG) (hg : gd wd_C g) (k0 : Nat) (hk0 : hT g k0) (S : St)  (q : St) (hf : f_X4_clear k0 S  = some q) : Met l yX4_clear (Cond.code yX4_clear cX4_clear 1 none :: gw_tbl) rm_X4_clear (va_Pc [.ref (gg_o g k0)] (wI wd_C g S)) (qc_v wd_C g q) 0 0 (aw g) := by
  refine mt_start (own := RX4) hg (by decide) rfl (Nat.le_of_ble_eq_true rfl) (fun p e s m args below meth c ls H locs cx hw hr hlk hl => ?_)
  have hx := cx.1
  have hb := cx.2.1
  have hown := cx.2.2.2.1
  have hts := cx.2.2.2.2.1
  have hl : lv_has ls 1 [(0, .ref (gg_o g k0))] := hl
  replace hf := h_top hf
  unfold f_X4_clear at hf
  refine lv_aload_n hx hb dX4_clear_0 rfl (lv_at hl 0 rfl) ?_
  refine lv_iconst (v := 0) hx hb dX4_clear_1 (by decide) ?_
  refine pf_X4_51 cx hw hk0.1 hf dX4_clear_2 (fun S1 H locs hw hf => ?_)
  refine lv_aload_n hx hb dX4_clear_5 rfl (lv_at hl 0 rfl) ?_
  refine lv_iconst (v := 0) hx hb dX4_clear_6 (by decide) ?_
  refine pf_X4_54 cx hw hk0.1 hf dX4_clear_7 (fun S2 H locs hw hf => ?_)
  refine lv_aload_n hx hb dX4_clear_10 rfl (lv_at hl 0 rfl) ?_
  refine lv_iconst (v := 0) hx hb dX4_clear_11 (by decide) ?_
  refine pf_X4_57 cx hw hk0.1 hf dX4_clear_12 (fun S3 H locs hw hf => ?_)
  refine lv_aload_n hx hb dX4_clear_15 rfl (lv_at hl 0 rfl) ?_
  refine lv_iconst (v := 0) hx hb dX4_clear_16 (by decide) ?_
  refine pf_X4_60 cx hw hk0.1 hf dX4_clear_17 (fun S4 H locs hw hf => ?_)
  refine lv_aload_n hx hb dX4_clear_20 rfl (lv_at hl 0 rfl) ?_
  refine lv_iconst (v := 0) hx hb dX4_clear_21 (by decide) ?_
  refine pf_X4_63 cx hw hk0.1 hf dX4_clear_22 (fun S5 H locs hw hf => ?_)
  refine lv_aload_n hx hb dX4_clear_25 rfl (lv_at hl 0 rfl) ?_
  refine lv_iconst (v := 0) hx hb dX4_clear_26 (by decide) ?_
  refine pf_X4_66 cx hw hk0.1 hf dX4_clear_27 (fun S6 H locs hw hf => ?_)
  refine lv_aload_n hx hb dX4_clear_30 rfl (lv_at hl 0 rfl) ?_
  refine lv_iconst (v := 2) hx hb dX4_clear_31 (by decide) ?_
  refine pf_X4_69 cx hw hk0.1 hf dX4_clear_32 (fun S7 H locs hw hf => ?_)
  refine lv_aload_n hx hb dX4_clear_35 rfl (lv_at hl 0 rfl) ?_
  refine lv_iconst (v := 0) hx hb dX4_clear_36 (by decide) ?_
  refine pf_X4_72 cx hw hk0.1 hf dX4_clear_37 (fun S8 H locs hw hf => ?_)
  refine lv_aload_n hx hb dX4_clear_40 rfl (lv_at hl 0 rfl) ?_
  refine lv_iconst (v := 0) hx hb dX4_clear_41 (by decide) ?_
  refine pf_X4_75 cx hw hk0.1 hf dX4_clear_42 (fun S9 H locs hw hf => ?_)
  refine lv_aload_n hx hb dX4_clear_45 rfl (lv_at hl 0 rfl) ?_
  refine lv_iconst (v := -1) hx hb dX4_clear_46 (by decide) ?_
  refine pf_X4_44 cx hw hk0.1 hf dX4_clear_47 (fun S10 H locs hw hf => ?_)
  refine lv_aload_n hx hb dX4_clear_50 rfl (lv_at hl 0 rfl) ?_
  refine gf_X4_40 cx hw hk0.1 dX4_clear_51 ?_
  refine r_VN_v (As := []) (rest := []) cx hw hf (nw_at cx) hk0.2.2.1 (by rw [hk0.2.1]; rfl) lk_X4_78 (fun q11 hq => k_X1_clear l g hg (k0 + 2) hk0.2 S10  q11 hq) ⟨⟨rfl, rfl⟩, Nat.le_of_ble_eq_true rfl, Nat.le_of_ble_eq_true rfl⟩ rfl hl.1 rfl (Nat.le_of_ble_eq_true rfl) dX4_clear_54 ⟨Nat.zero_le _, Nat.zero_le _⟩ (fun q11 H locs hw hf => ?_)
  exact r_vret cx hw hr hlk hf dX4_clear_57
theorem dX4_meaningOf_0 : decode cX4_meaningOf 0 = .ok (.iconst 0, 1) := by decide +kernel
theorem dX4_meaningOf_1 : decode cX4_meaningOf 1 = .ok (.istore_n 3, 1) := by decide +kernel
theorem dX4_meaningOf_2 : decode cX4_meaningOf 2 = .ok (.iload_n 3, 1) := by decide +kernel
theorem dX4_meaningOf_3 : decode cX4_meaningOf 3 = .ok (.aload_n 0, 1) := by decide +kernel
theorem dX4_meaningOf_4 : decode cX4_meaningOf 4 = .ok (.getfield 72, 3) := by decide +kernel
theorem dX4_meaningOf_7 : decode cX4_meaningOf 7 = .ok (.if_icmp .ge 31, 3) := by decide +kernel
theorem dX4_meaningOf_10 : decode cX4_meaningOf 10 = .ok (.aload_n 0, 1) := by decide +kernel
theorem dX4_meaningOf_11 : decode cX4_meaningOf 11 = .ok (.getfield 30, 3) := by decide +kernel
theorem dX4_meaningOf_14 : decode cX4_meaningOf 14 = .ok (.iload_n 3, 1) := by decide +kernel
theorem dX4_meaningOf_15 : decode cX4_meaningOf 15 = .ok (.invokestatic 134, 3) := by decide +kernel
theorem dX4_meaningOf_18 : decode cX4_meaningOf 18 = .ok (.lload_n 1, 1) := by decide +kernel
theorem dX4_meaningOf_19 : decode cX4_meaningOf 19 = .ok (.lcmp, 1) := by decide +kernel
theorem dX4_meaningOf_20 : decode cX4_meaningOf 20 = .ok (.ifCond .ne 12, 3) := by decide +kernel
theorem dX4_meaningOf_23 : decode cX4_meaningOf 23 = .ok (.aload_n 0, 1) := by decide +kernel
theorem dX4_meaningOf_24 : decode cX4_meaningOf 24 = .ok (.getfield 34, 3) := by decide +kernel
theorem dX4_meaningOf_27 : decode cX4_meaningOf 27 = .ok (.iload_n 3, 1) := by decide +kernel
theorem dX4_meaningOf_28 : decode cX4_meaningOf 28 = .ok (.invokestatic 91, 3) := by decide +kernel
theorem dX4_meaningOf_31 : decode cX4_meaningOf 31 = .ok (.ireturn, 1) := by decide +kernel
theorem dX4_meaningOf_32 : decode cX4_meaningOf 32 = .ok (.iinc 3 1, 3) := by decide +kernel
theorem dX4_meaningOf_35 : decode cX4_meaningOf 35 = .ok (.goto (-33), 3) := by decide +kernel
theorem dX4_meaningOf_38 : decode cX4_meaningOf 38 = .ok (.iconst (-1), 1) := by decide +kernel
theorem dX4_meaningOf_39 : decode cX4_meaningOf 39 = .ok (.ireturn, 1) := by decide +kernel
abbrev rm_X4_meaningOf : Room := { frames := 1, cells := 0, slots := 0, locals := 21 }
def f_X4_meaningOf_L2 (k0 : Nat) (S : St) (x1 : Int64) (z2 : Int32) : Option ((Int32) ⊕ ((Int32) ⊕ (Int32))) :=
  if (st_I S (ky k0 15)) ≤ z2 then (some (.inr (.inr (-1 : Int32)))) else ((f_X5_longAt (ky k0 13) S z2).bind (fun (q2 : Int64) => if (lg_cmp q2 x1) = 0 then (some (.inr (.inl z2))) else (some (.inl (z2 + 1)))))
def f_X4_meaningOf (k0 : Nat) (S : St) (x1 : Int64) : Option (Int32) :=
  (iter (f_X4_meaningOf_L2 k0 S x1) FU (0 : Int32)).bind fun z => match z with | .inl z => (fun (e4 : Int32) => (f_X5_at (ky k0 14) S e4).bind (fun (q5 : Int32) => some q5)) z | .inr v7 => some v7
set_option maxRecDepth 100000 in
set_option maxHeartbeats 4000000 in
theorem k_X4_meaningOf (l : Launch) (g : GG) (hg : gd wd_C g) (k0 : Nat) (hk0 : hT g k0) (S : St) (x1 : Int64) (q : Int32) (hf : f_X4_meaningOf k0 S x1 = some q) : Met l yX4_meaningOf (Cond.code yX4_meaningOf cX4_meaningOf 4 (some .int) :: gw_tbl) rm_X4_meaningOf (va_Pc [.ref (gg_o g k0), .long x1] (wI wd_C g S)) (qc_i wd_C g S q) 0 0 (aw g) := by
  refine mt_start (own := RX4) hg (by decide) rfl (Nat.le_of_ble_eq_true rfl) (fun p e s m args below meth c ls H locs cx hw hr hlk hl => ?_)
  have hx := cx.1
  have hb := cx.2.1
  have hown := cx.2.2.2.1
  have hts := cx.2.2.2.2.1
  have hl : lv_has ls 4 [(0, .ref (gg_o g k0)), (1, .long x1)] := hl
  replace hf := h_top hf
  unfold f_X4_meaningOf at hf
  refine lv_iconst (v := 0) hx hb dX4_meaningOf_0 (by decide) ?_
  refine lv_istore_n hx hb dX4_meaningOf_1 rfl hl (by decide) (lv' := [(3, .int (0 : Int32)), (0, .ref (gg_o g k0)), (1, .long x1)]) rfl (fun ls hl => ?_)
  have L2 : ∀ (x1 : Int64) (aft2 : ((Int32) ⊕ (Int32)) → Option (Int32)), (∀ (ls : Array Slot) (H : Heap) (locs : List Loc) (e3 : Int32), lv_has ls 4 [(0, .ref (gg_o g k0)), (3, .int e3)] → HH wd_C g s S H locs → aft2 (.inl e3) = some q → W p l e rm_X4_meaningOf s m args below meth c H locs 0 0 (MQ below (qc_i wd_C g S q) args s 0 0 (aw g)) (F0 m 23 ls [])) → (∀ v : Int32, aft2 (.inr v) = some q → (some v : Option (Int32)).bind some = some q) → ∀ (n2 : Nat) (ls : Array Slot) (H : Heap) (locs : List Loc) (z2 : Int32), lv_has ls 4 [(0, .ref (gg_o g k0)), (1, .long x1), (3, .int z2)] → HH wd_C g s S H locs → (iter (f_X4_meaningOf_L2 k0 S x1) n2 z2).bind aft2 = some q → W p l e rm_X4_meaningOf s m args below meth c H locs 0 0 (MQ below (qc_i wd_C g S q) args s 0 0 (aw g)) (F0 m 2 ls []) := by
    intro x1 aft2 hX2 hR2 n2
    induction n2 with
    | zero => intro ls H locs z2 hl hw hf; exact h_iter0 hf
    | succ n2 ih2 =>
      intro ls H locs z2 hl hw hf
      replace hf := h_iter hf
      unfold f_X4_meaningOf_L2 at hf
      refine lv_iload_n hx hb dX4_meaningOf_2 rfl (lv_at hl 2 rfl) ?_
      refine lv_aload_n hx hb dX4_meaningOf_3 rfl (lv_at hl 0 rfl) ?_
      refine gf_X4_72 cx hw hk0.1 dX4_meaningOf_4 ?_
      refine lv_icmp_ge hx hb dX4_meaningOf_7 (tgt := 38) rfl (fun hc1 => ?_) (fun hc1 => ?_)
      · replace hf := h_pos hc1 hf
        refine lv_iconst (v := -1) hx hb dX4_meaningOf_38 (by decide) ?_
        replace hf := hR2 (-1 : Int32) hf
        exact r_iret cx hw hr hlk hf dX4_meaningOf_39
      replace hf := h_neg hc1 hf
      refine lv_aload_n hx hb dX4_meaningOf_10 rfl (lv_at hl 0 rfl) ?_
      refine gf_X4_30 cx hw hk0.1 dX4_meaningOf_11 ?_
      refine lv_iload_n hx hb dX4_meaningOf_14 rfl (lv_at hl 2 rfl) ?_
      refine r_SN_l (As := [.ref (gg_l g (ky k0 13)), .int z2]) (rest := []) cx hw hf (nw_at cx) lk_X4_134 (fun q2 hq => k_X5_longAt l g hg (ky k0 13) (hk0.1.2.2.2.1 13 rfl) S z2 q2 hq) ⟨⟨rfl, rfl⟩, Nat.le_of_ble_eq_true rfl, Nat.le_of_ble_eq_true rfl⟩ rfl hl.1 rfl (Nat.le_of_ble_eq_true rfl) dX4_meaningOf_15 ⟨Nat.zero_le _, Nat.zero_le _⟩ (fun q2 H locs hw hf => ?_)
      refine lv_lload_n hx hb dX4_meaningOf_18 rfl (lv_at hl 1 rfl) ?_
      refine W.lcmp hx hb dX4_meaningOf_19 ?_
      refine lv_if_ne hx hb dX4_meaningOf_20 (tgt := 32) rfl (fun hc3 => ?_) (fun hc3 => ?_)
      · replace hf := h_neg hc3 hf
        refine lv_iinc hx hb dX4_meaningOf_32 hl (k := 2) rfl (congrArg (HAdd.hAdd _) (show Int32.ofInt (1) = 1 by decide)) (by decide) (lv' := [(3, .int (z2 + 1)), (0, .ref (gg_o g k0)), (1, .long x1)]) rfl (fun ls hl => ?_)
        refine lv_goto hx hb dX4_meaningOf_35 (tgt := 2) rfl ?_
        exact ih2 _ _ _ (z2 + 1) (lv_sub hl [1, 2, 0] rfl) hw hf
      replace hf := h_pos hc3 hf
      exact hX2 _ _ _ z2 (lv_sub hl [0, 2] rfl) hw hf
  refine L2 x1 _ (fun ls H locs e4 hl hw hf => ?_) (fun v h => h) FU _ _ _ (0 : Int32) (lv_sub hl [1, 2, 0] rfl) hw (h_assoc hf)
  try dsimp only at hf
  refine lv_aload_n hx hb dX4_meaningOf_23 rfl (lv_at hl 0 rfl) ?_
  refine gf_X4_34 cx hw hk0.1 dX4_meaningOf_24 ?_
  refine lv_iload_n hx hb dX4_meaningOf_27 rfl (lv_at hl 1 rfl) ?_
  refine r_SN_i (As := [.ref (gg_a g (ky k0 14)), .int e4]) (rest := []) cx hw hf (nw_at cx) lk_X4_91 (fun q5 hq => k_X5_at l g hg (ky k0 14) (hk0.1.2.2.1 14 rfl) S e4 q5 hq) ⟨⟨rfl, rfl⟩, Nat.le_of_ble_eq_true rfl, Nat.le_of_ble_eq_true rfl⟩ rfl hl.1 rfl (Nat.le_of_ble_eq_true rfl) dX4_meaningOf_28 ⟨Nat.zero_le _, Nat.zero_le _⟩ (fun q5 H locs hw hf => ?_)
  exact r_iret cx hw hr hlk hf dX4_meaningOf_31
theorem dX4_fail_0 : decode cX4_fail 0 = .ok (.aload_n 0, 1) := by decide +kernel
theorem dX4_fail_1 : decode cX4_fail 1 = .ok (.getfield 75, 3) := by decide +kernel
theorem dX4_fail_4 : decode cX4_fail 4 = .ok (.ifCond .ne 20, 3) := by decide +kernel
theorem dX4_fail_7 : decode cX4_fail 7 = .ok (.aload_n 0, 1) := by decide +kernel
theorem dX4_fail_8 : decode cX4_fail 8 = .ok (.iload_n 1, 1) := by decide +kernel
theorem dX4_fail_9 : decode cX4_fail 9 = .ok (.putfield 75, 3) := by decide +kernel
theorem dX4_fail_12 : decode cX4_fail 12 = .ok (.aload_n 0, 1) := by decide +kernel
theorem dX4_fail_13 : decode cX4_fail 13 = .ok (.aload_n 2, 1) := by decide +kernel
theorem dX4_fail_14 : decode cX4_fail 14 = .ok (.getfield 128, 3) := by decide +kernel
theorem dX4_fail_17 : decode cX4_fail 17 = .ok (.iload_n 3, 1) := by decide +kernel
theorem dX4_fail_18 : decode cX4_fail 18 = .ok (.invokestatic 91, 3) := by decide +kernel
theorem dX4_fail_21 : decode cX4_fail 21 = .ok (.putfield 44, 3) := by decide +kernel
theorem dX4_fail_24 : decode cX4_fail 24 = .ok (.return_, 1) := by decide +kernel
abbrev rm_X4_fail : Room := { frames := 1, cells := 0, slots := 0, locals := 21 }
def f_X4_fail (k0 : Nat) (S : St) (x1 : Int32) (x3 : Int32) : Option (St) :=
  if (st_I S (ky k0 17)) = 0 then (lt_v (up_I S (ky k0 17) x1) (fun (S2 : St) => (f_X5_at (ky 1 2) S2 x3).bind (fun (q3 : Int32) => lt_v (up_I S2 (ky k0 18) q3) (fun (S4 : St) => some S4)))) else (some S)
set_option maxRecDepth 100000 in
set_option maxHeartbeats 4000000 in
theorem k_X4_fail (l : Launch) (g : GG) (hg : gd wd_C g) (k0 : Nat) (hk0 : hT g k0) (h1 : hs wd_C g 1 3) (S : St) (x1 : Int32) (x3 : Int32) (q : St) (hf : f_X4_fail k0 S x1 x3 = some q) : Met l yX4_fail (Cond.code yX4_fail cX4_fail 4 none :: gw_tbl) rm_X4_fail (va_Pc [.ref (gg_o g k0), .int x1, .ref (gg_o g 1), .int x3] (wI wd_C g S)) (qc_v wd_C g q) 0 0 (aw g) := by
  refine mt_start (own := RX4) hg (by decide) rfl (Nat.le_of_ble_eq_true rfl) (fun p e s m args below meth c ls H locs cx hw hr hlk hl => ?_)
  have hx := cx.1
  have hb := cx.2.1
  have hown := cx.2.2.2.1
  have hts := cx.2.2.2.2.1
  have hl : lv_has ls 4 [(0, .ref (gg_o g k0)), (1, .int x1), (2, .ref (gg_o g 1)), (3, .int x3)] := hl
  replace hf := h_top hf
  unfold f_X4_fail at hf
  refine lv_aload_n hx hb dX4_fail_0 rfl (lv_at hl 0 rfl) ?_
  refine gf_X4_75 cx hw hk0.1 dX4_fail_1 ?_
  refine lv_if_ne hx hb dX4_fail_4 (tgt := 24) rfl (fun hc1 => ?_) (fun hc1 => ?_)
  · replace hf := h_neg hc1 hf
    exact r_vret cx hw hr hlk hf dX4_fail_24
  replace hf := h_pos hc1 hf
  refine lv_aload_n hx hb dX4_fail_7 rfl (lv_at hl 0 rfl) ?_
  refine lv_iload_n hx hb dX4_fail_8 rfl (lv_at hl 1 rfl) ?_
  refine pf_X4_75 cx hw hk0.1 hf dX4_fail_9 (fun S2 H locs hw hf => ?_)
  refine lv_aload_n hx hb dX4_fail_12 rfl (lv_at hl 0 rfl) ?_
  refine lv_aload_n hx hb dX4_fail_13 rfl (lv_at hl 2 rfl) ?_
  refine gf_X4_128 cx hw h1 dX4_fail_14 ?_
  refine lv_iload_n hx hb dX4_fail_17 rfl (lv_at hl 3 rfl) ?_
  refine r_SN_i (As := [.ref (gg_a g (ky 1 2)), .int x3]) (rest := [.ref (gg_o g k0)]) cx hw hf (nw_at cx) lk_X4_91 (fun q3 hq => k_X5_at l g hg (ky 1 2) (h1.2.2.1 2 rfl) S2 x3 q3 hq) ⟨⟨rfl, rfl⟩, Nat.le_of_ble_eq_true rfl, Nat.le_of_ble_eq_true rfl⟩ rfl hl.1 rfl (Nat.le_of_ble_eq_true rfl) dX4_fail_18 ⟨Nat.zero_le _, Nat.zero_le _⟩ (fun q3 H locs hw hf => ?_)
  refine pf_X4_44 cx hw hk0.1 hf dX4_fail_21 (fun S4 H locs hw hf => ?_)
  exact r_vret cx hw hr hlk hf dX4_fail_24
theorem dX5_putLong_0 : decode cX5_putLong 0 = .ok (.aload_n 0, 1) := by decide +kernel
theorem dX5_putLong_1 : decode cX5_putLong 1 = .ok (.ifnull 17, 3) := by decide +kernel
theorem dX5_putLong_4 : decode cX5_putLong 4 = .ok (.iload_n 1, 1) := by decide +kernel
theorem dX5_putLong_5 : decode cX5_putLong 5 = .ok (.ifCond .lt 13, 3) := by decide +kernel
theorem dX5_putLong_8 : decode cX5_putLong 8 = .ok (.iload_n 1, 1) := by decide +kernel
theorem dX5_putLong_9 : decode cX5_putLong 9 = .ok (.aload_n 0, 1) := by decide +kernel
theorem dX5_putLong_10 : decode cX5_putLong 10 = .ok (.arraylength, 1) := by decide +kernel
theorem dX5_putLong_11 : decode cX5_putLong 11 = .ok (.if_icmp .ge 7, 3) := by decide +kernel
theorem dX5_putLong_14 : decode cX5_putLong 14 = .ok (.aload_n 0, 1) := by decide +kernel
theorem dX5_putLong_15 : decode cX5_putLong 15 = .ok (.iload_n 1, 1) := by decide +kernel
theorem dX5_putLong_16 : decode cX5_putLong 16 = .ok (.lload_n 2, 1) := by decide +kernel
theorem dX5_putLong_17 : decode cX5_putLong 17 = .ok (.lastore, 1) := by decide +kernel
theorem dX5_putLong_18 : decode cX5_putLong 18 = .ok (.return_, 1) := by decide +kernel
abbrev rm_X5_putLong : Room := { frames := 0, cells := 0, slots := 0, locals := 0 }
def f_X5_putLong (k0 : Nat) (S : St) (x1 : Int32) (x2 : Int64) : Option (St) :=
  if x1 < 0 then (some S) else (if (Int32.ofNat (wk_m wd_C k0)) ≤ x1 then (some S) else (chk (ib x1 (wk_m wd_C k0)) (lt_v (up_L S k0 (vp_updL (st_L S k0) x1.toNatClampNeg x2)) (fun (S3 : St) => some S3))))
set_option maxRecDepth 100000 in
set_option maxHeartbeats 4000000 in
theorem k_X5_putLong (l : Launch) (g : GG) (hg : gd wd_C g) (k0 : Nat) (hk0 : k0 ∈ gg_ls g) (S : St) (x1 : Int32) (x2 : Int64) (q : St) (hf : f_X5_putLong k0 S x1 x2 = some q) : Met l yX5_putLong (Cond.code yX5_putLong cX5_putLong 4 none :: gw_tbl) rm_X5_putLong (va_Pc [.ref (gg_l g k0), .int x1, .long x2] (wI wd_C g S)) (qc_v wd_C g q) 0 0 (aw g) := by
  refine mt_start (own := RX5) hg (by decide) rfl (Nat.le_of_ble_eq_true rfl) (fun p e s m args below meth c ls H locs cx hw hr hlk hl => ?_)
  have hx := cx.1
  have hb := cx.2.1
  have hown := cx.2.2.2.1
  have hts := cx.2.2.2.2.1
  have hl : lv_has ls 4 [(0, .ref (gg_l g k0)), (1, .int x1), (2, .long x2)] := hl
  replace hf := h_top hf
  unfold f_X5_putLong at hf
  refine lv_aload_n hx hb dX5_putLong_0 rfl (lv_at hl 0 rfl) ?_
  refine lv_ifnull hx hb dX5_putLong_1 ?_
  refine lv_iload_n hx hb dX5_putLong_4 rfl (lv_at hl 1 rfl) ?_
  refine lv_if_lt hx hb dX5_putLong_5 (tgt := 18) rfl (fun hc1 => ?_) (fun hc1 => ?_)
  · replace hf := h_pos hc1 hf
    exact r_vret cx hw hr hlk hf dX5_putLong_18
  replace hf := h_neg hc1 hf
  refine lv_iload_n hx hb dX5_putLong_8 rfl (lv_at hl 1 rfl) ?_
  refine lv_aload_n hx hb dX5_putLong_9 rfl (lv_at hl 0 rfl) ?_
  refine r_alenl cx hw hk0 dX5_putLong_10 ?_
  refine lv_icmp_ge hx hb dX5_putLong_11 (tgt := 18) rfl (fun hc2 => ?_) (fun hc2 => ?_)
  · replace hf := h_pos hc2 hf
    exact r_vret cx hw hr hlk hf dX5_putLong_18
  replace hf := h_neg hc2 hf
  refine lv_aload_n hx hb dX5_putLong_14 rfl (lv_at hl 0 rfl) ?_
  refine lv_iload_n hx hb dX5_putLong_15 rfl (lv_at hl 1 rfl) ?_
  refine lv_lload_n hx hb dX5_putLong_16 rfl (lv_at hl 2 rfl) ?_
  refine r_last cx hw hk0 rfl hf dX5_putLong_17 (fun S3 H locs hw hf => ?_)
  exact r_vret cx hw hr hlk hf dX5_putLong_18
theorem dX4_declare_0 : decode cX4_declare 0 = .ok (.aload_n 1, 1) := by decide +kernel
theorem dX4_declare_1 : decode cX4_declare 1 = .ok (.getfield 131, 3) := by decide +kernel
theorem dX4_declare_4 : decode cX4_declare 4 = .ok (.iload_n 2, 1) := by decide +kernel
theorem dX4_declare_5 : decode cX4_declare 5 = .ok (.invokestatic 134, 3) := by decide +kernel
theorem dX4_declare_8 : decode cX4_declare 8 = .ok (.lstore 5, 2) := by decide +kernel
theorem dX4_declare_10 : decode cX4_declare 10 = .ok (.aload_n 0, 1) := by decide +kernel
theorem dX4_declare_11 : decode cX4_declare 11 = .ok (.lload 5, 2) := by decide +kernel
theorem dX4_declare_13 : decode cX4_declare 13 = .ok (.invokevirtual 138, 3) := by decide +kernel
theorem dX4_declare_16 : decode cX4_declare 16 = .ok (.iconst (-1), 1) := by decide +kernel
theorem dX4_declare_17 : decode cX4_declare 17 = .ok (.if_icmp .eq 11, 3) := by decide +kernel
theorem dX4_declare_20 : decode cX4_declare 20 = .ok (.aload_n 0, 1) := by decide +kernel
theorem dX4_declare_21 : decode cX4_declare 21 = .ok (.iconst 3, 1) := by decide +kernel
theorem dX4_declare_22 : decode cX4_declare 22 = .ok (.aload_n 1, 1) := by decide +kernel
theorem dX4_declare_23 : decode cX4_declare 23 = .ok (.iload_n 2, 1) := by decide +kernel
theorem dX4_declare_24 : decode cX4_declare 24 = .ok (.invokevirtual 124, 3) := by decide +kernel
theorem dX4_declare_27 : decode cX4_declare 27 = .ok (.return_, 1) := by decide +kernel
theorem dX4_declare_28 : decode cX4_declare 28 = .ok (.aload_n 0, 1) := by decide +kernel
theorem dX4_declare_29 : decode cX4_declare 29 = .ok (.getfield 30, 3) := by decide +kernel
theorem dX4_declare_32 : decode cX4_declare 32 = .ok (.aload_n 0, 1) := by decide +kernel
theorem dX4_declare_33 : decode cX4_declare 33 = .ok (.getfield 72, 3) := by decide +kernel
theorem dX4_declare_36 : decode cX4_declare 36 = .ok (.lload 5, 2) := by decide +kernel
theorem dX4_declare_38 : decode cX4_declare 38 = .ok (.invokestatic 142, 3) := by decide +kernel
theorem dX4_declare_41 : decode cX4_declare 41 = .ok (.aload_n 0, 1) := by decide +kernel
theorem dX4_declare_42 : decode cX4_declare 42 = .ok (.getfield 34, 3) := by decide +kernel
theorem dX4_declare_45 : decode cX4_declare 45 = .ok (.aload_n 0, 1) := by decide +kernel
theorem dX4_declare_46 : decode cX4_declare 46 = .ok (.getfield 72, 3) := by decide +kernel
theorem dX4_declare_49 : decode cX4_declare 49 = .ok (.iload_n 3, 1) := by decide +kernel
theorem dX4_declare_50 : decode cX4_declare 50 = .ok (.bipush 100, 2) := by decide +kernel
theorem dX4_declare_52 : decode cX4_declare 52 = .ok (.imul, 1) := by decide +kernel
theorem dX4_declare_53 : decode cX4_declare 53 = .ok (.iload 4, 2) := by decide +kernel
theorem dX4_declare_55 : decode cX4_declare 55 = .ok (.iadd, 1) := by decide +kernel
theorem dX4_declare_56 : decode cX4_declare 56 = .ok (.invokestatic 111, 3) := by decide +kernel
theorem dX4_declare_59 : decode cX4_declare 59 = .ok (.aload_n 0, 1) := by decide +kernel
theorem dX4_declare_60 : decode cX4_declare 60 = .ok (.dup, 1) := by decide +kernel
theorem dX4_declare_61 : decode cX4_declare 61 = .ok (.getfield 72, 3) := by decide +kernel
theorem dX4_declare_64 : decode cX4_declare 64 = .ok (.iconst 1, 1) := by decide +kernel
theorem dX4_declare_65 : decode cX4_declare 65 = .ok (.iadd, 1) := by decide +kernel
theorem dX4_declare_66 : decode cX4_declare 66 = .ok (.putfield 72, 3) := by decide +kernel
theorem dX4_declare_69 : decode cX4_declare 69 = .ok (.return_, 1) := by decide +kernel
abbrev rm_X4_declare : Room := { frames := 2, cells := 0, slots := 0, locals := 44 }
def f_X4_declare (k0 : Nat) (S : St) (x2 : Int32) (x3 : Int32) (x4 : Int32) : Option (St) :=
  (f_X5_longAt (ky 1 3) S x2).bind (fun (q1 : Int64) => (f_X4_meaningOf k0 S q1).bind (fun (q2 : Int32) => if q2 = (-1 : Int32) then ((f_X5_putLong (ky k0 13) S (st_I S (ky k0 15)) q1).bind (fun (q4 : St) => (f_X5_put (ky k0 14) q4 (st_I q4 (ky k0 15)) ((x3 * (100 : Int32)) + x4)).bind (fun (q5 : St) => lt_v (up_I q5 (ky k0 15) ((st_I q5 (ky k0 15)) + (1 : Int32))) (fun (S6 : St) => some S6)))) else ((f_X4_fail k0 S (3 : Int32) x2).bind (fun (q7 : St) => some q7))))
set_option maxRecDepth 100000 in
set_option maxHeartbeats 4000000 in
theorem k_X4_declare (l : Launch) (g : GG) (hg : gd wd_C g) (k0 : Nat) (hk0 : hT g k0) (h1 : hs wd_C g 1 3) (S : St) (x2 : Int32) (x3 : Int32) (x4 : Int32) (q : St) (hf : f_X4_declare k0 S x2 x3 x4 = some q) : Met l yX4_declare (Cond.code yX4_declare cX4_declare 7 none :: gw_tbl) rm_X4_declare (va_Pc [.ref (gg_o g k0), .ref (gg_o g 1), .int x2, .int x3, .int x4] (wI wd_C g S)) (qc_v wd_C g q) 0 0 (aw g) := by
  refine mt_start (own := RX4) hg (by decide) rfl (Nat.le_of_ble_eq_true rfl) (fun p e s m args below meth c ls H locs cx hw hr hlk hl => ?_)
  have hx := cx.1
  have hb := cx.2.1
  have hown := cx.2.2.2.1
  have hts := cx.2.2.2.2.1
  have hl : lv_has ls 7 [(0, .ref (gg_o g k0)), (1, .ref (gg_o g 1)), (2, .int x2), (3, .int x3), (4, .int x4)] := hl
  replace hf := h_top hf
  unfold f_X4_declare at hf
  refine lv_aload_n hx hb dX4_declare_0 rfl (lv_at hl 1 rfl) ?_
  refine gf_X4_131 cx hw h1 dX4_declare_1 ?_
  refine lv_iload_n hx hb dX4_declare_4 rfl (lv_at hl 2 rfl) ?_
  refine r_SN_l (As := [.ref (gg_l g (ky 1 3)), .int x2]) (rest := []) cx hw hf (nw_at cx) lk_X4_134 (fun q1 hq => k_X5_longAt l g hg (ky 1 3) (h1.2.2.2.1 3 rfl) S x2 q1 hq) ⟨⟨rfl, rfl⟩, Nat.le_of_ble_eq_true rfl, Nat.le_of_ble_eq_true rfl⟩ rfl hl.1 rfl (Nat.le_of_ble_eq_true rfl) dX4_declare_5 ⟨Nat.zero_le _, Nat.zero_le _⟩ (fun q1 H locs hw hf => ?_)
  refine lv_lstore hx hb dX4_declare_8 hl (by decide) (lv' := [(5, .long q1), (0, .ref (gg_o g k0)), (1, .ref (gg_o g 1)), (2, .int x2), (3, .int x3), (4, .int x4)]) rfl (fun ls hl => ?_)
  refine lv_aload_n hx hb dX4_declare_10 rfl (lv_at hl 1 rfl) ?_
  refine lv_lload hx hb dX4_declare_11 (lv_at hl 0 rfl) ?_
  refine r_V_i (As := [.long q1]) (rest := []) cx hw hf hk0.1.2.1 (by rw [hk0.1.1]; rfl) lk_X4_138 (fun q2 hq => k_X4_meaningOf l g hg k0 hk0 S q1 q2 hq) ⟨⟨rfl, rfl⟩, Nat.le_of_ble_eq_true rfl, Nat.le_of_ble_eq_true rfl⟩ rfl hl.1 rfl (Nat.le_of_ble_eq_true rfl) dX4_declare_13 ⟨Nat.zero_le _, Nat.zero_le _⟩ (fun q2 H locs hw hf => ?_)
  refine lv_iconst (v := -1) hx hb dX4_declare_16 (by decide) ?_
  refine lv_icmp_eq hx hb dX4_declare_17 (tgt := 28) rfl (fun hc3 => ?_) (fun hc3 => ?_)
  · replace hf := h_pos hc3 hf
    refine lv_aload_n hx hb dX4_declare_28 rfl (lv_at hl 1 rfl) ?_
    refine gf_X4_30 cx hw hk0.1 dX4_declare_29 ?_
    refine lv_aload_n hx hb dX4_declare_32 rfl (lv_at hl 1 rfl) ?_
    refine gf_X4_72 cx hw hk0.1 dX4_declare_33 ?_
    refine lv_lload hx hb dX4_declare_36 (lv_at hl 0 rfl) ?_
    refine r_SN_v (As := [.ref (gg_l g (ky k0 13)), .int (st_I S (ky k0 15)), .long q1]) (rest := []) cx hw hf (nw_at cx) lk_X4_142 (fun q4 hq => k_X5_putLong l g hg (ky k0 13) (hk0.1.2.2.2.1 13 rfl) S (st_I S (ky k0 15)) q1 q4 hq) ⟨⟨rfl, rfl⟩, Nat.le_of_ble_eq_true rfl, Nat.le_of_ble_eq_true rfl⟩ rfl hl.1 rfl (Nat.le_of_ble_eq_true rfl) dX4_declare_38 ⟨Nat.zero_le _, Nat.zero_le _⟩ (fun q4 H locs hw hf => ?_)
    refine lv_aload_n hx hb dX4_declare_41 rfl (lv_at hl 1 rfl) ?_
    refine gf_X4_34 cx hw hk0.1 dX4_declare_42 ?_
    refine lv_aload_n hx hb dX4_declare_45 rfl (lv_at hl 1 rfl) ?_
    refine gf_X4_72 cx hw hk0.1 dX4_declare_46 ?_
    refine lv_iload_n hx hb dX4_declare_49 rfl (lv_at hl 4 rfl) ?_
    refine lv_bipush (v := 100) hx hb dX4_declare_50 (by decide) ?_
    refine lv_imul hx hb dX4_declare_52 ?_
    refine lv_iload hx hb dX4_declare_53 (lv_at hl 5 rfl) ?_
    refine lv_iadd hx hb dX4_declare_55 ?_
    refine r_SN_v (As := [.ref (gg_a g (ky k0 14)), .int (st_I q4 (ky k0 15)), .int ((x3 * (100 : Int32)) + x4)]) (rest := []) cx hw hf (nw_at cx) lk_X4_111 (fun q5 hq => k_X5_put l g hg (ky k0 14) (hk0.1.2.2.1 14 rfl) q4 (st_I q4 (ky k0 15)) ((x3 * (100 : Int32)) + x4) q5 hq) ⟨⟨rfl, rfl⟩, Nat.le_of_ble_eq_true rfl, Nat.le_of_ble_eq_true rfl⟩ rfl hl.1 rfl (Nat.le_of_ble_eq_true rfl) dX4_declare_56 ⟨Nat.zero_le _, Nat.zero_le _⟩ (fun q5 H locs hw hf => ?_)
    refine lv_aload_n hx hb dX4_declare_59 rfl (lv_at hl 1 rfl) ?_
    refine lv_dup hx hb dX4_declare_60 rfl ?_
    refine gf_X4_72 cx hw hk0.1 dX4_declare_61 ?_
    refine lv_iconst (v := 1) hx hb dX4_declare_64 (by decide) ?_
    refine lv_iadd hx hb dX4_declare_65 ?_
    refine pf_X4_72 cx hw hk0.1 hf dX4_declare_66 (fun S6 H locs hw hf => ?_)
    exact r_vret cx hw hr hlk hf dX4_declare_69
  replace hf := h_neg hc3 hf
  refine lv_aload_n hx hb dX4_declare_20 rfl (lv_at hl 1 rfl) ?_
  refine lv_iconst (v := 3) hx hb dX4_declare_21 (by decide) ?_
  refine lv_aload_n hx hb dX4_declare_22 rfl (lv_at hl 2 rfl) ?_
  refine lv_iload_n hx hb dX4_declare_23 rfl (lv_at hl 3 rfl) ?_
  refine r_V_v (As := [.int (3 : Int32), .ref (gg_o g 1), .int x2]) (rest := []) cx hw hf hk0.1.2.1 (by rw [hk0.1.1]; rfl) lk_X4_124 (fun q7 hq => k_X4_fail l g hg k0 hk0 h1 S (3 : Int32) x2 q7 hq) ⟨⟨rfl, rfl⟩, Nat.le_of_ble_eq_true rfl, Nat.le_of_ble_eq_true rfl⟩ rfl hl.1 rfl (Nat.le_of_ble_eq_true rfl) dX4_declare_24 ⟨Nat.zero_le _, Nat.zero_le _⟩ (fun q7 H locs hw hf => ?_)
  exact r_vret cx hw hr hlk hf dX4_declare_27
theorem dX4_named_0 : decode cX4_named 0 = .ok (.aload_n 0, 1) := by decide +kernel
theorem dX4_named_1 : decode cX4_named 1 = .ok (.aload_n 1, 1) := by decide +kernel
theorem dX4_named_2 : decode cX4_named 2 = .ok (.getfield 131, 3) := by decide +kernel
theorem dX4_named_5 : decode cX4_named 5 = .ok (.iload_n 2, 1) := by decide +kernel
theorem dX4_named_6 : decode cX4_named 6 = .ok (.invokestatic 134, 3) := by decide +kernel
theorem dX4_named_9 : decode cX4_named 9 = .ok (.invokevirtual 138, 3) := by decide +kernel
theorem dX4_named_12 : decode cX4_named 12 = .ok (.istore 4, 2) := by decide +kernel
theorem dX4_named_14 : decode cX4_named 14 = .ok (.iload 4, 2) := by decide +kernel
theorem dX4_named_16 : decode cX4_named 16 = .ok (.iload_n 3, 1) := by decide +kernel
theorem dX4_named_17 : decode cX4_named 17 = .ok (.bipush 100, 2) := by decide +kernel
theorem dX4_named_19 : decode cX4_named 19 = .ok (.imul, 1) := by decide +kernel
theorem dX4_named_20 : decode cX4_named 20 = .ok (.if_icmp .lt 23, 3) := by decide +kernel
theorem dX4_named_23 : decode cX4_named 23 = .ok (.iload 4, 2) := by decide +kernel
theorem dX4_named_25 : decode cX4_named 25 = .ok (.iload_n 3, 1) := by decide +kernel
theorem dX4_named_26 : decode cX4_named 26 = .ok (.bipush 100, 2) := by decide +kernel
theorem dX4_named_28 : decode cX4_named 28 = .ok (.imul, 1) := by decide +kernel
theorem dX4_named_29 : decode cX4_named 29 = .ok (.bipush 100, 2) := by decide +kernel
theorem dX4_named_31 : decode cX4_named 31 = .ok (.iadd, 1) := by decide +kernel
theorem dX4_named_32 : decode cX4_named 32 = .ok (.if_icmp .ge 11, 3) := by decide +kernel
theorem dX4_named_35 : decode cX4_named 35 = .ok (.iload 4, 2) := by decide +kernel
theorem dX4_named_37 : decode cX4_named 37 = .ok (.iload_n 3, 1) := by decide +kernel
theorem dX4_named_38 : decode cX4_named 38 = .ok (.bipush 100, 2) := by decide +kernel
theorem dX4_named_40 : decode cX4_named 40 = .ok (.imul, 1) := by decide +kernel
theorem dX4_named_41 : decode cX4_named 41 = .ok (.isub, 1) := by decide +kernel
theorem dX4_named_42 : decode cX4_named 42 = .ok (.ireturn, 1) := by decide +kernel
theorem dX4_named_43 : decode cX4_named 43 = .ok (.aload_n 0, 1) := by decide +kernel
theorem dX4_named_44 : decode cX4_named 44 = .ok (.iconst 4, 1) := by decide +kernel
theorem dX4_named_45 : decode cX4_named 45 = .ok (.aload_n 1, 1) := by decide +kernel
theorem dX4_named_46 : decode cX4_named 46 = .ok (.iload_n 2, 1) := by decide +kernel
theorem dX4_named_47 : decode cX4_named 47 = .ok (.invokevirtual 124, 3) := by decide +kernel
theorem dX4_named_50 : decode cX4_named 50 = .ok (.iconst (-1), 1) := by decide +kernel
theorem dX4_named_51 : decode cX4_named 51 = .ok (.ireturn, 1) := by decide +kernel
abbrev rm_X4_named : Room := { frames := 2, cells := 0, slots := 0, locals := 44 }
def f_X4_named_J43 (k0 : Nat) (S : St) (x2 : Int32) : Option (Int32 × St) :=
  (f_X4_fail k0 S (4 : Int32) x2).bind (fun (q4 : St) => some ((-1 : Int32), q4))
def f_X4_named (k0 : Nat) (S : St) (x2 : Int32) (x3 : Int32) : Option (Int32 × St) :=
  (f_X5_longAt (ky 1 3) S x2).bind (fun (q1 : Int64) => (f_X4_meaningOf k0 S q1).bind (fun (q2 : Int32) => if q2 < (x3 * (100 : Int32)) then (f_X4_named_J43 k0 S x2) else (if ((x3 * (100 : Int32)) + (100 : Int32)) ≤ q2 then (f_X4_named_J43 k0 S x2) else (some ((q2 - (x3 * (100 : Int32))), S)))))
set_option maxRecDepth 100000 in
set_option maxHeartbeats 4000000 in
theorem k_X4_named (l : Launch) (g : GG) (hg : gd wd_C g) (k0 : Nat) (hk0 : hT g k0) (h1 : hs wd_C g 1 3) (S : St) (x2 : Int32) (x3 : Int32) (q : Int32 × St) (hf : f_X4_named k0 S x2 x3 = some q) : Met l yX4_named (Cond.code yX4_named cX4_named 5 (some .int) :: gw_tbl) rm_X4_named (va_Pc [.ref (gg_o g k0), .ref (gg_o g 1), .int x2, .int x3] (wI wd_C g S)) (qc_w wd_C g q) 0 0 (aw g) := by
  refine mt_start (own := RX4) hg (by decide) rfl (Nat.le_of_ble_eq_true rfl) (fun p e s m args below meth c ls H locs cx hw hr hlk hl => ?_)
  have hx := cx.1
  have hb := cx.2.1
  have hown := cx.2.2.2.1
  have hts := cx.2.2.2.2.1
  have hl : lv_has ls 5 [(0, .ref (gg_o g k0)), (1, .ref (gg_o g 1)), (2, .int x2), (3, .int x3)] := hl
  replace hf := h_top hf
  unfold f_X4_named at hf
  have J43 : ∀ (ls : Array Slot) (H : Heap) (locs : List Loc) (S : St) (x2 : Int32), lv_has ls 5 [(0, .ref (gg_o g k0)), (1, .ref (gg_o g 1)), (2, .int x2)] → HH wd_C g s S H locs → (f_X4_named_J43 k0 S x2).bind some = some q → W p l e rm_X4_named s m args below meth c H locs 0 0 (MQ below (qc_w wd_C g q) args s 0 0 (aw g)) (F0 m 43 ls []) := by
    intro ls H locs S x2 hl hw hf
    unfold f_X4_named_J43 at hf
    refine lv_aload_n hx hb dX4_named_43 rfl (lv_at hl 0 rfl) ?_
    refine lv_iconst (v := 4) hx hb dX4_named_44 (by decide) ?_
    refine lv_aload_n hx hb dX4_named_45 rfl (lv_at hl 1 rfl) ?_
    refine lv_iload_n hx hb dX4_named_46 rfl (lv_at hl 2 rfl) ?_
    refine r_V_v (As := [.int (4 : Int32), .ref (gg_o g 1), .int x2]) (rest := []) cx hw hf hk0.1.2.1 (by rw [hk0.1.1]; rfl) lk_X4_124 (fun q4 hq => k_X4_fail l g hg k0 hk0 h1 S (4 : Int32) x2 q4 hq) ⟨⟨rfl, rfl⟩, Nat.le_of_ble_eq_true rfl, Nat.le_of_ble_eq_true rfl⟩ rfl hl.1 rfl (Nat.le_of_ble_eq_true rfl) dX4_named_47 ⟨Nat.zero_le _, Nat.zero_le _⟩ (fun q4 H locs hw hf => ?_)
    refine lv_iconst (v := -1) hx hb dX4_named_50 (by decide) ?_
    exact r_iretw cx hw hr hlk hf dX4_named_51
  refine lv_aload_n hx hb dX4_named_0 rfl (lv_at hl 0 rfl) ?_
  refine lv_aload_n hx hb dX4_named_1 rfl (lv_at hl 1 rfl) ?_
  refine gf_X4_131 cx hw h1 dX4_named_2 ?_
  refine lv_iload_n hx hb dX4_named_5 rfl (lv_at hl 2 rfl) ?_
  refine r_SN_l (As := [.ref (gg_l g (ky 1 3)), .int x2]) (rest := [.ref (gg_o g k0)]) cx hw hf (nw_at cx) lk_X4_134 (fun q1 hq => k_X5_longAt l g hg (ky 1 3) (h1.2.2.2.1 3 rfl) S x2 q1 hq) ⟨⟨rfl, rfl⟩, Nat.le_of_ble_eq_true rfl, Nat.le_of_ble_eq_true rfl⟩ rfl hl.1 rfl (Nat.le_of_ble_eq_true rfl) dX4_named_6 ⟨Nat.zero_le _, Nat.zero_le _⟩ (fun q1 H locs hw hf => ?_)
  refine r_V_i (As := [.long q1]) (rest := []) cx hw hf hk0.1.2.1 (by rw [hk0.1.1]; rfl) lk_X4_138 (fun q2 hq => k_X4_meaningOf l g hg k0 hk0 S q1 q2 hq) ⟨⟨rfl, rfl⟩, Nat.le_of_ble_eq_true rfl, Nat.le_of_ble_eq_true rfl⟩ rfl hl.1 rfl (Nat.le_of_ble_eq_true rfl) dX4_named_9 ⟨Nat.zero_le _, Nat.zero_le _⟩ (fun q2 H locs hw hf => ?_)
  refine lv_istore hx hb dX4_named_12 hl (by decide) (lv' := [(4, .int q2), (0, .ref (gg_o g k0)), (1, .ref (gg_o g 1)), (2, .int x2), (3, .int x3)]) rfl (fun ls hl => ?_)
  refine lv_iload hx hb dX4_named_14 (lv_at hl 0 rfl) ?_
  refine lv_iload_n hx hb dX4_named_16 rfl (lv_at hl 4 rfl) ?_
  refine lv_bipush (v := 100) hx hb dX4_named_17 (by decide) ?_
  refine lv_imul hx hb dX4_named_19 ?_
  refine lv_icmp_lt hx hb dX4_named_20 (tgt := 43) rfl (fun hc3 => ?_) (fun hc3 => ?_)
  · replace hf := h_pos hc3 hf
    exact J43 _ _ _ S x2 (lv_sub hl [1, 2, 3] rfl) hw hf
  replace hf := h_neg hc3 hf
  refine lv_iload hx hb dX4_named_23 (lv_at hl 0 rfl) ?_
  refine lv_iload_n hx hb dX4_named_25 rfl (lv_at hl 4 rfl) ?_
  refine lv_bipush (v := 100) hx hb dX4_named_26 (by decide) ?_
  refine lv_imul hx hb dX4_named_28 ?_
  refine lv_bipush (v := 100) hx hb dX4_named_29 (by decide) ?_
  refine lv_iadd hx hb dX4_named_31 ?_
  refine lv_icmp_ge hx hb dX4_named_32 (tgt := 43) rfl (fun hc5 => ?_) (fun hc5 => ?_)
  · replace hf := h_pos hc5 hf
    exact J43 _ _ _ S x2 (lv_sub hl [1, 2, 3] rfl) hw hf
  replace hf := h_neg hc5 hf
  refine lv_iload hx hb dX4_named_35 (lv_at hl 0 rfl) ?_
  refine lv_iload_n hx hb dX4_named_37 rfl (lv_at hl 4 rfl) ?_
  refine lv_bipush (v := 100) hx hb dX4_named_38 (by decide) ?_
  refine lv_imul hx hb dX4_named_40 ?_
  refine lv_isub hx hb dX4_named_41 ?_
  exact r_iretw cx hw hr hlk hf dX4_named_42
theorem dX4_takeDoor_0 : decode cX4_takeDoor 0 = .ok (.aload_n 0, 1) := by decide +kernel
theorem dX4_takeDoor_1 : decode cX4_takeDoor 1 = .ok (.aload_n 1, 1) := by decide +kernel
theorem dX4_takeDoor_2 : decode cX4_takeDoor 2 = .ok (.iload_n 2, 1) := by decide +kernel
theorem dX4_takeDoor_3 : decode cX4_takeDoor 3 = .ok (.iconst 1, 1) := by decide +kernel
theorem dX4_takeDoor_4 : decode cX4_takeDoor 4 = .ok (.iadd, 1) := by decide +kernel
theorem dX4_takeDoor_5 : decode cX4_takeDoor 5 = .ok (.iconst 0, 1) := by decide +kernel
theorem dX4_takeDoor_6 : decode cX4_takeDoor 6 = .ok (.invokevirtual 106, 3) := by decide +kernel
theorem dX4_takeDoor_9 : decode cX4_takeDoor 9 = .ok (.istore_n 3, 1) := by decide +kernel
theorem dX4_takeDoor_10 : decode cX4_takeDoor 10 = .ok (.aload_n 0, 1) := by decide +kernel
theorem dX4_takeDoor_11 : decode cX4_takeDoor 11 = .ok (.aload_n 1, 1) := by decide +kernel
theorem dX4_takeDoor_12 : decode cX4_takeDoor 12 = .ok (.iload_n 2, 1) := by decide +kernel
theorem dX4_takeDoor_13 : decode cX4_takeDoor 13 = .ok (.iconst 2, 1) := by decide +kernel
theorem dX4_takeDoor_14 : decode cX4_takeDoor 14 = .ok (.iadd, 1) := by decide +kernel
theorem dX4_takeDoor_15 : decode cX4_takeDoor 15 = .ok (.iconst 0, 1) := by decide +kernel
theorem dX4_takeDoor_16 : decode cX4_takeDoor 16 = .ok (.invokevirtual 106, 3) := by decide +kernel
theorem dX4_takeDoor_19 : decode cX4_takeDoor 19 = .ok (.istore 4, 2) := by decide +kernel
theorem dX4_takeDoor_21 : decode cX4_takeDoor 21 = .ok (.iload_n 3, 1) := by decide +kernel
theorem dX4_takeDoor_22 : decode cX4_takeDoor 22 = .ok (.iload 4, 2) := by decide +kernel
theorem dX4_takeDoor_24 : decode cX4_takeDoor 24 = .ok (.if_icmp .ne 12, 3) := by decide +kernel
theorem dX4_takeDoor_27 : decode cX4_takeDoor 27 = .ok (.aload_n 0, 1) := by decide +kernel
theorem dX4_takeDoor_28 : decode cX4_takeDoor 28 = .ok (.iconst 3, 1) := by decide +kernel
theorem dX4_takeDoor_29 : decode cX4_takeDoor 29 = .ok (.aload_n 1, 1) := by decide +kernel
theorem dX4_takeDoor_30 : decode cX4_takeDoor 30 = .ok (.iload_n 2, 1) := by decide +kernel
theorem dX4_takeDoor_31 : decode cX4_takeDoor 31 = .ok (.iconst 2, 1) := by decide +kernel
theorem dX4_takeDoor_32 : decode cX4_takeDoor 32 = .ok (.iadd, 1) := by decide +kernel
theorem dX4_takeDoor_33 : decode cX4_takeDoor 33 = .ok (.invokevirtual 124, 3) := by decide +kernel
theorem dX4_takeDoor_36 : decode cX4_takeDoor 36 = .ok (.aload_n 0, 1) := by decide +kernel
theorem dX4_takeDoor_37 : decode cX4_takeDoor 37 = .ok (.getfield 9, 3) := by decide +kernel
theorem dX4_takeDoor_40 : decode cX4_takeDoor 40 = .ok (.aload_n 0, 1) := by decide +kernel
theorem dX4_takeDoor_41 : decode cX4_takeDoor 41 = .ok (.getfield 54, 3) := by decide +kernel
theorem dX4_takeDoor_44 : decode cX4_takeDoor 44 = .ok (.iconst 2, 1) := by decide +kernel
theorem dX4_takeDoor_45 : decode cX4_takeDoor 45 = .ok (.imul, 1) := by decide +kernel
theorem dX4_takeDoor_46 : decode cX4_takeDoor 46 = .ok (.iload_n 3, 1) := by decide +kernel
theorem dX4_takeDoor_47 : decode cX4_takeDoor 47 = .ok (.invokestatic 111, 3) := by decide +kernel
theorem dX4_takeDoor_50 : decode cX4_takeDoor 50 = .ok (.aload_n 0, 1) := by decide +kernel
theorem dX4_takeDoor_51 : decode cX4_takeDoor 51 = .ok (.getfield 9, 3) := by decide +kernel
theorem dX4_takeDoor_54 : decode cX4_takeDoor 54 = .ok (.aload_n 0, 1) := by decide +kernel
theorem dX4_takeDoor_55 : decode cX4_takeDoor 55 = .ok (.getfield 54, 3) := by decide +kernel
theorem dX4_takeDoor_58 : decode cX4_takeDoor 58 = .ok (.iconst 2, 1) := by decide +kernel
theorem dX4_takeDoor_59 : decode cX4_takeDoor 59 = .ok (.imul, 1) := by decide +kernel
theorem dX4_takeDoor_60 : decode cX4_takeDoor 60 = .ok (.iconst 1, 1) := by decide +kernel
theorem dX4_takeDoor_61 : decode cX4_takeDoor 61 = .ok (.iadd, 1) := by decide +kernel
theorem dX4_takeDoor_62 : decode cX4_takeDoor 62 = .ok (.iload 4, 2) := by decide +kernel
theorem dX4_takeDoor_64 : decode cX4_takeDoor 64 = .ok (.invokestatic 111, 3) := by decide +kernel
theorem dX4_takeDoor_67 : decode cX4_takeDoor 67 = .ok (.aload_n 0, 1) := by decide +kernel
theorem dX4_takeDoor_68 : decode cX4_takeDoor 68 = .ok (.dup, 1) := by decide +kernel
theorem dX4_takeDoor_69 : decode cX4_takeDoor 69 = .ok (.getfield 54, 3) := by decide +kernel
theorem dX4_takeDoor_72 : decode cX4_takeDoor 72 = .ok (.iconst 1, 1) := by decide +kernel
theorem dX4_takeDoor_73 : decode cX4_takeDoor 73 = .ok (.iadd, 1) := by decide +kernel
theorem dX4_takeDoor_74 : decode cX4_takeDoor 74 = .ok (.putfield 54, 3) := by decide +kernel
theorem dX4_takeDoor_77 : decode cX4_takeDoor 77 = .ok (.return_, 1) := by decide +kernel
abbrev rm_X4_takeDoor : Room := { frames := 3, cells := 0, slots := 0, locals := 68 }
def f_X4_takeDoor_J36 (k0 : Nat) (S : St) (x3 : Int32) (x4 : Int32) : Option (St) :=
  (f_X5_put (ky k0 7) S ((st_I S (ky k0 1)) * (2 : Int32)) x3).bind (fun (q4 : St) => (f_X5_put (ky k0 7) q4 (((st_I q4 (ky k0 1)) * (2 : Int32)) + (1 : Int32)) x4).bind (fun (q5 : St) => lt_v (up_I q5 (ky k0 1) ((st_I q5 (ky k0 1)) + (1 : Int32))) (fun (S6 : St) => some S6)))
def f_X4_takeDoor (k0 : Nat) (S : St) (x2 : Int32) : Option (St) :=
  (f_X4_named k0 S (x2 + (1 : Int32)) (0 : Int32)).bind (fun (q1 : Int32 × St) => (f_X4_named k0 q1.2 (x2 + (2 : Int32)) (0 : Int32)).bind (fun (q2 : Int32 × St) => if q1.1 = q2.1 then ((f_X4_fail k0 q2.2 (3 : Int32) (x2 + (2 : Int32))).bind (fun (q7 : St) => f_X4_takeDoor_J36 k0 q7 q1.1 q2.1)) else (f_X4_takeDoor_J36 k0 q2.2 q1.1 q2.1)))
set_option maxRecDepth 100000 in
set_option maxHeartbeats 4000000 in
theorem k_X4_takeDoor (l : Launch) (g : GG) (hg : gd wd_C g) (k0 : Nat) (hk0 : hT g k0) (h1 : hs wd_C g 1 3) (S : St) (x2 : Int32) (q : St) (hf : f_X4_takeDoor k0 S x2 = some q) : Met l yX4_takeDoor (Cond.code yX4_takeDoor cX4_takeDoor 5 none :: gw_tbl) rm_X4_takeDoor (va_Pc [.ref (gg_o g k0), .ref (gg_o g 1), .int x2] (wI wd_C g S)) (qc_v wd_C g q) 0 0 (aw g) := by
  refine mt_start (own := RX4) hg (by decide) rfl (Nat.le_of_ble_eq_true rfl) (fun p e s m args below meth c ls H locs cx hw hr hlk hl => ?_)
  have hx := cx.1
  have hb := cx.2.1
  have hown := cx.2.2.2.1
  have hts := cx.2.2.2.2.1
  have hl : lv_has ls 5 [(0, .ref (gg_o g k0)), (1, .ref (gg_o g 1)), (2, .int x2)] := hl
  replace hf := h_top hf
  unfold f_X4_takeDoor at hf
  have J36 : ∀ (ls : Array Slot) (H : Heap) (locs : List Loc) (S : St) (x3 : Int32) (x4 : Int32), lv_has ls 5 [(0, .ref (gg_o g k0)), (3, .int x3), (4, .int x4)] → HH wd_C g s S H locs → (f_X4_takeDoor_J36 k0 S x3 x4).bind some = some q → W p l e rm_X4_takeDoor s m args below meth c H locs 0 0 (MQ below (qc_v wd_C g q) args s 0 0 (aw g)) (F0 m 36 ls []) := by
    intro ls H locs S x3 x4 hl hw hf
    unfold f_X4_takeDoor_J36 at hf
    refine lv_aload_n hx hb dX4_takeDoor_36 rfl (lv_at hl 0 rfl) ?_
    refine gf_X4_9 cx hw hk0.1 dX4_takeDoor_37 ?_
    refine lv_aload_n hx hb dX4_takeDoor_40 rfl (lv_at hl 0 rfl) ?_
    refine gf_X4_54 cx hw hk0.1 dX4_takeDoor_41 ?_
    refine lv_iconst (v := 2) hx hb dX4_takeDoor_44 (by decide) ?_
    refine lv_imul hx hb dX4_takeDoor_45 ?_
    refine lv_iload_n hx hb dX4_takeDoor_46 rfl (lv_at hl 1 rfl) ?_
    refine r_SN_v (As := [.ref (gg_a g (ky k0 7)), .int ((st_I S (ky k0 1)) * (2 : Int32)), .int x3]) (rest := []) cx hw hf (nw_at cx) lk_X4_111 (fun q4 hq => k_X5_put l g hg (ky k0 7) (hk0.1.2.2.1 7 rfl) S ((st_I S (ky k0 1)) * (2 : Int32)) x3 q4 hq) ⟨⟨rfl, rfl⟩, Nat.le_of_ble_eq_true rfl, Nat.le_of_ble_eq_true rfl⟩ rfl hl.1 rfl (Nat.le_of_ble_eq_true rfl) dX4_takeDoor_47 ⟨Nat.zero_le _, Nat.zero_le _⟩ (fun q4 H locs hw hf => ?_)
    refine lv_aload_n hx hb dX4_takeDoor_50 rfl (lv_at hl 0 rfl) ?_
    refine gf_X4_9 cx hw hk0.1 dX4_takeDoor_51 ?_
    refine lv_aload_n hx hb dX4_takeDoor_54 rfl (lv_at hl 0 rfl) ?_
    refine gf_X4_54 cx hw hk0.1 dX4_takeDoor_55 ?_
    refine lv_iconst (v := 2) hx hb dX4_takeDoor_58 (by decide) ?_
    refine lv_imul hx hb dX4_takeDoor_59 ?_
    refine lv_iconst (v := 1) hx hb dX4_takeDoor_60 (by decide) ?_
    refine lv_iadd hx hb dX4_takeDoor_61 ?_
    refine lv_iload hx hb dX4_takeDoor_62 (lv_at hl 2 rfl) ?_
    refine r_SN_v (As := [.ref (gg_a g (ky k0 7)), .int (((st_I q4 (ky k0 1)) * (2 : Int32)) + (1 : Int32)), .int x4]) (rest := []) cx hw hf (nw_at cx) lk_X4_111 (fun q5 hq => k_X5_put l g hg (ky k0 7) (hk0.1.2.2.1 7 rfl) q4 (((st_I q4 (ky k0 1)) * (2 : Int32)) + (1 : Int32)) x4 q5 hq) ⟨⟨rfl, rfl⟩, Nat.le_of_ble_eq_true rfl, Nat.le_of_ble_eq_true rfl⟩ rfl hl.1 rfl (Nat.le_of_ble_eq_true rfl) dX4_takeDoor_64 ⟨Nat.zero_le _, Nat.zero_le _⟩ (fun q5 H locs hw hf => ?_)
    refine lv_aload_n hx hb dX4_takeDoor_67 rfl (lv_at hl 0 rfl) ?_
    refine lv_dup hx hb dX4_takeDoor_68 rfl ?_
    refine gf_X4_54 cx hw hk0.1 dX4_takeDoor_69 ?_
    refine lv_iconst (v := 1) hx hb dX4_takeDoor_72 (by decide) ?_
    refine lv_iadd hx hb dX4_takeDoor_73 ?_
    refine pf_X4_54 cx hw hk0.1 hf dX4_takeDoor_74 (fun S6 H locs hw hf => ?_)
    exact r_vret cx hw hr hlk hf dX4_takeDoor_77
  refine lv_aload_n hx hb dX4_takeDoor_0 rfl (lv_at hl 0 rfl) ?_
  refine lv_aload_n hx hb dX4_takeDoor_1 rfl (lv_at hl 1 rfl) ?_
  refine lv_iload_n hx hb dX4_takeDoor_2 rfl (lv_at hl 2 rfl) ?_
  refine lv_iconst (v := 1) hx hb dX4_takeDoor_3 (by decide) ?_
  refine lv_iadd hx hb dX4_takeDoor_4 ?_
  refine lv_iconst (v := 0) hx hb dX4_takeDoor_5 (by decide) ?_
  refine r_V_w (As := [.ref (gg_o g 1), .int (x2 + (1 : Int32)), .int (0 : Int32)]) (rest := []) cx hw hf hk0.1.2.1 (by rw [hk0.1.1]; rfl) lk_X4_106 (fun q1 hq => k_X4_named l g hg k0 hk0 h1 S (x2 + (1 : Int32)) (0 : Int32) q1 hq) ⟨⟨rfl, rfl⟩, Nat.le_of_ble_eq_true rfl, Nat.le_of_ble_eq_true rfl⟩ rfl hl.1 rfl (Nat.le_of_ble_eq_true rfl) dX4_takeDoor_6 ⟨Nat.zero_le _, Nat.zero_le _⟩ (fun q1 H locs hw hf => ?_)
  refine lv_istore_n hx hb dX4_takeDoor_9 rfl hl (by decide) (lv' := [(3, .int q1.1), (0, .ref (gg_o g k0)), (1, .ref (gg_o g 1)), (2, .int x2)]) rfl (fun ls hl => ?_)
  refine lv_aload_n hx hb dX4_takeDoor_10 rfl (lv_at hl 1 rfl) ?_
  refine lv_aload_n hx hb dX4_takeDoor_11 rfl (lv_at hl 2 rfl) ?_
  refine lv_iload_n hx hb dX4_takeDoor_12 rfl (lv_at hl 3 rfl) ?_
  refine lv_iconst (v := 2) hx hb dX4_takeDoor_13 (by decide) ?_
  refine lv_iadd hx hb dX4_takeDoor_14 ?_
  refine lv_iconst (v := 0) hx hb dX4_takeDoor_15 (by decide) ?_
  refine r_V_w (As := [.ref (gg_o g 1), .int (x2 + (2 : Int32)), .int (0 : Int32)]) (rest := []) cx hw hf hk0.1.2.1 (by rw [hk0.1.1]; rfl) lk_X4_106 (fun q2 hq => k_X4_named l g hg k0 hk0 h1 q1.2 (x2 + (2 : Int32)) (0 : Int32) q2 hq) ⟨⟨rfl, rfl⟩, Nat.le_of_ble_eq_true rfl, Nat.le_of_ble_eq_true rfl⟩ rfl hl.1 rfl (Nat.le_of_ble_eq_true rfl) dX4_takeDoor_16 ⟨Nat.zero_le _, Nat.zero_le _⟩ (fun q2 H locs hw hf => ?_)
  refine lv_istore hx hb dX4_takeDoor_19 hl (by decide) (lv' := [(4, .int q2.1), (3, .int q1.1), (0, .ref (gg_o g k0)), (1, .ref (gg_o g 1)), (2, .int x2)]) rfl (fun ls hl => ?_)
  refine lv_iload_n hx hb dX4_takeDoor_21 rfl (lv_at hl 1 rfl) ?_
  refine lv_iload hx hb dX4_takeDoor_22 (lv_at hl 0 rfl) ?_
  refine lv_icmp_ne hx hb dX4_takeDoor_24 (tgt := 36) rfl (fun hc3 => ?_) (fun hc3 => ?_)
  · replace hf := h_neg hc3 hf
    exact J36 _ _ _ q2.2 q1.1 q2.1 (lv_sub hl [2, 1, 0] rfl) hw hf
  replace hf := h_pos hc3 hf
  refine lv_aload_n hx hb dX4_takeDoor_27 rfl (lv_at hl 2 rfl) ?_
  refine lv_iconst (v := 3) hx hb dX4_takeDoor_28 (by decide) ?_
  refine lv_aload_n hx hb dX4_takeDoor_29 rfl (lv_at hl 3 rfl) ?_
  refine lv_iload_n hx hb dX4_takeDoor_30 rfl (lv_at hl 4 rfl) ?_
  refine lv_iconst (v := 2) hx hb dX4_takeDoor_31 (by decide) ?_
  refine lv_iadd hx hb dX4_takeDoor_32 ?_
  refine r_V_v (As := [.int (3 : Int32), .ref (gg_o g 1), .int (x2 + (2 : Int32))]) (rest := []) cx hw hf hk0.1.2.1 (by rw [hk0.1.1]; rfl) lk_X4_124 (fun q7 hq => k_X4_fail l g hg k0 hk0 h1 q2.2 (3 : Int32) (x2 + (2 : Int32)) q7 hq) ⟨⟨rfl, rfl⟩, Nat.le_of_ble_eq_true rfl, Nat.le_of_ble_eq_true rfl⟩ rfl hl.1 rfl (Nat.le_of_ble_eq_true rfl) dX4_takeDoor_33 ⟨Nat.zero_le _, Nat.zero_le _⟩ (fun q7 H locs hw hf => ?_)
  exact J36 _ _ _ q7 q1.1 q2.1 (lv_sub hl [2, 1, 0] rfl) hw hf
theorem dX4_number_0 : decode cX4_number 0 = .ok (.aload_n 1, 1) := by decide +kernel
theorem dX4_number_1 : decode cX4_number 1 = .ok (.getfield 131, 3) := by decide +kernel
theorem dX4_number_4 : decode cX4_number 4 = .ok (.iload_n 2, 1) := by decide +kernel
theorem dX4_number_5 : decode cX4_number 5 = .ok (.invokestatic 134, 3) := by decide +kernel
theorem dX4_number_8 : decode cX4_number 8 = .ok (.l2i, 1) := by decide +kernel
theorem dX4_number_9 : decode cX4_number 9 = .ok (.istore 4, 2) := by decide +kernel
theorem dX4_number_11 : decode cX4_number 11 = .ok (.iload 4, 2) := by decide +kernel
theorem dX4_number_13 : decode cX4_number 13 = .ok (.iload_n 3, 1) := by decide +kernel
theorem dX4_number_14 : decode cX4_number 14 = .ok (.if_icmp .le 10, 3) := by decide +kernel
theorem dX4_number_17 : decode cX4_number 17 = .ok (.aload_n 0, 1) := by decide +kernel
theorem dX4_number_18 : decode cX4_number 18 = .ok (.iconst 5, 1) := by decide +kernel
theorem dX4_number_19 : decode cX4_number 19 = .ok (.aload_n 1, 1) := by decide +kernel
theorem dX4_number_20 : decode cX4_number 20 = .ok (.iload_n 2, 1) := by decide +kernel
theorem dX4_number_21 : decode cX4_number 21 = .ok (.invokevirtual 124, 3) := by decide +kernel
theorem dX4_number_24 : decode cX4_number 24 = .ok (.iload 4, 2) := by decide +kernel
theorem dX4_number_26 : decode cX4_number 26 = .ok (.ireturn, 1) := by decide +kernel
abbrev rm_X4_number : Room := { frames := 2, cells := 0, slots := 0, locals := 44 }
def f_X4_number (k0 : Nat) (S : St) (x2 : Int32) (x3 : Int32) : Option (Int32 × St) :=
  (f_X5_longAt (ky 1 3) S x2).bind (fun (q1 : Int64) => if (q1.toInt32) ≤ x3 then (some ((q1.toInt32), S)) else ((f_X4_fail k0 S (5 : Int32) x2).bind (fun (q3 : St) => some ((q1.toInt32), q3))))
set_option maxRecDepth 100000 in
set_option maxHeartbeats 4000000 in
theorem k_X4_number (l : Launch) (g : GG) (hg : gd wd_C g) (k0 : Nat) (hk0 : hT g k0) (h1 : hs wd_C g 1 3) (S : St) (x2 : Int32) (x3 : Int32) (q : Int32 × St) (hf : f_X4_number k0 S x2 x3 = some q) : Met l yX4_number (Cond.code yX4_number cX4_number 5 (some .int) :: gw_tbl) rm_X4_number (va_Pc [.ref (gg_o g k0), .ref (gg_o g 1), .int x2, .int x3] (wI wd_C g S)) (qc_w wd_C g q) 0 0 (aw g) := by
  refine mt_start (own := RX4) hg (by decide) rfl (Nat.le_of_ble_eq_true rfl) (fun p e s m args below meth c ls H locs cx hw hr hlk hl => ?_)
  have hx := cx.1
  have hb := cx.2.1
  have hown := cx.2.2.2.1
  have hts := cx.2.2.2.2.1
  have hl : lv_has ls 5 [(0, .ref (gg_o g k0)), (1, .ref (gg_o g 1)), (2, .int x2), (3, .int x3)] := hl
  replace hf := h_top hf
  unfold f_X4_number at hf
  refine lv_aload_n hx hb dX4_number_0 rfl (lv_at hl 1 rfl) ?_
  refine gf_X4_131 cx hw h1 dX4_number_1 ?_
  refine lv_iload_n hx hb dX4_number_4 rfl (lv_at hl 2 rfl) ?_
  refine r_SN_l (As := [.ref (gg_l g (ky 1 3)), .int x2]) (rest := []) cx hw hf (nw_at cx) lk_X4_134 (fun q1 hq => k_X5_longAt l g hg (ky 1 3) (h1.2.2.2.1 3 rfl) S x2 q1 hq) ⟨⟨rfl, rfl⟩, Nat.le_of_ble_eq_true rfl, Nat.le_of_ble_eq_true rfl⟩ rfl hl.1 rfl (Nat.le_of_ble_eq_true rfl) dX4_number_5 ⟨Nat.zero_le _, Nat.zero_le _⟩ (fun q1 H locs hw hf => ?_)
  refine lv_l2i (v := (q1.toInt32)) hx hb dX4_number_8 rfl ?_
  refine lv_istore hx hb dX4_number_9 hl (by decide) (lv' := [(4, .int (q1.toInt32)), (0, .ref (gg_o g k0)), (1, .ref (gg_o g 1)), (2, .int x2), (3, .int x3)]) rfl (fun ls hl => ?_)
  refine lv_iload hx hb dX4_number_11 (lv_at hl 0 rfl) ?_
  refine lv_iload_n hx hb dX4_number_13 rfl (lv_at hl 4 rfl) ?_
  refine lv_icmp_le hx hb dX4_number_14 (tgt := 24) rfl (fun hc2 => ?_) (fun hc2 => ?_)
  · replace hf := h_pos hc2 hf
    refine lv_iload hx hb dX4_number_24 (lv_at hl 0 rfl) ?_
    exact r_iretw cx hw hr hlk hf dX4_number_26
  replace hf := h_neg hc2 hf
  refine lv_aload_n hx hb dX4_number_17 rfl (lv_at hl 1 rfl) ?_
  refine lv_iconst (v := 5) hx hb dX4_number_18 (by decide) ?_
  refine lv_aload_n hx hb dX4_number_19 rfl (lv_at hl 2 rfl) ?_
  refine lv_iload_n hx hb dX4_number_20 rfl (lv_at hl 3 rfl) ?_
  refine r_V_v (As := [.int (5 : Int32), .ref (gg_o g 1), .int x2]) (rest := []) cx hw hf hk0.1.2.1 (by rw [hk0.1.1]; rfl) lk_X4_124 (fun q3 hq => k_X4_fail l g hg k0 hk0 h1 S (5 : Int32) x2 q3 hq) ⟨⟨rfl, rfl⟩, Nat.le_of_ble_eq_true rfl, Nat.le_of_ble_eq_true rfl⟩ rfl hl.1 rfl (Nat.le_of_ble_eq_true rfl) dX4_number_21 ⟨Nat.zero_le _, Nat.zero_le _⟩ (fun q3 H locs hw hf => ?_)
  refine lv_iload hx hb dX4_number_24 (lv_at hl 0 rfl) ?_
  exact r_iretw cx hw hr hlk hf dX4_number_26
theorem dX4_takeMan_0 : decode cX4_takeMan 0 = .ok (.aload_n 0, 1) := by decide +kernel
theorem dX4_takeMan_1 : decode cX4_takeMan 1 = .ok (.aload_n 1, 1) := by decide +kernel
theorem dX4_takeMan_2 : decode cX4_takeMan 2 = .ok (.iload_n 2, 1) := by decide +kernel
theorem dX4_takeMan_3 : decode cX4_takeMan 3 = .ok (.iconst 1, 1) := by decide +kernel
theorem dX4_takeMan_4 : decode cX4_takeMan 4 = .ok (.iadd, 1) := by decide +kernel
theorem dX4_takeMan_5 : decode cX4_takeMan 5 = .ok (.iconst 1, 1) := by decide +kernel
theorem dX4_takeMan_6 : decode cX4_takeMan 6 = .ok (.aload_n 0, 1) := by decide +kernel
theorem dX4_takeMan_7 : decode cX4_takeMan 7 = .ok (.getfield 57, 3) := by decide +kernel
theorem dX4_takeMan_10 : decode cX4_takeMan 10 = .ok (.invokevirtual 95, 3) := by decide +kernel
theorem dX4_takeMan_13 : decode cX4_takeMan 13 = .ok (.aload_n 0, 1) := by decide +kernel
theorem dX4_takeMan_14 : decode cX4_takeMan 14 = .ok (.getfield 15, 3) := by decide +kernel
theorem dX4_takeMan_17 : decode cX4_takeMan 17 = .ok (.aload_n 0, 1) := by decide +kernel
theorem dX4_takeMan_18 : decode cX4_takeMan 18 = .ok (.getfield 57, 3) := by decide +kernel
theorem dX4_takeMan_21 : decode cX4_takeMan 21 = .ok (.aload_n 0, 1) := by decide +kernel
theorem dX4_takeMan_22 : decode cX4_takeMan 22 = .ok (.aload_n 1, 1) := by decide +kernel
theorem dX4_takeMan_23 : decode cX4_takeMan 23 = .ok (.iload_n 2, 1) := by decide +kernel
theorem dX4_takeMan_24 : decode cX4_takeMan 24 = .ok (.iconst 2, 1) := by decide +kernel
theorem dX4_takeMan_25 : decode cX4_takeMan 25 = .ok (.iadd, 1) := by decide +kernel
theorem dX4_takeMan_26 : decode cX4_takeMan 26 = .ok (.bipush 20, 2) := by decide +kernel
theorem dX4_takeMan_28 : decode cX4_takeMan 28 = .ok (.invokevirtual 121, 3) := by decide +kernel
theorem dX4_takeMan_31 : decode cX4_takeMan 31 = .ok (.invokestatic 111, 3) := by decide +kernel
theorem dX4_takeMan_34 : decode cX4_takeMan 34 = .ok (.aload_n 0, 1) := by decide +kernel
theorem dX4_takeMan_35 : decode cX4_takeMan 35 = .ok (.getfield 18, 3) := by decide +kernel
theorem dX4_takeMan_38 : decode cX4_takeMan 38 = .ok (.aload_n 0, 1) := by decide +kernel
theorem dX4_takeMan_39 : decode cX4_takeMan 39 = .ok (.getfield 57, 3) := by decide +kernel
theorem dX4_takeMan_42 : decode cX4_takeMan 42 = .ok (.aload_n 0, 1) := by decide +kernel
theorem dX4_takeMan_43 : decode cX4_takeMan 43 = .ok (.aload_n 1, 1) := by decide +kernel
theorem dX4_takeMan_44 : decode cX4_takeMan 44 = .ok (.iload_n 2, 1) := by decide +kernel
theorem dX4_takeMan_45 : decode cX4_takeMan 45 = .ok (.iconst 3, 1) := by decide +kernel
theorem dX4_takeMan_46 : decode cX4_takeMan 46 = .ok (.iadd, 1) := by decide +kernel
theorem dX4_takeMan_47 : decode cX4_takeMan 47 = .ok (.iconst 0, 1) := by decide +kernel
theorem dX4_takeMan_48 : decode cX4_takeMan 48 = .ok (.invokevirtual 106, 3) := by decide +kernel
theorem dX4_takeMan_51 : decode cX4_takeMan 51 = .ok (.invokestatic 111, 3) := by decide +kernel
theorem dX4_takeMan_54 : decode cX4_takeMan 54 = .ok (.aload_n 0, 1) := by decide +kernel
theorem dX4_takeMan_55 : decode cX4_takeMan 55 = .ok (.getfield 21, 3) := by decide +kernel
theorem dX4_takeMan_58 : decode cX4_takeMan 58 = .ok (.aload_n 0, 1) := by decide +kernel
theorem dX4_takeMan_59 : decode cX4_takeMan 59 = .ok (.getfield 57, 3) := by decide +kernel
theorem dX4_takeMan_62 : decode cX4_takeMan 62 = .ok (.iconst 0, 1) := by decide +kernel
theorem dX4_takeMan_63 : decode cX4_takeMan 63 = .ok (.invokestatic 111, 3) := by decide +kernel
theorem dX4_takeMan_66 : decode cX4_takeMan 66 = .ok (.aload_n 0, 1) := by decide +kernel
theorem dX4_takeMan_67 : decode cX4_takeMan 67 = .ok (.dup, 1) := by decide +kernel
theorem dX4_takeMan_68 : decode cX4_takeMan 68 = .ok (.getfield 57, 3) := by decide +kernel
theorem dX4_takeMan_71 : decode cX4_takeMan 71 = .ok (.iconst 1, 1) := by decide +kernel
theorem dX4_takeMan_72 : decode cX4_takeMan 72 = .ok (.iadd, 1) := by decide +kernel
theorem dX4_takeMan_73 : decode cX4_takeMan 73 = .ok (.putfield 57, 3) := by decide +kernel
theorem dX4_takeMan_76 : decode cX4_takeMan 76 = .ok (.return_, 1) := by decide +kernel
abbrev rm_X4_takeMan : Room := { frames := 3, cells := 0, slots := 0, locals := 70 }
def f_X4_takeMan (k0 : Nat) (S : St) (x2 : Int32) : Option (St) :=
  (f_X4_declare k0 S (x2 + (1 : Int32)) (1 : Int32) (st_I S (ky k0 2))).bind (fun (q1 : St) => (f_X4_number k0 q1 (x2 + (2 : Int32)) (20 : Int32)).bind (fun (q2 : Int32 × St) => (f_X5_put (ky k0 8) q2.2 (st_I q1 (ky k0 2)) q2.1).bind (fun (q3 : St) => (f_X4_named k0 q3 (x2 + (3 : Int32)) (0 : Int32)).bind (fun (q4 : Int32 × St) => (f_X5_put (ky k0 9) q4.2 (st_I q3 (ky k0 2)) q4.1).bind (fun (q5 : St) => (f_X5_put (ky k0 10) q5 (st_I q5 (ky k0 2)) (0 : Int32)).bind (fun (q6 : St) => lt_v (up_I q6 (ky k0 2) ((st_I q6 (ky k0 2)) + (1 : Int32))) (fun (S7 : St) => some S7)))))))
set_option maxRecDepth 100000 in
set_option maxHeartbeats 4000000 in
theorem k_X4_takeMan (l : Launch) (g : GG) (hg : gd wd_C g) (k0 : Nat) (hk0 : hT g k0) (h1 : hs wd_C g 1 3) (S : St) (x2 : Int32) (q : St) (hf : f_X4_takeMan k0 S x2 = some q) : Met l yX4_takeMan (Cond.code yX4_takeMan cX4_takeMan 3 none :: gw_tbl) rm_X4_takeMan (va_Pc [.ref (gg_o g k0), .ref (gg_o g 1), .int x2] (wI wd_C g S)) (qc_v wd_C g q) 0 0 (aw g) := by
  refine mt_start (own := RX4) hg (by decide) rfl (Nat.le_of_ble_eq_true rfl) (fun p e s m args below meth c ls H locs cx hw hr hlk hl => ?_)
  have hx := cx.1
  have hb := cx.2.1
  have hown := cx.2.2.2.1
  have hts := cx.2.2.2.2.1
  have hl : lv_has ls 3 [(0, .ref (gg_o g k0)), (1, .ref (gg_o g 1)), (2, .int x2)] := hl
  replace hf := h_top hf
  unfold f_X4_takeMan at hf
  refine lv_aload_n hx hb dX4_takeMan_0 rfl (lv_at hl 0 rfl) ?_
  refine lv_aload_n hx hb dX4_takeMan_1 rfl (lv_at hl 1 rfl) ?_
  refine lv_iload_n hx hb dX4_takeMan_2 rfl (lv_at hl 2 rfl) ?_
  refine lv_iconst (v := 1) hx hb dX4_takeMan_3 (by decide) ?_
  refine lv_iadd hx hb dX4_takeMan_4 ?_
  refine lv_iconst (v := 1) hx hb dX4_takeMan_5 (by decide) ?_
  refine lv_aload_n hx hb dX4_takeMan_6 rfl (lv_at hl 0 rfl) ?_
  refine gf_X4_57 cx hw hk0.1 dX4_takeMan_7 ?_
  refine r_V_v (As := [.ref (gg_o g 1), .int (x2 + (1 : Int32)), .int (1 : Int32), .int (st_I S (ky k0 2))]) (rest := []) cx hw hf hk0.1.2.1 (by rw [hk0.1.1]; rfl) lk_X4_95 (fun q1 hq => k_X4_declare l g hg k0 hk0 h1 S (x2 + (1 : Int32)) (1 : Int32) (st_I S (ky k0 2)) q1 hq) ⟨⟨rfl, rfl⟩, Nat.le_of_ble_eq_true rfl, Nat.le_of_ble_eq_true rfl⟩ rfl hl.1 rfl (Nat.le_of_ble_eq_true rfl) dX4_takeMan_10 ⟨Nat.zero_le _, Nat.zero_le _⟩ (fun q1 H locs hw hf => ?_)
  refine lv_aload_n hx hb dX4_takeMan_13 rfl (lv_at hl 0 rfl) ?_
  refine gf_X4_15 cx hw hk0.1 dX4_takeMan_14 ?_
  refine lv_aload_n hx hb dX4_takeMan_17 rfl (lv_at hl 0 rfl) ?_
  refine gf_X4_57 cx hw hk0.1 dX4_takeMan_18 ?_
  refine lv_aload_n hx hb dX4_takeMan_21 rfl (lv_at hl 0 rfl) ?_
  refine lv_aload_n hx hb dX4_takeMan_22 rfl (lv_at hl 1 rfl) ?_
  refine lv_iload_n hx hb dX4_takeMan_23 rfl (lv_at hl 2 rfl) ?_
  refine lv_iconst (v := 2) hx hb dX4_takeMan_24 (by decide) ?_
  refine lv_iadd hx hb dX4_takeMan_25 ?_
  refine lv_bipush (v := 20) hx hb dX4_takeMan_26 (by decide) ?_
  refine r_V_w (As := [.ref (gg_o g 1), .int (x2 + (2 : Int32)), .int (20 : Int32)]) (rest := [.int (st_I q1 (ky k0 2)), .ref (gg_a g (ky k0 8))]) cx hw hf hk0.1.2.1 (by rw [hk0.1.1]; rfl) lk_X4_121 (fun q2 hq => k_X4_number l g hg k0 hk0 h1 q1 (x2 + (2 : Int32)) (20 : Int32) q2 hq) ⟨⟨rfl, rfl⟩, Nat.le_of_ble_eq_true rfl, Nat.le_of_ble_eq_true rfl⟩ rfl hl.1 rfl (Nat.le_of_ble_eq_true rfl) dX4_takeMan_28 ⟨Nat.zero_le _, Nat.zero_le _⟩ (fun q2 H locs hw hf => ?_)
  refine r_SN_v (As := [.ref (gg_a g (ky k0 8)), .int (st_I q1 (ky k0 2)), .int q2.1]) (rest := []) cx hw hf (nw_at cx) lk_X4_111 (fun q3 hq => k_X5_put l g hg (ky k0 8) (hk0.1.2.2.1 8 rfl) q2.2 (st_I q1 (ky k0 2)) q2.1 q3 hq) ⟨⟨rfl, rfl⟩, Nat.le_of_ble_eq_true rfl, Nat.le_of_ble_eq_true rfl⟩ rfl hl.1 rfl (Nat.le_of_ble_eq_true rfl) dX4_takeMan_31 ⟨Nat.zero_le _, Nat.zero_le _⟩ (fun q3 H locs hw hf => ?_)
  refine lv_aload_n hx hb dX4_takeMan_34 rfl (lv_at hl 0 rfl) ?_
  refine gf_X4_18 cx hw hk0.1 dX4_takeMan_35 ?_
  refine lv_aload_n hx hb dX4_takeMan_38 rfl (lv_at hl 0 rfl) ?_
  refine gf_X4_57 cx hw hk0.1 dX4_takeMan_39 ?_
  refine lv_aload_n hx hb dX4_takeMan_42 rfl (lv_at hl 0 rfl) ?_
  refine lv_aload_n hx hb dX4_takeMan_43 rfl (lv_at hl 1 rfl) ?_
  refine lv_iload_n hx hb dX4_takeMan_44 rfl (lv_at hl 2 rfl) ?_
  refine lv_iconst (v := 3) hx hb dX4_takeMan_45 (by decide) ?_
  refine lv_iadd hx hb dX4_takeMan_46 ?_
  refine lv_iconst (v := 0) hx hb dX4_takeMan_47 (by decide) ?_
  refine r_V_w (As := [.ref (gg_o g 1), .int (x2 + (3 : Int32)), .int (0 : Int32)]) (rest := [.int (st_I q3 (ky k0 2)), .ref (gg_a g (ky k0 9))]) cx hw hf hk0.1.2.1 (by rw [hk0.1.1]; rfl) lk_X4_106 (fun q4 hq => k_X4_named l g hg k0 hk0 h1 q3 (x2 + (3 : Int32)) (0 : Int32) q4 hq) ⟨⟨rfl, rfl⟩, Nat.le_of_ble_eq_true rfl, Nat.le_of_ble_eq_true rfl⟩ rfl hl.1 rfl (Nat.le_of_ble_eq_true rfl) dX4_takeMan_48 ⟨Nat.zero_le _, Nat.zero_le _⟩ (fun q4 H locs hw hf => ?_)
  refine r_SN_v (As := [.ref (gg_a g (ky k0 9)), .int (st_I q3 (ky k0 2)), .int q4.1]) (rest := []) cx hw hf (nw_at cx) lk_X4_111 (fun q5 hq => k_X5_put l g hg (ky k0 9) (hk0.1.2.2.1 9 rfl) q4.2 (st_I q3 (ky k0 2)) q4.1 q5 hq) ⟨⟨rfl, rfl⟩, Nat.le_of_ble_eq_true rfl, Nat.le_of_ble_eq_true rfl⟩ rfl hl.1 rfl (Nat.le_of_ble_eq_true rfl) dX4_takeMan_51 ⟨Nat.zero_le _, Nat.zero_le _⟩ (fun q5 H locs hw hf => ?_)
  refine lv_aload_n hx hb dX4_takeMan_54 rfl (lv_at hl 0 rfl) ?_
  refine gf_X4_21 cx hw hk0.1 dX4_takeMan_55 ?_
  refine lv_aload_n hx hb dX4_takeMan_58 rfl (lv_at hl 0 rfl) ?_
  refine gf_X4_57 cx hw hk0.1 dX4_takeMan_59 ?_
  refine lv_iconst (v := 0) hx hb dX4_takeMan_62 (by decide) ?_
  refine r_SN_v (As := [.ref (gg_a g (ky k0 10)), .int (st_I q5 (ky k0 2)), .int (0 : Int32)]) (rest := []) cx hw hf (nw_at cx) lk_X4_111 (fun q6 hq => k_X5_put l g hg (ky k0 10) (hk0.1.2.2.1 10 rfl) q5 (st_I q5 (ky k0 2)) (0 : Int32) q6 hq) ⟨⟨rfl, rfl⟩, Nat.le_of_ble_eq_true rfl, Nat.le_of_ble_eq_true rfl⟩ rfl hl.1 rfl (Nat.le_of_ble_eq_true rfl) dX4_takeMan_63 ⟨Nat.zero_le _, Nat.zero_le _⟩ (fun q6 H locs hw hf => ?_)
  refine lv_aload_n hx hb dX4_takeMan_66 rfl (lv_at hl 0 rfl) ?_
  refine lv_dup hx hb dX4_takeMan_67 rfl ?_
  refine gf_X4_57 cx hw hk0.1 dX4_takeMan_68 ?_
  refine lv_iconst (v := 1) hx hb dX4_takeMan_71 (by decide) ?_
  refine lv_iadd hx hb dX4_takeMan_72 ?_
  refine pf_X4_57 cx hw hk0.1 hf dX4_takeMan_73 (fun S7 H locs hw hf => ?_)
  exact r_vret cx hw hr hlk hf dX4_takeMan_76
theorem dX4_takeMirror_0 : decode cX4_takeMirror 0 = .ok (.aload_n 0, 1) := by decide +kernel
theorem dX4_takeMirror_1 : decode cX4_takeMirror 1 = .ok (.aload_n 1, 1) := by decide +kernel
theorem dX4_takeMirror_2 : decode cX4_takeMirror 2 = .ok (.iload_n 2, 1) := by decide +kernel
theorem dX4_takeMirror_3 : decode cX4_takeMirror 3 = .ok (.iconst 1, 1) := by decide +kernel
theorem dX4_takeMirror_4 : decode cX4_takeMirror 4 = .ok (.iadd, 1) := by decide +kernel
theorem dX4_takeMirror_5 : decode cX4_takeMirror 5 = .ok (.iconst 2, 1) := by decide +kernel
theorem dX4_takeMirror_6 : decode cX4_takeMirror 6 = .ok (.aload_n 0, 1) := by decide +kernel
theorem dX4_takeMirror_7 : decode cX4_takeMirror 7 = .ok (.getfield 60, 3) := by decide +kernel
theorem dX4_takeMirror_10 : decode cX4_takeMirror 10 = .ok (.invokevirtual 95, 3) := by decide +kernel
theorem dX4_takeMirror_13 : decode cX4_takeMirror 13 = .ok (.aload_n 0, 1) := by decide +kernel
theorem dX4_takeMirror_14 : decode cX4_takeMirror 14 = .ok (.getfield 24, 3) := by decide +kernel
theorem dX4_takeMirror_17 : decode cX4_takeMirror 17 = .ok (.aload_n 0, 1) := by decide +kernel
theorem dX4_takeMirror_18 : decode cX4_takeMirror 18 = .ok (.getfield 60, 3) := by decide +kernel
theorem dX4_takeMirror_21 : decode cX4_takeMirror 21 = .ok (.aload_n 0, 1) := by decide +kernel
theorem dX4_takeMirror_22 : decode cX4_takeMirror 22 = .ok (.aload_n 1, 1) := by decide +kernel
theorem dX4_takeMirror_23 : decode cX4_takeMirror 23 = .ok (.iload_n 2, 1) := by decide +kernel
theorem dX4_takeMirror_24 : decode cX4_takeMirror 24 = .ok (.iconst 2, 1) := by decide +kernel
theorem dX4_takeMirror_25 : decode cX4_takeMirror 25 = .ok (.iadd, 1) := by decide +kernel
theorem dX4_takeMirror_26 : decode cX4_takeMirror 26 = .ok (.iconst 0, 1) := by decide +kernel
theorem dX4_takeMirror_27 : decode cX4_takeMirror 27 = .ok (.invokevirtual 106, 3) := by decide +kernel
theorem dX4_takeMirror_30 : decode cX4_takeMirror 30 = .ok (.invokestatic 111, 3) := by decide +kernel
theorem dX4_takeMirror_33 : decode cX4_takeMirror 33 = .ok (.aload_n 0, 1) := by decide +kernel
theorem dX4_takeMirror_34 : decode cX4_takeMirror 34 = .ok (.getfield 27, 3) := by decide +kernel
theorem dX4_takeMirror_37 : decode cX4_takeMirror 37 = .ok (.aload_n 0, 1) := by decide +kernel
theorem dX4_takeMirror_38 : decode cX4_takeMirror 38 = .ok (.getfield 60, 3) := by decide +kernel
theorem dX4_takeMirror_41 : decode cX4_takeMirror 41 = .ok (.aload_n 0, 1) := by decide +kernel
theorem dX4_takeMirror_42 : decode cX4_takeMirror 42 = .ok (.aload_n 1, 1) := by decide +kernel
theorem dX4_takeMirror_43 : decode cX4_takeMirror 43 = .ok (.iload_n 2, 1) := by decide +kernel
theorem dX4_takeMirror_44 : decode cX4_takeMirror 44 = .ok (.iconst 3, 1) := by decide +kernel
theorem dX4_takeMirror_45 : decode cX4_takeMirror 45 = .ok (.iadd, 1) := by decide +kernel
theorem dX4_takeMirror_46 : decode cX4_takeMirror 46 = .ok (.iconst 1, 1) := by decide +kernel
theorem dX4_takeMirror_47 : decode cX4_takeMirror 47 = .ok (.invokevirtual 106, 3) := by decide +kernel
theorem dX4_takeMirror_50 : decode cX4_takeMirror 50 = .ok (.invokestatic 111, 3) := by decide +kernel
theorem dX4_takeMirror_53 : decode cX4_takeMirror 53 = .ok (.aload_n 0, 1) := by decide +kernel
theorem dX4_takeMirror_54 : decode cX4_takeMirror 54 = .ok (.dup, 1) := by decide +kernel
theorem dX4_takeMirror_55 : decode cX4_takeMirror 55 = .ok (.getfield 60, 3) := by decide +kernel
theorem dX4_takeMirror_58 : decode cX4_takeMirror 58 = .ok (.iconst 1, 1) := by decide +kernel
theorem dX4_takeMirror_59 : decode cX4_takeMirror 59 = .ok (.iadd, 1) := by decide +kernel
theorem dX4_takeMirror_60 : decode cX4_takeMirror 60 = .ok (.putfield 60, 3) := by decide +kernel
theorem dX4_takeMirror_63 : decode cX4_takeMirror 63 = .ok (.return_, 1) := by decide +kernel
abbrev rm_X4_takeMirror : Room := { frames := 3, cells := 0, slots := 0, locals := 70 }
def f_X4_takeMirror (k0 : Nat) (S : St) (x2 : Int32) : Option (St) :=
  (f_X4_declare k0 S (x2 + (1 : Int32)) (2 : Int32) (st_I S (ky k0 3))).bind (fun (q1 : St) => (f_X4_named k0 q1 (x2 + (2 : Int32)) (0 : Int32)).bind (fun (q2 : Int32 × St) => (f_X5_put (ky k0 11) q2.2 (st_I q1 (ky k0 3)) q2.1).bind (fun (q3 : St) => (f_X4_named k0 q3 (x2 + (3 : Int32)) (1 : Int32)).bind (fun (q4 : Int32 × St) => (f_X5_put (ky k0 12) q4.2 (st_I q3 (ky k0 3)) q4.1).bind (fun (q5 : St) => lt_v (up_I q5 (ky k0 3) ((st_I q5 (ky k0 3)) + (1 : Int32))) (fun (S6 : St) => some S6))))))
set_option maxRecDepth 100000 in
set_option maxHeartbeats 4000000 in
theorem k_X4_takeMirror (l : Launch) (g : GG) (hg : gd wd_C g) (k0 : Nat) (hk0 : hT g k0) (h1 : hs wd_C g 1 3) (S : St) (x2 : Int32) (q : St) (hf : f_X4_takeMirror k0 S x2 = some q) : Met l yX4_takeMirror (Cond.code yX4_takeMirror cX4_takeMirror 3 none :: gw_tbl) rm_X4_takeMirror (va_Pc [.ref (gg_o g k0), .ref (gg_o g 1), .int x2] (wI wd_C g S)) (qc_v wd_C g q) 0 0 (aw g) := by
  refine mt_start (own := RX4) hg (by decide) rfl (Nat.le_of_ble_eq_true rfl) (fun p e s m args below meth c ls H locs cx hw hr hlk hl => ?_)
  have hx := cx.1
  have hb := cx.2.1
  have hown := cx.2.2.2.1
  have hts := cx.2.2.2.2.1
  have hl : lv_has ls 3 [(0, .ref (gg_o g k0)), (1, .ref (gg_o g 1)), (2, .int x2)] := hl
  replace hf := h_top hf
  unfold f_X4_takeMirror at hf
  refine lv_aload_n hx hb dX4_takeMirror_0 rfl (lv_at hl 0 rfl) ?_
  refine lv_aload_n hx hb dX4_takeMirror_1 rfl (lv_at hl 1 rfl) ?_
  refine lv_iload_n hx hb dX4_takeMirror_2 rfl (lv_at hl 2 rfl) ?_
  refine lv_iconst (v := 1) hx hb dX4_takeMirror_3 (by decide) ?_
  refine lv_iadd hx hb dX4_takeMirror_4 ?_
  refine lv_iconst (v := 2) hx hb dX4_takeMirror_5 (by decide) ?_
  refine lv_aload_n hx hb dX4_takeMirror_6 rfl (lv_at hl 0 rfl) ?_
  refine gf_X4_60 cx hw hk0.1 dX4_takeMirror_7 ?_
  refine r_V_v (As := [.ref (gg_o g 1), .int (x2 + (1 : Int32)), .int (2 : Int32), .int (st_I S (ky k0 3))]) (rest := []) cx hw hf hk0.1.2.1 (by rw [hk0.1.1]; rfl) lk_X4_95 (fun q1 hq => k_X4_declare l g hg k0 hk0 h1 S (x2 + (1 : Int32)) (2 : Int32) (st_I S (ky k0 3)) q1 hq) ⟨⟨rfl, rfl⟩, Nat.le_of_ble_eq_true rfl, Nat.le_of_ble_eq_true rfl⟩ rfl hl.1 rfl (Nat.le_of_ble_eq_true rfl) dX4_takeMirror_10 ⟨Nat.zero_le _, Nat.zero_le _⟩ (fun q1 H locs hw hf => ?_)
  refine lv_aload_n hx hb dX4_takeMirror_13 rfl (lv_at hl 0 rfl) ?_
  refine gf_X4_24 cx hw hk0.1 dX4_takeMirror_14 ?_
  refine lv_aload_n hx hb dX4_takeMirror_17 rfl (lv_at hl 0 rfl) ?_
  refine gf_X4_60 cx hw hk0.1 dX4_takeMirror_18 ?_
  refine lv_aload_n hx hb dX4_takeMirror_21 rfl (lv_at hl 0 rfl) ?_
  refine lv_aload_n hx hb dX4_takeMirror_22 rfl (lv_at hl 1 rfl) ?_
  refine lv_iload_n hx hb dX4_takeMirror_23 rfl (lv_at hl 2 rfl) ?_
  refine lv_iconst (v := 2) hx hb dX4_takeMirror_24 (by decide) ?_
  refine lv_iadd hx hb dX4_takeMirror_25 ?_
  refine lv_iconst (v := 0) hx hb dX4_takeMirror_26 (by decide) ?_
  refine r_V_w (As := [.ref (gg_o g 1), .int (x2 + (2 : Int32)), .int (0 : Int32)]) (rest := [.int (st_I q1 (ky k0 3)), .ref (gg_a g (ky k0 11))]) cx hw hf hk0.1.2.1 (by rw [hk0.1.1]; rfl) lk_X4_106 (fun q2 hq => k_X4_named l g hg k0 hk0 h1 q1 (x2 + (2 : Int32)) (0 : Int32) q2 hq) ⟨⟨rfl, rfl⟩, Nat.le_of_ble_eq_true rfl, Nat.le_of_ble_eq_true rfl⟩ rfl hl.1 rfl (Nat.le_of_ble_eq_true rfl) dX4_takeMirror_27 ⟨Nat.zero_le _, Nat.zero_le _⟩ (fun q2 H locs hw hf => ?_)
  refine r_SN_v (As := [.ref (gg_a g (ky k0 11)), .int (st_I q1 (ky k0 3)), .int q2.1]) (rest := []) cx hw hf (nw_at cx) lk_X4_111 (fun q3 hq => k_X5_put l g hg (ky k0 11) (hk0.1.2.2.1 11 rfl) q2.2 (st_I q1 (ky k0 3)) q2.1 q3 hq) ⟨⟨rfl, rfl⟩, Nat.le_of_ble_eq_true rfl, Nat.le_of_ble_eq_true rfl⟩ rfl hl.1 rfl (Nat.le_of_ble_eq_true rfl) dX4_takeMirror_30 ⟨Nat.zero_le _, Nat.zero_le _⟩ (fun q3 H locs hw hf => ?_)
  refine lv_aload_n hx hb dX4_takeMirror_33 rfl (lv_at hl 0 rfl) ?_
  refine gf_X4_27 cx hw hk0.1 dX4_takeMirror_34 ?_
  refine lv_aload_n hx hb dX4_takeMirror_37 rfl (lv_at hl 0 rfl) ?_
  refine gf_X4_60 cx hw hk0.1 dX4_takeMirror_38 ?_
  refine lv_aload_n hx hb dX4_takeMirror_41 rfl (lv_at hl 0 rfl) ?_
  refine lv_aload_n hx hb dX4_takeMirror_42 rfl (lv_at hl 1 rfl) ?_
  refine lv_iload_n hx hb dX4_takeMirror_43 rfl (lv_at hl 2 rfl) ?_
  refine lv_iconst (v := 3) hx hb dX4_takeMirror_44 (by decide) ?_
  refine lv_iadd hx hb dX4_takeMirror_45 ?_
  refine lv_iconst (v := 1) hx hb dX4_takeMirror_46 (by decide) ?_
  refine r_V_w (As := [.ref (gg_o g 1), .int (x2 + (3 : Int32)), .int (1 : Int32)]) (rest := [.int (st_I q3 (ky k0 3)), .ref (gg_a g (ky k0 12))]) cx hw hf hk0.1.2.1 (by rw [hk0.1.1]; rfl) lk_X4_106 (fun q4 hq => k_X4_named l g hg k0 hk0 h1 q3 (x2 + (3 : Int32)) (1 : Int32) q4 hq) ⟨⟨rfl, rfl⟩, Nat.le_of_ble_eq_true rfl, Nat.le_of_ble_eq_true rfl⟩ rfl hl.1 rfl (Nat.le_of_ble_eq_true rfl) dX4_takeMirror_47 ⟨Nat.zero_le _, Nat.zero_le _⟩ (fun q4 H locs hw hf => ?_)
  refine r_SN_v (As := [.ref (gg_a g (ky k0 12)), .int (st_I q3 (ky k0 3)), .int q4.1]) (rest := []) cx hw hf (nw_at cx) lk_X4_111 (fun q5 hq => k_X5_put l g hg (ky k0 12) (hk0.1.2.2.1 12 rfl) q4.2 (st_I q3 (ky k0 3)) q4.1 q5 hq) ⟨⟨rfl, rfl⟩, Nat.le_of_ble_eq_true rfl, Nat.le_of_ble_eq_true rfl⟩ rfl hl.1 rfl (Nat.le_of_ble_eq_true rfl) dX4_takeMirror_50 ⟨Nat.zero_le _, Nat.zero_le _⟩ (fun q5 H locs hw hf => ?_)
  refine lv_aload_n hx hb dX4_takeMirror_53 rfl (lv_at hl 0 rfl) ?_
  refine lv_dup hx hb dX4_takeMirror_54 rfl ?_
  refine gf_X4_60 cx hw hk0.1 dX4_takeMirror_55 ?_
  refine lv_iconst (v := 1) hx hb dX4_takeMirror_58 (by decide) ?_
  refine lv_iadd hx hb dX4_takeMirror_59 ?_
  refine pf_X4_60 cx hw hk0.1 hf dX4_takeMirror_60 (fun S6 H locs hw hf => ?_)
  exact r_vret cx hw hr hlk hf dX4_takeMirror_63
theorem dX4_take_0 : decode cX4_take 0 = .ok (.aload_n 1, 1) := by decide +kernel
theorem dX4_take_1 : decode cX4_take 1 = .ok (.getfield 88, 3) := by decide +kernel
theorem dX4_take_4 : decode cX4_take 4 = .ok (.iload_n 2, 1) := by decide +kernel
theorem dX4_take_5 : decode cX4_take 5 = .ok (.invokestatic 91, 3) := by decide +kernel
theorem dX4_take_8 : decode cX4_take 8 = .ok (.tableswitch 177 200 206 #[44, 71, 81, 91, 126, 136, 159], 44) := by decide +kernel
theorem dX4_take_52 : decode cX4_take 52 = .ok (.aload_n 0, 1) := by decide +kernel
theorem dX4_take_53 : decode cX4_take 53 = .ok (.aload_n 1, 1) := by decide +kernel
theorem dX4_take_54 : decode cX4_take 54 = .ok (.iload_n 2, 1) := by decide +kernel
theorem dX4_take_55 : decode cX4_take 55 = .ok (.iconst 1, 1) := by decide +kernel
theorem dX4_take_56 : decode cX4_take 56 = .ok (.iadd, 1) := by decide +kernel
theorem dX4_take_57 : decode cX4_take 57 = .ok (.iconst 0, 1) := by decide +kernel
theorem dX4_take_58 : decode cX4_take 58 = .ok (.aload_n 0, 1) := by decide +kernel
theorem dX4_take_59 : decode cX4_take 59 = .ok (.getfield 51, 3) := by decide +kernel
theorem dX4_take_62 : decode cX4_take 62 = .ok (.invokevirtual 95, 3) := by decide +kernel
theorem dX4_take_65 : decode cX4_take 65 = .ok (.aload_n 0, 1) := by decide +kernel
theorem dX4_take_66 : decode cX4_take 66 = .ok (.dup, 1) := by decide +kernel
theorem dX4_take_67 : decode cX4_take 67 = .ok (.getfield 51, 3) := by decide +kernel
theorem dX4_take_70 : decode cX4_take 70 = .ok (.iconst 1, 1) := by decide +kernel
theorem dX4_take_71 : decode cX4_take 71 = .ok (.iadd, 1) := by decide +kernel
theorem dX4_take_72 : decode cX4_take 72 = .ok (.putfield 51, 3) := by decide +kernel
theorem dX4_take_75 : decode cX4_take 75 = .ok (.iload_n 2, 1) := by decide +kernel
theorem dX4_take_76 : decode cX4_take 76 = .ok (.iconst 3, 1) := by decide +kernel
theorem dX4_take_77 : decode cX4_take 77 = .ok (.iadd, 1) := by decide +kernel
theorem dX4_take_78 : decode cX4_take 78 = .ok (.ireturn, 1) := by decide +kernel
theorem dX4_take_79 : decode cX4_take 79 = .ok (.aload_n 0, 1) := by decide +kernel
theorem dX4_take_80 : decode cX4_take 80 = .ok (.aload_n 1, 1) := by decide +kernel
theorem dX4_take_81 : decode cX4_take 81 = .ok (.iload_n 2, 1) := by decide +kernel
theorem dX4_take_82 : decode cX4_take 82 = .ok (.invokevirtual 99, 3) := by decide +kernel
theorem dX4_take_85 : decode cX4_take 85 = .ok (.iload_n 2, 1) := by decide +kernel
theorem dX4_take_86 : decode cX4_take 86 = .ok (.iconst 4, 1) := by decide +kernel
theorem dX4_take_87 : decode cX4_take 87 = .ok (.iadd, 1) := by decide +kernel
theorem dX4_take_88 : decode cX4_take 88 = .ok (.ireturn, 1) := by decide +kernel
theorem dX4_take_89 : decode cX4_take 89 = .ok (.aload_n 0, 1) := by decide +kernel
theorem dX4_take_90 : decode cX4_take 90 = .ok (.aload_n 1, 1) := by decide +kernel
theorem dX4_take_91 : decode cX4_take 91 = .ok (.iload_n 2, 1) := by decide +kernel
theorem dX4_take_92 : decode cX4_take 92 = .ok (.invokevirtual 103, 3) := by decide +kernel
theorem dX4_take_95 : decode cX4_take 95 = .ok (.iload_n 2, 1) := by decide +kernel
theorem dX4_take_96 : decode cX4_take 96 = .ok (.iconst 5, 1) := by decide +kernel
theorem dX4_take_97 : decode cX4_take 97 = .ok (.iadd, 1) := by decide +kernel
theorem dX4_take_98 : decode cX4_take 98 = .ok (.ireturn, 1) := by decide +kernel
theorem dX4_take_99 : decode cX4_take 99 = .ok (.aload_n 0, 1) := by decide +kernel
theorem dX4_take_100 : decode cX4_take 100 = .ok (.getfield 21, 3) := by decide +kernel
theorem dX4_take_103 : decode cX4_take 103 = .ok (.aload_n 0, 1) := by decide +kernel
theorem dX4_take_104 : decode cX4_take 104 = .ok (.aload_n 1, 1) := by decide +kernel
theorem dX4_take_105 : decode cX4_take 105 = .ok (.iload_n 2, 1) := by decide +kernel
theorem dX4_take_106 : decode cX4_take 106 = .ok (.iconst 1, 1) := by decide +kernel
theorem dX4_take_107 : decode cX4_take 107 = .ok (.iadd, 1) := by decide +kernel
theorem dX4_take_108 : decode cX4_take 108 = .ok (.iconst 1, 1) := by decide +kernel
theorem dX4_take_109 : decode cX4_take 109 = .ok (.invokevirtual 106, 3) := by decide +kernel
theorem dX4_take_112 : decode cX4_take 112 = .ok (.aload_n 0, 1) := by decide +kernel
theorem dX4_take_113 : decode cX4_take 113 = .ok (.getfield 40, 3) := by decide +kernel
theorem dX4_take_116 : decode cX4_take 116 = .ok (.getfield 110, 3) := by decide +kernel
theorem dX4_take_119 : decode cX4_take 119 = .ok (.invokestatic 111, 3) := by decide +kernel
theorem dX4_take_122 : decode cX4_take 122 = .ok (.aload_n 0, 1) := by decide +kernel
theorem dX4_take_123 : decode cX4_take 123 = .ok (.getfield 40, 3) := by decide +kernel
theorem dX4_take_126 : decode cX4_take 126 = .ok (.aload_n 1, 1) := by decide +kernel
theorem dX4_take_127 : decode cX4_take 127 = .ok (.iload_n 2, 1) := by decide +kernel
theorem dX4_take_128 : decode cX4_take 128 = .ok (.iconst 2, 1) := by decide +kernel
theorem dX4_take_129 : decode cX4_take 129 = .ok (.iadd, 1) := by decide +kernel
theorem dX4_take_130 : decode cX4_take 130 = .ok (.invokevirtual 115, 3) := by decide +kernel
theorem dX4_take_133 : decode cX4_take 133 = .ok (.ireturn, 1) := by decide +kernel
theorem dX4_take_134 : decode cX4_take 134 = .ok (.aload_n 0, 1) := by decide +kernel
theorem dX4_take_135 : decode cX4_take 135 = .ok (.aload_n 1, 1) := by decide +kernel
theorem dX4_take_136 : decode cX4_take 136 = .ok (.iload_n 2, 1) := by decide +kernel
theorem dX4_take_137 : decode cX4_take 137 = .ok (.invokevirtual 118, 3) := by decide +kernel
theorem dX4_take_140 : decode cX4_take 140 = .ok (.iload_n 2, 1) := by decide +kernel
theorem dX4_take_141 : decode cX4_take 141 = .ok (.iconst 5, 1) := by decide +kernel
theorem dX4_take_142 : decode cX4_take 142 = .ok (.iadd, 1) := by decide +kernel
theorem dX4_take_143 : decode cX4_take 143 = .ok (.ireturn, 1) := by decide +kernel
theorem dX4_take_144 : decode cX4_take 144 = .ok (.aload_n 0, 1) := by decide +kernel
theorem dX4_take_145 : decode cX4_take 145 = .ok (.aload_n 0, 1) := by decide +kernel
theorem dX4_take_146 : decode cX4_take 146 = .ok (.getfield 40, 3) := by decide +kernel
theorem dX4_take_149 : decode cX4_take 149 = .ok (.getfield 110, 3) := by decide +kernel
theorem dX4_take_152 : decode cX4_take 152 = .ok (.putfield 69, 3) := by decide +kernel
theorem dX4_take_155 : decode cX4_take 155 = .ok (.aload_n 0, 1) := by decide +kernel
theorem dX4_take_156 : decode cX4_take 156 = .ok (.getfield 40, 3) := by decide +kernel
theorem dX4_take_159 : decode cX4_take 159 = .ok (.aload_n 1, 1) := by decide +kernel
theorem dX4_take_160 : decode cX4_take 160 = .ok (.iload_n 2, 1) := by decide +kernel
theorem dX4_take_161 : decode cX4_take 161 = .ok (.iconst 1, 1) := by decide +kernel
theorem dX4_take_162 : decode cX4_take 162 = .ok (.iadd, 1) := by decide +kernel
theorem dX4_take_163 : decode cX4_take 163 = .ok (.invokevirtual 115, 3) := by decide +kernel
theorem dX4_take_166 : decode cX4_take 166 = .ok (.ireturn, 1) := by decide +kernel
theorem dX4_take_167 : decode cX4_take 167 = .ok (.aload_n 0, 1) := by decide +kernel
theorem dX4_take_168 : decode cX4_take 168 = .ok (.aload_n 0, 1) := by decide +kernel
theorem dX4_take_169 : decode cX4_take 169 = .ok (.aload_n 1, 1) := by decide +kernel
theorem dX4_take_170 : decode cX4_take 170 = .ok (.iload_n 2, 1) := by decide +kernel
theorem dX4_take_171 : decode cX4_take 171 = .ok (.iconst 1, 1) := by decide +kernel
theorem dX4_take_172 : decode cX4_take 172 = .ok (.iadd, 1) := by decide +kernel
theorem dX4_take_173 : decode cX4_take 173 = .ok (.bipush 100, 2) := by decide +kernel
theorem dX4_take_175 : decode cX4_take 175 = .ok (.invokevirtual 121, 3) := by decide +kernel
theorem dX4_take_178 : decode cX4_take 178 = .ok (.putfield 63, 3) := by decide +kernel
theorem dX4_take_181 : decode cX4_take 181 = .ok (.iload_n 2, 1) := by decide +kernel
theorem dX4_take_182 : decode cX4_take 182 = .ok (.iconst 3, 1) := by decide +kernel
theorem dX4_take_183 : decode cX4_take 183 = .ok (.iadd, 1) := by decide +kernel
theorem dX4_take_184 : decode cX4_take 184 = .ok (.ireturn, 1) := by decide +kernel
theorem dX4_take_185 : decode cX4_take 185 = .ok (.aload_n 0, 1) := by decide +kernel
theorem dX4_take_186 : decode cX4_take 186 = .ok (.aload_n 0, 1) := by decide +kernel
theorem dX4_take_187 : decode cX4_take 187 = .ok (.aload_n 1, 1) := by decide +kernel
theorem dX4_take_188 : decode cX4_take 188 = .ok (.iload_n 2, 1) := by decide +kernel
theorem dX4_take_189 : decode cX4_take 189 = .ok (.iconst 1, 1) := by decide +kernel
theorem dX4_take_190 : decode cX4_take 190 = .ok (.iadd, 1) := by decide +kernel
theorem dX4_take_191 : decode cX4_take 191 = .ok (.sipush 9999, 3) := by decide +kernel
theorem dX4_take_194 : decode cX4_take 194 = .ok (.invokevirtual 121, 3) := by decide +kernel
theorem dX4_take_197 : decode cX4_take 197 = .ok (.putfield 66, 3) := by decide +kernel
theorem dX4_take_200 : decode cX4_take 200 = .ok (.iload_n 2, 1) := by decide +kernel
theorem dX4_take_201 : decode cX4_take 201 = .ok (.iconst 3, 1) := by decide +kernel
theorem dX4_take_202 : decode cX4_take 202 = .ok (.iadd, 1) := by decide +kernel
theorem dX4_take_203 : decode cX4_take 203 = .ok (.ireturn, 1) := by decide +kernel
abbrev rm_X4_take : Room := { frames := 4, cells := 0, slots := 0, locals := 92 }
def f_X4_take (k0 : Nat) (S : St) (x2 : Int32) : Option (Int32 × St) :=
  (f_X5_at (ky 1 1) S x2).bind (fun (q1 : Int32) => if q1 = 200 then ((f_X4_declare k0 S (x2 + (1 : Int32)) (0 : Int32) (st_I S (ky k0 0))).bind (fun (q3 : St) => lt_v (up_I q3 (ky k0 0) ((st_I q3 (ky k0 0)) + (1 : Int32))) (fun (S4 : St) => some ((x2 + (3 : Int32)), S4)))) else (if q1 = 201 then ((f_X4_takeDoor k0 S x2).bind (fun (q5 : St) => some ((x2 + (4 : Int32)), q5))) else (if q1 = 202 then ((f_X4_takeMan k0 S x2).bind (fun (q6 : St) => some ((x2 + (5 : Int32)), q6))) else (if q1 = 203 then ((f_X4_named k0 S (x2 + (1 : Int32)) (1 : Int32)).bind (fun (q7 : Int32 × St) => (f_X5_put (ky k0 10) q7.2 q7.1 (st_I q7.2 (ky (k0 + 2) 2))).bind (fun (q8 : St) => (f_X1_compile (k0 + 2) q8 (x2 + (2 : Int32))).bind (fun (q9 : Int32 × St) => some (q9.1, q9.2))))) else (if q1 = 204 then ((f_X4_takeMirror k0 S x2).bind (fun (q10 : St) => some ((x2 + (5 : Int32)), q10))) else (if q1 = 205 then (lt_v (up_I S (ky k0 6) (st_I S (ky (k0 + 2) 2))) (fun (S11 : St) => (f_X1_compile (k0 + 2) S11 (x2 + (1 : Int32))).bind (fun (q12 : Int32 × St) => some (q12.1, q12.2)))) else (if q1 = 206 then ((f_X4_number k0 S (x2 + (1 : Int32)) (100 : Int32)).bind (fun (q13 : Int32 × St) => lt_v (up_I q13.2 (ky k0 4) q13.1) (fun (S14 : St) => some ((x2 + (3 : Int32)), S14)))) else ((f_X4_number k0 S (x2 + (1 : Int32)) (9999 : Int32)).bind (fun (q15 : Int32 × St) => lt_v (up_I q15.2 (ky k0 5) q15.1) (fun (S16 : St) => some ((x2 + (3 : Int32)), S16)))))))))))
set_option maxRecDepth 100000 in
set_option maxHeartbeats 4000000 in
theorem k_X4_take (l : Launch) (g : GG) (hg : gd wd_C g) (k0 : Nat) (hk0 : hT g k0) (h1 : hs wd_C g 1 3) (S : St) (x2 : Int32) (q : Int32 × St) (hf : f_X4_take k0 S x2 = some q) : Met l yX4_take (Cond.code yX4_take cX4_take 3 (some .int) :: gw_tbl) rm_X4_take (va_Pc [.ref (gg_o g k0), .ref (gg_o g 1), .int x2] (wI wd_C g S)) (qc_w wd_C g q) 0 0 (aw g) := by
  refine mt_start (own := RX4) hg (by decide) rfl (Nat.le_of_ble_eq_true rfl) (fun p e s m args below meth c ls H locs cx hw hr hlk hl => ?_)
  have hx := cx.1
  have hb := cx.2.1
  have hown := cx.2.2.2.1
  have hts := cx.2.2.2.2.1
  have hl : lv_has ls 3 [(0, .ref (gg_o g k0)), (1, .ref (gg_o g 1)), (2, .int x2)] := hl
  replace hf := h_top hf
  unfold f_X4_take at hf
  refine lv_aload_n hx hb dX4_take_0 rfl (lv_at hl 1 rfl) ?_
  refine gf_X4_88 cx hw h1 dX4_take_1 ?_
  refine lv_iload_n hx hb dX4_take_4 rfl (lv_at hl 2 rfl) ?_
  refine r_SN_i (As := [.ref (gg_a g (ky 1 1)), .int x2]) (rest := []) cx hw hf (nw_at cx) lk_X4_91 (fun q1 hq => k_X5_at l g hg (ky 1 1) (h1.2.2.1 1 rfl) S x2 q1 hq) ⟨⟨rfl, rfl⟩, Nat.le_of_ble_eq_true rfl, Nat.le_of_ble_eq_true rfl⟩ rfl hl.1 rfl (Nat.le_of_ble_eq_true rfl) dX4_take_5 ⟨Nat.zero_le _, Nat.zero_le _⟩ (fun q1 H locs hw hf => ?_)
  by_cases hc2_200 : q1 = 200
  · replace hf := h_pos hc2_200 hf
    refine lv_tableIn hx hb dX4_take_8 (by rw [hc2_200]; decide) (by rw [hc2_200]; decide) (off := 44) (by rw [hc2_200]; rfl) (tgt := 52) rfl ?_
    refine lv_aload_n hx hb dX4_take_52 rfl (lv_at hl 0 rfl) ?_
    refine lv_aload_n hx hb dX4_take_53 rfl (lv_at hl 1 rfl) ?_
    refine lv_iload_n hx hb dX4_take_54 rfl (lv_at hl 2 rfl) ?_
    refine lv_iconst (v := 1) hx hb dX4_take_55 (by decide) ?_
    refine lv_iadd hx hb dX4_take_56 ?_
    refine lv_iconst (v := 0) hx hb dX4_take_57 (by decide) ?_
    refine lv_aload_n hx hb dX4_take_58 rfl (lv_at hl 0 rfl) ?_
    refine gf_X4_51 cx hw hk0.1 dX4_take_59 ?_
    refine r_V_v (As := [.ref (gg_o g 1), .int (x2 + (1 : Int32)), .int (0 : Int32), .int (st_I S (ky k0 0))]) (rest := []) cx hw hf hk0.1.2.1 (by rw [hk0.1.1]; rfl) lk_X4_95 (fun q3 hq => k_X4_declare l g hg k0 hk0 h1 S (x2 + (1 : Int32)) (0 : Int32) (st_I S (ky k0 0)) q3 hq) ⟨⟨rfl, rfl⟩, Nat.le_of_ble_eq_true rfl, Nat.le_of_ble_eq_true rfl⟩ rfl hl.1 rfl (Nat.le_of_ble_eq_true rfl) dX4_take_62 ⟨Nat.zero_le _, Nat.zero_le _⟩ (fun q3 H locs hw hf => ?_)
    refine lv_aload_n hx hb dX4_take_65 rfl (lv_at hl 0 rfl) ?_
    refine lv_dup hx hb dX4_take_66 rfl ?_
    refine gf_X4_51 cx hw hk0.1 dX4_take_67 ?_
    refine lv_iconst (v := 1) hx hb dX4_take_70 (by decide) ?_
    refine lv_iadd hx hb dX4_take_71 ?_
    refine pf_X4_51 cx hw hk0.1 hf dX4_take_72 (fun S4 H locs hw hf => ?_)
    refine lv_iload_n hx hb dX4_take_75 rfl (lv_at hl 2 rfl) ?_
    refine lv_iconst (v := 3) hx hb dX4_take_76 (by decide) ?_
    refine lv_iadd hx hb dX4_take_77 ?_
    exact r_iretw cx hw hr hlk hf dX4_take_78
  replace hf := h_neg hc2_200 hf
  by_cases hc2_201 : q1 = 201
  · replace hf := h_pos hc2_201 hf
    refine lv_tableIn hx hb dX4_take_8 (by rw [hc2_201]; decide) (by rw [hc2_201]; decide) (off := 71) (by rw [hc2_201]; rfl) (tgt := 79) rfl ?_
    refine lv_aload_n hx hb dX4_take_79 rfl (lv_at hl 0 rfl) ?_
    refine lv_aload_n hx hb dX4_take_80 rfl (lv_at hl 1 rfl) ?_
    refine lv_iload_n hx hb dX4_take_81 rfl (lv_at hl 2 rfl) ?_
    refine r_V_v (As := [.ref (gg_o g 1), .int x2]) (rest := []) cx hw hf hk0.1.2.1 (by rw [hk0.1.1]; rfl) lk_X4_99 (fun q5 hq => k_X4_takeDoor l g hg k0 hk0 h1 S x2 q5 hq) ⟨⟨rfl, rfl⟩, Nat.le_of_ble_eq_true rfl, Nat.le_of_ble_eq_true rfl⟩ rfl hl.1 rfl (Nat.le_of_ble_eq_true rfl) dX4_take_82 ⟨Nat.zero_le _, Nat.zero_le _⟩ (fun q5 H locs hw hf => ?_)
    refine lv_iload_n hx hb dX4_take_85 rfl (lv_at hl 2 rfl) ?_
    refine lv_iconst (v := 4) hx hb dX4_take_86 (by decide) ?_
    refine lv_iadd hx hb dX4_take_87 ?_
    exact r_iretw cx hw hr hlk hf dX4_take_88
  replace hf := h_neg hc2_201 hf
  by_cases hc2_202 : q1 = 202
  · replace hf := h_pos hc2_202 hf
    refine lv_tableIn hx hb dX4_take_8 (by rw [hc2_202]; decide) (by rw [hc2_202]; decide) (off := 81) (by rw [hc2_202]; rfl) (tgt := 89) rfl ?_
    refine lv_aload_n hx hb dX4_take_89 rfl (lv_at hl 0 rfl) ?_
    refine lv_aload_n hx hb dX4_take_90 rfl (lv_at hl 1 rfl) ?_
    refine lv_iload_n hx hb dX4_take_91 rfl (lv_at hl 2 rfl) ?_
    refine r_V_v (As := [.ref (gg_o g 1), .int x2]) (rest := []) cx hw hf hk0.1.2.1 (by rw [hk0.1.1]; rfl) lk_X4_103 (fun q6 hq => k_X4_takeMan l g hg k0 hk0 h1 S x2 q6 hq) ⟨⟨rfl, rfl⟩, Nat.le_of_ble_eq_true rfl, Nat.le_of_ble_eq_true rfl⟩ rfl hl.1 rfl (Nat.le_of_ble_eq_true rfl) dX4_take_92 ⟨Nat.zero_le _, Nat.zero_le _⟩ (fun q6 H locs hw hf => ?_)
    refine lv_iload_n hx hb dX4_take_95 rfl (lv_at hl 2 rfl) ?_
    refine lv_iconst (v := 5) hx hb dX4_take_96 (by decide) ?_
    refine lv_iadd hx hb dX4_take_97 ?_
    exact r_iretw cx hw hr hlk hf dX4_take_98
  replace hf := h_neg hc2_202 hf
  by_cases hc2_203 : q1 = 203
  · replace hf := h_pos hc2_203 hf
    refine lv_tableIn hx hb dX4_take_8 (by rw [hc2_203]; decide) (by rw [hc2_203]; decide) (off := 91) (by rw [hc2_203]; rfl) (tgt := 99) rfl ?_
    refine lv_aload_n hx hb dX4_take_99 rfl (lv_at hl 0 rfl) ?_
    refine gf_X4_21 cx hw hk0.1 dX4_take_100 ?_
    refine lv_aload_n hx hb dX4_take_103 rfl (lv_at hl 0 rfl) ?_
    refine lv_aload_n hx hb dX4_take_104 rfl (lv_at hl 1 rfl) ?_
    refine lv_iload_n hx hb dX4_take_105 rfl (lv_at hl 2 rfl) ?_
    refine lv_iconst (v := 1) hx hb dX4_take_106 (by decide) ?_
    refine lv_iadd hx hb dX4_take_107 ?_
    refine lv_iconst (v := 1) hx hb dX4_take_108 (by decide) ?_
    refine r_V_w (As := [.ref (gg_o g 1), .int (x2 + (1 : Int32)), .int (1 : Int32)]) (rest := [.ref (gg_a g (ky k0 10))]) cx hw hf hk0.1.2.1 (by rw [hk0.1.1]; rfl) lk_X4_106 (fun q7 hq => k_X4_named l g hg k0 hk0 h1 S (x2 + (1 : Int32)) (1 : Int32) q7 hq) ⟨⟨rfl, rfl⟩, Nat.le_of_ble_eq_true rfl, Nat.le_of_ble_eq_true rfl⟩ rfl hl.1 rfl (Nat.le_of_ble_eq_true rfl) dX4_take_109 ⟨Nat.zero_le _, Nat.zero_le _⟩ (fun q7 H locs hw hf => ?_)
    refine lv_aload_n hx hb dX4_take_112 rfl (lv_at hl 0 rfl) ?_
    refine gf_X4_40 cx hw hk0.1 dX4_take_113 ?_
    refine gf_X4_110 cx hw hk0.2 dX4_take_116 ?_
    refine r_SN_v (As := [.ref (gg_a g (ky k0 10)), .int q7.1, .int (st_I q7.2 (ky (k0 + 2) 2))]) (rest := []) cx hw hf (nw_at cx) lk_X4_111 (fun q8 hq => k_X5_put l g hg (ky k0 10) (hk0.1.2.2.1 10 rfl) q7.2 q7.1 (st_I q7.2 (ky (k0 + 2) 2)) q8 hq) ⟨⟨rfl, rfl⟩, Nat.le_of_ble_eq_true rfl, Nat.le_of_ble_eq_true rfl⟩ rfl hl.1 rfl (Nat.le_of_ble_eq_true rfl) dX4_take_119 ⟨Nat.zero_le _, Nat.zero_le _⟩ (fun q8 H locs hw hf => ?_)
    refine lv_aload_n hx hb dX4_take_122 rfl (lv_at hl 0 rfl) ?_
    refine gf_X4_40 cx hw hk0.1 dX4_take_123 ?_
    refine lv_aload_n hx hb dX4_take_126 rfl (lv_at hl 1 rfl) ?_
    refine lv_iload_n hx hb dX4_take_127 rfl (lv_at hl 2 rfl) ?_
    refine lv_iconst (v := 2) hx hb dX4_take_128 (by decide) ?_
    refine lv_iadd hx hb dX4_take_129 ?_
    refine r_VN_w (As := [.ref (gg_o g 1), .int (x2 + (2 : Int32))]) (rest := []) cx hw hf (nw_at cx) hk0.2.2.1 (by rw [hk0.2.1]; rfl) lk_X4_115 (fun q9 hq => k_X1_compile l g hg (k0 + 2) hk0.2 h1 q8 (x2 + (2 : Int32)) q9 hq) ⟨⟨rfl, rfl⟩, Nat.le_of_ble_eq_true rfl, Nat.le_of_ble_eq_true rfl⟩ rfl hl.1 rfl (Nat.le_of_ble_eq_true rfl) dX4_take_130 ⟨Nat.zero_le _, Nat.zero_le _⟩ (fun q9 H locs hw hf => ?_)
    exact r_iretw cx hw hr hlk hf dX4_take_133
  replace hf := h_neg hc2_203 hf
  by_cases hc2_204 : q1 = 204
  · replace hf := h_pos hc2_204 hf
    refine lv_tableIn hx hb dX4_take_8 (by rw [hc2_204]; decide) (by rw [hc2_204]; decide) (off := 126) (by rw [hc2_204]; rfl) (tgt := 134) rfl ?_
    refine lv_aload_n hx hb dX4_take_134 rfl (lv_at hl 0 rfl) ?_
    refine lv_aload_n hx hb dX4_take_135 rfl (lv_at hl 1 rfl) ?_
    refine lv_iload_n hx hb dX4_take_136 rfl (lv_at hl 2 rfl) ?_
    refine r_V_v (As := [.ref (gg_o g 1), .int x2]) (rest := []) cx hw hf hk0.1.2.1 (by rw [hk0.1.1]; rfl) lk_X4_118 (fun q10 hq => k_X4_takeMirror l g hg k0 hk0 h1 S x2 q10 hq) ⟨⟨rfl, rfl⟩, Nat.le_of_ble_eq_true rfl, Nat.le_of_ble_eq_true rfl⟩ rfl hl.1 rfl (Nat.le_of_ble_eq_true rfl) dX4_take_137 ⟨Nat.zero_le _, Nat.zero_le _⟩ (fun q10 H locs hw hf => ?_)
    refine lv_iload_n hx hb dX4_take_140 rfl (lv_at hl 2 rfl) ?_
    refine lv_iconst (v := 5) hx hb dX4_take_141 (by decide) ?_
    refine lv_iadd hx hb dX4_take_142 ?_
    exact r_iretw cx hw hr hlk hf dX4_take_143
  replace hf := h_neg hc2_204 hf
  by_cases hc2_205 : q1 = 205
  · replace hf := h_pos hc2_205 hf
    refine lv_tableIn hx hb dX4_take_8 (by rw [hc2_205]; decide) (by rw [hc2_205]; decide) (off := 136) (by rw [hc2_205]; rfl) (tgt := 144) rfl ?_
    refine lv_aload_n hx hb dX4_take_144 rfl (lv_at hl 0 rfl) ?_
    refine lv_aload_n hx hb dX4_take_145 rfl (lv_at hl 0 rfl) ?_
    refine gf_X4_40 cx hw hk0.1 dX4_take_146 ?_
    refine gf_X4_110 cx hw hk0.2 dX4_take_149 ?_
    refine pf_X4_69 cx hw hk0.1 hf dX4_take_152 (fun S11 H locs hw hf => ?_)
    refine lv_aload_n hx hb dX4_take_155 rfl (lv_at hl 0 rfl) ?_
    refine gf_X4_40 cx hw hk0.1 dX4_take_156 ?_
    refine lv_aload_n hx hb dX4_take_159 rfl (lv_at hl 1 rfl) ?_
    refine lv_iload_n hx hb dX4_take_160 rfl (lv_at hl 2 rfl) ?_
    refine lv_iconst (v := 1) hx hb dX4_take_161 (by decide) ?_
    refine lv_iadd hx hb dX4_take_162 ?_
    refine r_VN_w (As := [.ref (gg_o g 1), .int (x2 + (1 : Int32))]) (rest := []) cx hw hf (nw_at cx) hk0.2.2.1 (by rw [hk0.2.1]; rfl) lk_X4_115 (fun q12 hq => k_X1_compile l g hg (k0 + 2) hk0.2 h1 S11 (x2 + (1 : Int32)) q12 hq) ⟨⟨rfl, rfl⟩, Nat.le_of_ble_eq_true rfl, Nat.le_of_ble_eq_true rfl⟩ rfl hl.1 rfl (Nat.le_of_ble_eq_true rfl) dX4_take_163 ⟨Nat.zero_le _, Nat.zero_le _⟩ (fun q12 H locs hw hf => ?_)
    exact r_iretw cx hw hr hlk hf dX4_take_166
  replace hf := h_neg hc2_205 hf
  by_cases hc2_206 : q1 = 206
  · replace hf := h_pos hc2_206 hf
    refine lv_tableIn hx hb dX4_take_8 (by rw [hc2_206]; decide) (by rw [hc2_206]; decide) (off := 159) (by rw [hc2_206]; rfl) (tgt := 167) rfl ?_
    refine lv_aload_n hx hb dX4_take_167 rfl (lv_at hl 0 rfl) ?_
    refine lv_aload_n hx hb dX4_take_168 rfl (lv_at hl 0 rfl) ?_
    refine lv_aload_n hx hb dX4_take_169 rfl (lv_at hl 1 rfl) ?_
    refine lv_iload_n hx hb dX4_take_170 rfl (lv_at hl 2 rfl) ?_
    refine lv_iconst (v := 1) hx hb dX4_take_171 (by decide) ?_
    refine lv_iadd hx hb dX4_take_172 ?_
    refine lv_bipush (v := 100) hx hb dX4_take_173 (by decide) ?_
    refine r_V_w (As := [.ref (gg_o g 1), .int (x2 + (1 : Int32)), .int (100 : Int32)]) (rest := [.ref (gg_o g k0)]) cx hw hf hk0.1.2.1 (by rw [hk0.1.1]; rfl) lk_X4_121 (fun q13 hq => k_X4_number l g hg k0 hk0 h1 S (x2 + (1 : Int32)) (100 : Int32) q13 hq) ⟨⟨rfl, rfl⟩, Nat.le_of_ble_eq_true rfl, Nat.le_of_ble_eq_true rfl⟩ rfl hl.1 rfl (Nat.le_of_ble_eq_true rfl) dX4_take_175 ⟨Nat.zero_le _, Nat.zero_le _⟩ (fun q13 H locs hw hf => ?_)
    refine pf_X4_63 cx hw hk0.1 hf dX4_take_178 (fun S14 H locs hw hf => ?_)
    refine lv_iload_n hx hb dX4_take_181 rfl (lv_at hl 2 rfl) ?_
    refine lv_iconst (v := 3) hx hb dX4_take_182 (by decide) ?_
    refine lv_iadd hx hb dX4_take_183 ?_
    exact r_iretw cx hw hr hlk hf dX4_take_184
  replace hf := h_neg hc2_206 hf
  have hD8 : W p l e rm_X4_take s m args below meth c H locs 0 0 (MQ below (qc_w wd_C g q) args s 0 0 (aw g)) (F0 m 185 ls []) := by
    refine lv_aload_n hx hb dX4_take_185 rfl (lv_at hl 0 rfl) ?_
    refine lv_aload_n hx hb dX4_take_186 rfl (lv_at hl 0 rfl) ?_
    refine lv_aload_n hx hb dX4_take_187 rfl (lv_at hl 1 rfl) ?_
    refine lv_iload_n hx hb dX4_take_188 rfl (lv_at hl 2 rfl) ?_
    refine lv_iconst (v := 1) hx hb dX4_take_189 (by decide) ?_
    refine lv_iadd hx hb dX4_take_190 ?_
    refine lv_sipush (v := 9999) hx hb dX4_take_191 (by decide) ?_
    refine r_V_w (As := [.ref (gg_o g 1), .int (x2 + (1 : Int32)), .int (9999 : Int32)]) (rest := [.ref (gg_o g k0)]) cx hw hf hk0.1.2.1 (by rw [hk0.1.1]; rfl) lk_X4_121 (fun q15 hq => k_X4_number l g hg k0 hk0 h1 S (x2 + (1 : Int32)) (9999 : Int32) q15 hq) ⟨⟨rfl, rfl⟩, Nat.le_of_ble_eq_true rfl, Nat.le_of_ble_eq_true rfl⟩ rfl hl.1 rfl (Nat.le_of_ble_eq_true rfl) dX4_take_194 ⟨Nat.zero_le _, Nat.zero_le _⟩ (fun q15 H locs hw hf => ?_)
    refine pf_X4_66 cx hw hk0.1 hf dX4_take_197 (fun S16 H locs hw hf => ?_)
    refine lv_iload_n hx hb dX4_take_200 rfl (lv_at hl 2 rfl) ?_
    refine lv_iconst (v := 3) hx hb dX4_take_201 (by decide) ?_
    refine lv_iadd hx hb dX4_take_202 ?_
    exact r_iretw cx hw hr hlk hf dX4_take_203
  refine lv_tableOut hx hb dX4_take_8 (ts_out (lo := 200) (hi := 206) (by decide) (by decide) (fun i h1 h2 => ?_)) (tgt := 185) rfl hD8
  rcases (show i = 200 ∨ i = 201 ∨ i = 202 ∨ i = 203 ∨ i = 204 ∨ i = 205 ∨ i = 206 by omega) with rfl | rfl | rfl | rfl | rfl | rfl | rfl
  · exact hc2_200
  · exact hc2_201
  · exact hc2_202
  · exact hc2_203
  · exact hc2_204
  · exact hc2_205
  · exact hc2_206
theorem dX4_build_0 : decode cX4_build 0 = .ok (.aload_n 0, 1) := by decide +kernel
theorem dX4_build_1 : decode cX4_build 1 = .ok (.invokevirtual 48, 3) := by decide +kernel
theorem dX4_build_4 : decode cX4_build 4 = .ok (.iconst 0, 1) := by decide +kernel
theorem dX4_build_5 : decode cX4_build 5 = .ok (.istore_n 2, 1) := by decide +kernel
theorem dX4_build_6 : decode cX4_build 6 = .ok (.iconst 0, 1) := by decide +kernel
theorem dX4_build_7 : decode cX4_build 7 = .ok (.istore_n 3, 1) := by decide +kernel
theorem dX4_build_8 : decode cX4_build 8 = .ok (.iload_n 3, 1) := by decide +kernel
theorem dX4_build_9 : decode cX4_build 9 = .ok (.aload_n 1, 1) := by decide +kernel
theorem dX4_build_10 : decode cX4_build 10 = .ok (.getfield 79, 3) := by decide +kernel
theorem dX4_build_13 : decode cX4_build 13 = .ok (.if_icmp .ge 31, 3) := by decide +kernel
theorem dX4_build_16 : decode cX4_build 16 = .ok (.iload_n 2, 1) := by decide +kernel
theorem dX4_build_17 : decode cX4_build 17 = .ok (.aload_n 1, 1) := by decide +kernel
theorem dX4_build_18 : decode cX4_build 18 = .ok (.getfield 79, 3) := by decide +kernel
theorem dX4_build_21 : decode cX4_build 21 = .ok (.if_icmp .ge 23, 3) := by decide +kernel
theorem dX4_build_24 : decode cX4_build 24 = .ok (.aload_n 0, 1) := by decide +kernel
theorem dX4_build_25 : decode cX4_build 25 = .ok (.getfield 75, 3) := by decide +kernel
theorem dX4_build_28 : decode cX4_build 28 = .ok (.ifCond .ne 16, 3) := by decide +kernel
theorem dX4_build_31 : decode cX4_build 31 = .ok (.aload_n 0, 1) := by decide +kernel
theorem dX4_build_32 : decode cX4_build 32 = .ok (.aload_n 1, 1) := by decide +kernel
theorem dX4_build_33 : decode cX4_build 33 = .ok (.iload_n 2, 1) := by decide +kernel
theorem dX4_build_34 : decode cX4_build 34 = .ok (.invokevirtual 84, 3) := by decide +kernel
theorem dX4_build_37 : decode cX4_build 37 = .ok (.istore_n 2, 1) := by decide +kernel
theorem dX4_build_38 : decode cX4_build 38 = .ok (.iinc 3 1, 3) := by decide +kernel
theorem dX4_build_41 : decode cX4_build 41 = .ok (.goto (-33), 3) := by decide +kernel
theorem dX4_build_44 : decode cX4_build 44 = .ok (.aload_n 0, 1) := by decide +kernel
theorem dX4_build_45 : decode cX4_build 45 = .ok (.getfield 75, 3) := by decide +kernel
theorem dX4_build_48 : decode cX4_build 48 = .ok (.ireturn, 1) := by decide +kernel
abbrev rm_X4_build : Room := { frames := 5, cells := 0, slots := 0, locals := 114 }
def f_X4_build_L8 (k0 : Nat)  (z8 : Int32 × Int32 × St) : Option ((Int32 × Int32 × St) ⊕ (Int32 × St)) :=
  if (st_I z8.2.2 (ky 1 4)) ≤ z8.2.1 then (some (.inr ((st_I z8.2.2 (ky k0 17)), z8.2.2))) else (if (st_I z8.2.2 (ky 1 4)) ≤ z8.1 then (some (.inr ((st_I z8.2.2 (ky k0 17)), z8.2.2))) else (if (st_I z8.2.2 (ky k0 17)) = 0 then ((f_X4_take k0 z8.2.2 z8.1).bind (fun (q5 : Int32 × St) => some (.inl (q5.1, (z8.2.1 + 1), q5.2)))) else (some (.inr ((st_I z8.2.2 (ky k0 17)), z8.2.2)))))
def f_X4_build (k0 : Nat) (S : St)  : Option (Int32 × St) :=
  (f_X4_clear k0 S ).bind (fun (q1 : St) => iter (f_X4_build_L8 k0  ) FU ((0 : Int32), (0 : Int32), q1))
set_option maxRecDepth 100000 in
set_option maxHeartbeats 4000000 in
theorem k_X4_build (l : Launch) (g : GG) (hg : gd wd_C g) (k0 : Nat) (hk0 : hT g k0) (h1 : hs wd_C g 1 3) (S : St)  (q : Int32 × St) (hf : f_X4_build k0 S  = some q) : Met l yX4_build (Cond.code yX4_build cX4_build 4 (some .int) :: gw_tbl) rm_X4_build (va_Pc [.ref (gg_o g k0), .ref (gg_o g 1)] (wI wd_C g S)) (qc_w wd_C g q) 0 0 (aw g) := by
  refine mt_start (own := RX4) hg (by decide) rfl (Nat.le_of_ble_eq_true rfl) (fun p e s m args below meth c ls H locs cx hw hr hlk hl => ?_)
  have hx := cx.1
  have hb := cx.2.1
  have hown := cx.2.2.2.1
  have hts := cx.2.2.2.2.1
  have hl : lv_has ls 4 [(0, .ref (gg_o g k0)), (1, .ref (gg_o g 1))] := hl
  replace hf := h_top hf
  unfold f_X4_build at hf
  refine lv_aload_n hx hb dX4_build_0 rfl (lv_at hl 0 rfl) ?_
  refine r_V_v (As := []) (rest := []) cx hw hf hk0.1.2.1 (by rw [hk0.1.1]; rfl) lk_X4_48 (fun q1 hq => k_X4_clear l g hg k0 hk0 S  q1 hq) ⟨⟨rfl, rfl⟩, Nat.le_of_ble_eq_true rfl, Nat.le_of_ble_eq_true rfl⟩ rfl hl.1 rfl (Nat.le_of_ble_eq_true rfl) dX4_build_1 ⟨Nat.zero_le _, Nat.zero_le _⟩ (fun q1 H locs hw hf => ?_)
  refine lv_iconst (v := 0) hx hb dX4_build_4 (by decide) ?_
  refine lv_istore_n hx hb dX4_build_5 rfl hl (by decide) (lv' := [(2, .int (0 : Int32)), (0, .ref (gg_o g k0)), (1, .ref (gg_o g 1))]) rfl (fun ls hl => ?_)
  refine lv_iconst (v := 0) hx hb dX4_build_6 (by decide) ?_
  refine lv_istore_n hx hb dX4_build_7 rfl hl (by decide) (lv' := [(3, .int (0 : Int32)), (2, .int (0 : Int32)), (0, .ref (gg_o g k0)), (1, .ref (gg_o g 1))]) rfl (fun ls hl => ?_)
  have L8 : ∀  (aft8 : (Int32 × St) → Option (Int32 × St)), (∀ v : Int32 × St, aft8 v = some q → (some v : Option (Int32 × St)).bind some = some q) → ∀ (n8 : Nat) (ls : Array Slot) (H : Heap) (locs : List Loc) (z8 : Int32 × Int32 × St), lv_has ls 4 [(0, .ref (gg_o g k0)), (1, .ref (gg_o g 1)), (2, .int z8.1), (3, .int z8.2.1)] → HH wd_C g s z8.2.2 H locs → (iter (f_X4_build_L8 k0  ) n8 z8).bind aft8 = some q → W p l e rm_X4_build s m args below meth c H locs 0 0 (MQ below (qc_w wd_C g q) args s 0 0 (aw g)) (F0 m 8 ls []) := by
    intro aft8 hR8 n8
    induction n8 with
    | zero => intro ls H locs z8 hl hw hf; exact h_iter0 hf
    | succ n8 ih8 =>
      intro ls H locs z8 hl hw hf
      replace hf := h_iter hf
      unfold f_X4_build_L8 at hf
      refine lv_iload_n hx hb dX4_build_8 rfl (lv_at hl 3 rfl) ?_
      refine lv_aload_n hx hb dX4_build_9 rfl (lv_at hl 1 rfl) ?_
      refine gf_X4_79 cx hw h1 dX4_build_10 ?_
      refine lv_icmp_ge hx hb dX4_build_13 (tgt := 44) rfl (fun hc2 => ?_) (fun hc2 => ?_)
      · replace hf := h_pos hc2 hf
        refine lv_aload_n hx hb dX4_build_44 rfl (lv_at hl 0 rfl) ?_
        refine gf_X4_75 cx hw hk0.1 dX4_build_45 ?_
        replace hf := hR8 ((st_I z8.2.2 (ky k0 17)), z8.2.2) hf
        exact r_iretw cx hw hr hlk hf dX4_build_48
      replace hf := h_neg hc2 hf
      refine lv_iload_n hx hb dX4_build_16 rfl (lv_at hl 2 rfl) ?_
      refine lv_aload_n hx hb dX4_build_17 rfl (lv_at hl 1 rfl) ?_
      refine gf_X4_79 cx hw h1 dX4_build_18 ?_
      refine lv_icmp_ge hx hb dX4_build_21 (tgt := 44) rfl (fun hc3 => ?_) (fun hc3 => ?_)
      · replace hf := h_pos hc3 hf
        refine lv_aload_n hx hb dX4_build_44 rfl (lv_at hl 0 rfl) ?_
        refine gf_X4_75 cx hw hk0.1 dX4_build_45 ?_
        replace hf := hR8 ((st_I z8.2.2 (ky k0 17)), z8.2.2) hf
        exact r_iretw cx hw hr hlk hf dX4_build_48
      replace hf := h_neg hc3 hf
      refine lv_aload_n hx hb dX4_build_24 rfl (lv_at hl 0 rfl) ?_
      refine gf_X4_75 cx hw hk0.1 dX4_build_25 ?_
      refine lv_if_ne hx hb dX4_build_28 (tgt := 44) rfl (fun hc4 => ?_) (fun hc4 => ?_)
      · replace hf := h_neg hc4 hf
        refine lv_aload_n hx hb dX4_build_44 rfl (lv_at hl 0 rfl) ?_
        refine gf_X4_75 cx hw hk0.1 dX4_build_45 ?_
        replace hf := hR8 ((st_I z8.2.2 (ky k0 17)), z8.2.2) hf
        exact r_iretw cx hw hr hlk hf dX4_build_48
      replace hf := h_pos hc4 hf
      refine lv_aload_n hx hb dX4_build_31 rfl (lv_at hl 0 rfl) ?_
      refine lv_aload_n hx hb dX4_build_32 rfl (lv_at hl 1 rfl) ?_
      refine lv_iload_n hx hb dX4_build_33 rfl (lv_at hl 2 rfl) ?_
      refine r_V_w (As := [.ref (gg_o g 1), .int z8.1]) (rest := []) cx hw hf hk0.1.2.1 (by rw [hk0.1.1]; rfl) lk_X4_84 (fun q5 hq => k_X4_take l g hg k0 hk0 h1 z8.2.2 z8.1 q5 hq) ⟨⟨rfl, rfl⟩, Nat.le_of_ble_eq_true rfl, Nat.le_of_ble_eq_true rfl⟩ rfl hl.1 rfl (Nat.le_of_ble_eq_true rfl) dX4_build_34 ⟨Nat.zero_le _, Nat.zero_le _⟩ (fun q5 H locs hw hf => ?_)
      refine lv_istore_n hx hb dX4_build_37 rfl hl (by decide) (lv' := [(2, .int q5.1), (0, .ref (gg_o g k0)), (1, .ref (gg_o g 1)), (3, .int z8.2.1)]) rfl (fun ls hl => ?_)
      refine lv_iinc hx hb dX4_build_38 hl (k := 3) rfl (congrArg (HAdd.hAdd _) (show Int32.ofInt (1) = 1 by decide)) (by decide) (lv' := [(3, .int (z8.2.1 + 1)), (2, .int q5.1), (0, .ref (gg_o g k0)), (1, .ref (gg_o g 1))]) rfl (fun ls hl => ?_)
      refine lv_goto hx hb dX4_build_41 (tgt := 8) rfl ?_
      exact ih8 _ _ _ (q5.1, (z8.2.1 + 1), q5.2) (lv_sub hl [2, 3, 1, 0] rfl) hw hf
  exact L8 some (fun v h => h) FU _ _ _ ((0 : Int32), (0 : Int32), q1) (lv_sub hl [2, 3, 1, 0] rfl) hw hf
theorem dX4_doorEnd_0 : decode cX4_doorEnd 0 = .ok (.aload_n 0, 1) := by decide +kernel
theorem dX4_doorEnd_1 : decode cX4_doorEnd 1 = .ok (.getfield 9, 3) := by decide +kernel
theorem dX4_doorEnd_4 : decode cX4_doorEnd 4 = .ok (.iload_n 1, 1) := by decide +kernel
theorem dX4_doorEnd_5 : decode cX4_doorEnd 5 = .ok (.iconst 2, 1) := by decide +kernel
theorem dX4_doorEnd_6 : decode cX4_doorEnd 6 = .ok (.imul, 1) := by decide +kernel
theorem dX4_doorEnd_7 : decode cX4_doorEnd 7 = .ok (.iload_n 2, 1) := by decide +kernel
theorem dX4_doorEnd_8 : decode cX4_doorEnd 8 = .ok (.iadd, 1) := by decide +kernel
theorem dX4_doorEnd_9 : decode cX4_doorEnd 9 = .ok (.invokestatic 91, 3) := by decide +kernel
theorem dX4_doorEnd_12 : decode cX4_doorEnd 12 = .ok (.ireturn, 1) := by decide +kernel
abbrev rm_X4_doorEnd : Room := { frames := 1, cells := 0, slots := 0, locals := 21 }
def f_X4_doorEnd (k0 : Nat) (S : St) (x1 : Int32) (x2 : Int32) : Option (Int32) :=
  (f_X5_at (ky k0 7) S ((x1 * (2 : Int32)) + x2)).bind (fun (q1 : Int32) => some q1)
set_option maxRecDepth 100000 in
set_option maxHeartbeats 4000000 in
theorem k_X4_doorEnd (l : Launch) (g : GG) (hg : gd wd_C g) (k0 : Nat) (hk0 : hT g k0) (S : St) (x1 : Int32) (x2 : Int32) (q : Int32) (hf : f_X4_doorEnd k0 S x1 x2 = some q) : Met l yX4_doorEnd (Cond.code yX4_doorEnd cX4_doorEnd 3 (some .int) :: gw_tbl) rm_X4_doorEnd (va_Pc [.ref (gg_o g k0), .int x1, .int x2] (wI wd_C g S)) (qc_i wd_C g S q) 0 0 (aw g) := by
  refine mt_start (own := RX4) hg (by decide) rfl (Nat.le_of_ble_eq_true rfl) (fun p e s m args below meth c ls H locs cx hw hr hlk hl => ?_)
  have hx := cx.1
  have hb := cx.2.1
  have hown := cx.2.2.2.1
  have hts := cx.2.2.2.2.1
  have hl : lv_has ls 3 [(0, .ref (gg_o g k0)), (1, .int x1), (2, .int x2)] := hl
  replace hf := h_top hf
  unfold f_X4_doorEnd at hf
  refine lv_aload_n hx hb dX4_doorEnd_0 rfl (lv_at hl 0 rfl) ?_
  refine gf_X4_9 cx hw hk0.1 dX4_doorEnd_1 ?_
  refine lv_iload_n hx hb dX4_doorEnd_4 rfl (lv_at hl 1 rfl) ?_
  refine lv_iconst (v := 2) hx hb dX4_doorEnd_5 (by decide) ?_
  refine lv_imul hx hb dX4_doorEnd_6 ?_
  refine lv_iload_n hx hb dX4_doorEnd_7 rfl (lv_at hl 2 rfl) ?_
  refine lv_iadd hx hb dX4_doorEnd_8 ?_
  refine r_SN_i (As := [.ref (gg_a g (ky k0 7)), .int ((x1 * (2 : Int32)) + x2)]) (rest := []) cx hw hf (nw_at cx) lk_X4_91 (fun q1 hq => k_X5_at l g hg (ky k0 7) (hk0.1.2.2.1 7 rfl) S ((x1 * (2 : Int32)) + x2) q1 hq) ⟨⟨rfl, rfl⟩, Nat.le_of_ble_eq_true rfl, Nat.le_of_ble_eq_true rfl⟩ rfl hl.1 rfl (Nat.le_of_ble_eq_true rfl) dX4_doorEnd_9 ⟨Nat.zero_le _, Nat.zero_le _⟩ (fun q1 H locs hw hf => ?_)
  exact r_iret cx hw hr hlk hf dX4_doorEnd_12
theorem dX2_clear_0 : decode cX2_clear 0 = .ok (.aload_n 0, 1) := by decide +kernel
theorem dX2_clear_1 : decode cX2_clear 1 = .ok (.iconst 0, 1) := by decide +kernel
theorem dX2_clear_2 : decode cX2_clear 2 = .ok (.putfield 17, 3) := by decide +kernel
theorem dX2_clear_5 : decode cX2_clear 5 = .ok (.return_, 1) := by decide +kernel
abbrev rm_X2_clear : Room := { frames := 0, cells := 0, slots := 0, locals := 0 }
def f_X2_clear (S : St)  : Option (St) :=
  lt_v (up_I S (ky 6 2) (0 : Int32)) (fun (S1 : St) => some S1)
set_option maxRecDepth 100000 in
set_option maxHeartbeats 4000000 in
theorem k_X2_clear (l : Launch) (g : GG) (hg : gd wd_C g)  (h6 : hs wd_C g 6 2) (hA : allT g) (S : St)  (q : St) (hf : f_X2_clear  S  = some q) : Met l yX2_clear (Cond.code yX2_clear cX2_clear 1 none :: gw_tbl) rm_X2_clear (va_Pc [.ref (gg_o g 6)] (wI wd_C g S)) (qc_v wd_C g q) 0 0 (aw g) := by
  refine mt_start (own := RX2) hg (by decide) rfl (Nat.le_of_ble_eq_true rfl) (fun p e s m args below meth c ls H locs cx hw hr hlk hl => ?_)
  have hx := cx.1
  have hb := cx.2.1
  have hown := cx.2.2.2.1
  have hts := cx.2.2.2.2.1
  have hl : lv_has ls 1 [(0, .ref (gg_o g 6))] := hl
  replace hf := h_top hf
  unfold f_X2_clear at hf
  refine lv_aload_n hx hb dX2_clear_0 rfl (lv_at hl 0 rfl) ?_
  refine lv_iconst (v := 0) hx hb dX2_clear_1 (by decide) ?_
  refine pf_X2_17 cx hw h6 hf dX2_clear_2 (fun S1 H locs hw hf => ?_)
  exact r_vret cx hw hr hlk hf dX2_clear_5
theorem dX2_keep_0 : decode cX2_keep 0 = .ok (.aload_n 0, 1) := by decide +kernel
theorem dX2_keep_1 : decode cX2_keep 1 = .ok (.getfield 17, 3) := by decide +kernel
theorem dX2_keep_4 : decode cX2_keep 4 = .ok (.bipush 20, 2) := by decide +kernel
theorem dX2_keep_6 : decode cX2_keep 6 = .ok (.if_icmp .ne 26, 3) := by decide +kernel
theorem dX2_keep_9 : decode cX2_keep 9 = .ok (.aload_n 0, 1) := by decide +kernel
theorem dX2_keep_10 : decode cX2_keep 10 = .ok (.aload_n 0, 1) := by decide +kernel
theorem dX2_keep_11 : decode cX2_keep 11 = .ok (.getfield 21, 3) := by decide +kernel
theorem dX2_keep_14 : decode cX2_keep 14 = .ok (.iconst 1, 1) := by decide +kernel
theorem dX2_keep_15 : decode cX2_keep 15 = .ok (.iadd, 1) := by decide +kernel
theorem dX2_keep_16 : decode cX2_keep 16 = .ok (.bipush 20, 2) := by decide +kernel
theorem dX2_keep_18 : decode cX2_keep 18 = .ok (.irem, 1) := by decide +kernel
theorem dX2_keep_19 : decode cX2_keep 19 = .ok (.putfield 21, 3) := by decide +kernel
theorem dX2_keep_22 : decode cX2_keep 22 = .ok (.aload_n 0, 1) := by decide +kernel
theorem dX2_keep_23 : decode cX2_keep 23 = .ok (.dup, 1) := by decide +kernel
theorem dX2_keep_24 : decode cX2_keep 24 = .ok (.getfield 17, 3) := by decide +kernel
theorem dX2_keep_27 : decode cX2_keep 27 = .ok (.iconst 1, 1) := by decide +kernel
theorem dX2_keep_28 : decode cX2_keep 28 = .ok (.isub, 1) := by decide +kernel
theorem dX2_keep_29 : decode cX2_keep 29 = .ok (.putfield 17, 3) := by decide +kernel
theorem dX2_keep_32 : decode cX2_keep 32 = .ok (.aload_n 1, 1) := by decide +kernel
theorem dX2_keep_33 : decode cX2_keep 33 = .ok (.aload_n 0, 1) := by decide +kernel
theorem dX2_keep_34 : decode cX2_keep 34 = .ok (.getfield 11, 3) := by decide +kernel
theorem dX2_keep_37 : decode cX2_keep 37 = .ok (.aload_n 0, 1) := by decide +kernel
theorem dX2_keep_38 : decode cX2_keep 38 = .ok (.getfield 21, 3) := by decide +kernel
theorem dX2_keep_41 : decode cX2_keep 41 = .ok (.aload_n 0, 1) := by decide +kernel
theorem dX2_keep_42 : decode cX2_keep 42 = .ok (.getfield 17, 3) := by decide +kernel
theorem dX2_keep_45 : decode cX2_keep 45 = .ok (.iadd, 1) := by decide +kernel
theorem dX2_keep_46 : decode cX2_keep 46 = .ok (.bipush 20, 2) := by decide +kernel
theorem dX2_keep_48 : decode cX2_keep 48 = .ok (.irem, 1) := by decide +kernel
theorem dX2_keep_49 : decode cX2_keep 49 = .ok (.bipush 30, 2) := by decide +kernel
theorem dX2_keep_51 : decode cX2_keep 51 = .ok (.imul, 1) := by decide +kernel
theorem dX2_keep_52 : decode cX2_keep 52 = .ok (.invokevirtual 24, 3) := by decide +kernel
theorem dX2_keep_55 : decode cX2_keep 55 = .ok (.aload_n 0, 1) := by decide +kernel
theorem dX2_keep_56 : decode cX2_keep 56 = .ok (.dup, 1) := by decide +kernel
theorem dX2_keep_57 : decode cX2_keep 57 = .ok (.getfield 17, 3) := by decide +kernel
theorem dX2_keep_60 : decode cX2_keep 60 = .ok (.iconst 1, 1) := by decide +kernel
theorem dX2_keep_61 : decode cX2_keep 61 = .ok (.iadd, 1) := by decide +kernel
theorem dX2_keep_62 : decode cX2_keep 62 = .ok (.putfield 17, 3) := by decide +kernel
theorem dX2_keep_65 : decode cX2_keep 65 = .ok (.return_, 1) := by decide +kernel
abbrev rm_X2_keep : Room := { frames := 3, cells := 0, slots := 0, locals := 167 }
def f_X2_keep_J32 (k1 : Nat) (S : St)  : Option (St) :=
  chk (¬ (20 : Int32) = 0) ((f_X0_keepIn k1 (ky 6 0) S ((i_rem ((st_I S (ky 6 1)) + (st_I S (ky 6 2))) (20 : Int32)) * (30 : Int32))).bind (fun (q3 : St) => lt_v (up_I q3 (ky 6 2) ((st_I q3 (ky 6 2)) + (1 : Int32))) (fun (S4 : St) => some S4)))
def f_X2_keep (k1 : Nat) (S : St)  : Option (St) :=
  if (st_I S (ky 6 2)) = (20 : Int32) then (chk (¬ (20 : Int32) = 0) (lt_v (up_I S (ky 6 1) (i_rem ((st_I S (ky 6 1)) + (1 : Int32)) (20 : Int32))) (fun (S6 : St) => lt_v (up_I S6 (ky 6 2) ((st_I S6 (ky 6 2)) - (1 : Int32))) (fun (S7 : St) => f_X2_keep_J32 k1 S7 )))) else (f_X2_keep_J32 k1 S )
set_option maxRecDepth 100000 in
set_option maxHeartbeats 4000000 in
theorem k_X2_keep (l : Launch) (g : GG) (hg : gd wd_C g) (k1 : Nat) (h6 : hs wd_C g 6 2) (hA : allT g) (hk1 : hs wd_C g k1 0) (S : St)  (q : St) (hf : f_X2_keep k1 S  = some q) : Met l yX2_keep (Cond.code yX2_keep cX2_keep 2 none :: gw_tbl) rm_X2_keep (va_Pc [.ref (gg_o g 6), .ref (gg_o g k1)] (wI wd_C g S)) (qc_v wd_C g q) 0 0 (aw g) := by
  refine mt_start (own := RX2) hg (by decide) rfl (Nat.le_of_ble_eq_true rfl) (fun p e s m args below meth c ls H locs cx hw hr hlk hl => ?_)
  have hx := cx.1
  have hb := cx.2.1
  have hown := cx.2.2.2.1
  have hts := cx.2.2.2.2.1
  have hl : lv_has ls 2 [(0, .ref (gg_o g 6)), (1, .ref (gg_o g k1))] := hl
  replace hf := h_top hf
  unfold f_X2_keep at hf
  have J32 : ∀ (ls : Array Slot) (H : Heap) (locs : List Loc) (S : St) , lv_has ls 2 [(0, .ref (gg_o g 6)), (1, .ref (gg_o g k1))] → HH wd_C g s S H locs → (f_X2_keep_J32 k1 S ).bind some = some q → W p l e rm_X2_keep s m args below meth c H locs 0 0 (MQ below (qc_v wd_C g q) args s 0 0 (aw g)) (F0 m 32 ls []) := by
    intro ls H locs S  hl hw hf
    unfold f_X2_keep_J32 at hf
    refine lv_aload_n hx hb dX2_keep_32 rfl (lv_at hl 1 rfl) ?_
    refine lv_aload_n hx hb dX2_keep_33 rfl (lv_at hl 0 rfl) ?_
    refine gf_X2_11 cx hw h6 dX2_keep_34 ?_
    refine lv_aload_n hx hb dX2_keep_37 rfl (lv_at hl 0 rfl) ?_
    refine gf_X2_21 cx hw h6 dX2_keep_38 ?_
    refine lv_aload_n hx hb dX2_keep_41 rfl (lv_at hl 0 rfl) ?_
    refine gf_X2_17 cx hw h6 dX2_keep_42 ?_
    refine lv_iadd hx hb dX2_keep_45 ?_
    refine lv_bipush (v := 20) hx hb dX2_keep_46 (by decide) ?_
    obtain ⟨hc2, hf⟩ := h_chk hf
    refine lv_irem hx hb dX2_keep_48 hc2 ?_
    refine lv_bipush (v := 30) hx hb dX2_keep_49 (by decide) ?_
    refine lv_imul hx hb dX2_keep_51 ?_
    refine r_VN_v (As := [.ref (gg_a g (ky 6 0)), .int ((i_rem ((st_I S (ky 6 1)) + (st_I S (ky 6 2))) (20 : Int32)) * (30 : Int32))]) (rest := []) cx hw hf (nw_at cx) hk1.2.1 (by rw [hk1.1]; rfl) lk_X2_24 (fun q3 hq => k_X0_keepIn l g hg k1 (ky 6 0) hk1 hA (h6.2.2.1 0 rfl) S ((i_rem ((st_I S (ky 6 1)) + (st_I S (ky 6 2))) (20 : Int32)) * (30 : Int32)) q3 hq) ⟨⟨rfl, rfl⟩, Nat.le_of_ble_eq_true rfl, Nat.le_of_ble_eq_true rfl⟩ rfl hl.1 rfl (Nat.le_of_ble_eq_true rfl) dX2_keep_52 ⟨Nat.zero_le _, Nat.zero_le _⟩ (fun q3 H locs hw hf => ?_)
    refine lv_aload_n hx hb dX2_keep_55 rfl (lv_at hl 0 rfl) ?_
    refine lv_dup hx hb dX2_keep_56 rfl ?_
    refine gf_X2_17 cx hw h6 dX2_keep_57 ?_
    refine lv_iconst (v := 1) hx hb dX2_keep_60 (by decide) ?_
    refine lv_iadd hx hb dX2_keep_61 ?_
    refine pf_X2_17 cx hw h6 hf dX2_keep_62 (fun S4 H locs hw hf => ?_)
    exact r_vret cx hw hr hlk hf dX2_keep_65
  refine lv_aload_n hx hb dX2_keep_0 rfl (lv_at hl 0 rfl) ?_
  refine gf_X2_17 cx hw h6 dX2_keep_1 ?_
  refine lv_bipush (v := 20) hx hb dX2_keep_4 (by decide) ?_
  refine lv_icmp_ne hx hb dX2_keep_6 (tgt := 32) rfl (fun hc1 => ?_) (fun hc1 => ?_)
  · replace hf := h_neg hc1 hf
    exact J32 _ _ _ S (lv_sub hl [0, 1] rfl) hw hf
  replace hf := h_pos hc1 hf
  refine lv_aload_n hx hb dX2_keep_9 rfl (lv_at hl 0 rfl) ?_
  refine lv_aload_n hx hb dX2_keep_10 rfl (lv_at hl 0 rfl) ?_
  refine gf_X2_21 cx hw h6 dX2_keep_11 ?_
  refine lv_iconst (v := 1) hx hb dX2_keep_14 (by decide) ?_
  refine lv_iadd hx hb dX2_keep_15 ?_
  refine lv_bipush (v := 20) hx hb dX2_keep_16 (by decide) ?_
  obtain ⟨hc5, hf⟩ := h_chk hf
  refine lv_irem hx hb dX2_keep_18 hc5 ?_
  refine pf_X2_21 cx hw h6 hf dX2_keep_19 (fun S6 H locs hw hf => ?_)
  refine lv_aload_n hx hb dX2_keep_22 rfl (lv_at hl 0 rfl) ?_
  refine lv_dup hx hb dX2_keep_23 rfl ?_
  refine gf_X2_17 cx hw h6 dX2_keep_24 ?_
  refine lv_iconst (v := 1) hx hb dX2_keep_27 (by decide) ?_
  refine lv_isub hx hb dX2_keep_28 ?_
  refine pf_X2_17 cx hw h6 hf dX2_keep_29 (fun S7 H locs hw hf => ?_)
  exact J32 _ _ _ S7 (lv_sub hl [0, 1] rfl) hw hf
theorem dX2_takeBack_0 : decode cX2_takeBack 0 = .ok (.aload_n 0, 1) := by decide +kernel
theorem dX2_takeBack_1 : decode cX2_takeBack 1 = .ok (.getfield 17, 3) := by decide +kernel
theorem dX2_takeBack_4 : decode cX2_takeBack 4 = .ok (.ifCond .ne 5, 3) := by decide +kernel
theorem dX2_takeBack_7 : decode cX2_takeBack 7 = .ok (.iconst 0, 1) := by decide +kernel
theorem dX2_takeBack_8 : decode cX2_takeBack 8 = .ok (.ireturn, 1) := by decide +kernel
theorem dX2_takeBack_9 : decode cX2_takeBack 9 = .ok (.aload_n 0, 1) := by decide +kernel
theorem dX2_takeBack_10 : decode cX2_takeBack 10 = .ok (.dup, 1) := by decide +kernel
theorem dX2_takeBack_11 : decode cX2_takeBack 11 = .ok (.getfield 17, 3) := by decide +kernel
theorem dX2_takeBack_14 : decode cX2_takeBack 14 = .ok (.iconst 1, 1) := by decide +kernel
theorem dX2_takeBack_15 : decode cX2_takeBack 15 = .ok (.isub, 1) := by decide +kernel
theorem dX2_takeBack_16 : decode cX2_takeBack 16 = .ok (.putfield 17, 3) := by decide +kernel
theorem dX2_takeBack_19 : decode cX2_takeBack 19 = .ok (.aload_n 1, 1) := by decide +kernel
theorem dX2_takeBack_20 : decode cX2_takeBack 20 = .ok (.aload_n 0, 1) := by decide +kernel
theorem dX2_takeBack_21 : decode cX2_takeBack 21 = .ok (.getfield 11, 3) := by decide +kernel
theorem dX2_takeBack_24 : decode cX2_takeBack 24 = .ok (.aload_n 0, 1) := by decide +kernel
theorem dX2_takeBack_25 : decode cX2_takeBack 25 = .ok (.getfield 21, 3) := by decide +kernel
theorem dX2_takeBack_28 : decode cX2_takeBack 28 = .ok (.aload_n 0, 1) := by decide +kernel
theorem dX2_takeBack_29 : decode cX2_takeBack 29 = .ok (.getfield 17, 3) := by decide +kernel
theorem dX2_takeBack_32 : decode cX2_takeBack 32 = .ok (.iadd, 1) := by decide +kernel
theorem dX2_takeBack_33 : decode cX2_takeBack 33 = .ok (.bipush 20, 2) := by decide +kernel
theorem dX2_takeBack_35 : decode cX2_takeBack 35 = .ok (.irem, 1) := by decide +kernel
theorem dX2_takeBack_36 : decode cX2_takeBack 36 = .ok (.bipush 30, 2) := by decide +kernel
theorem dX2_takeBack_38 : decode cX2_takeBack 38 = .ok (.imul, 1) := by decide +kernel
theorem dX2_takeBack_39 : decode cX2_takeBack 39 = .ok (.invokevirtual 28, 3) := by decide +kernel
theorem dX2_takeBack_42 : decode cX2_takeBack 42 = .ok (.iconst 1, 1) := by decide +kernel
theorem dX2_takeBack_43 : decode cX2_takeBack 43 = .ok (.ireturn, 1) := by decide +kernel
abbrev rm_X2_takeBack : Room := { frames := 5, cells := 0, slots := 0, locals := 167 }
def f_X2_takeBack (k1 : Nat) (S : St)  : Option (Int32 × St) :=
  if (st_I S (ky 6 2)) = 0 then (some ((0 : Int32), S)) else (lt_v (up_I S (ky 6 2) ((st_I S (ky 6 2)) - (1 : Int32))) (fun (S2 : St) => chk (¬ (20 : Int32) = 0) ((f_X0_goBackTo k1 (ky 6 0) S2 ((i_rem ((st_I S2 (ky 6 1)) + (st_I S2 (ky 6 2))) (20 : Int32)) * (30 : Int32))).bind (fun (q4 : St) => some ((1 : Int32), q4)))))
set_option maxRecDepth 100000 in
set_option maxHeartbeats 4000000 in
theorem k_X2_takeBack (l : Launch) (g : GG) (hg : gd wd_C g) (k1 : Nat) (h6 : hs wd_C g 6 2) (hA : allT g) (hk1 : hs wd_C g k1 0) (S : St)  (q : Int32 × St) (hf : f_X2_takeBack k1 S  = some q) : Met l yX2_takeBack (Cond.code yX2_takeBack cX2_takeBack 2 (some .boolean) :: gw_tbl) rm_X2_takeBack (va_Pc [.ref (gg_o g 6), .ref (gg_o g k1)] (wI wd_C g S)) (qc_w wd_C g q) 0 0 (aw g) := by
  refine mt_start (own := RX2) hg (by decide) rfl (Nat.le_of_ble_eq_true rfl) (fun p e s m args below meth c ls H locs cx hw hr hlk hl => ?_)
  have hx := cx.1
  have hb := cx.2.1
  have hown := cx.2.2.2.1
  have hts := cx.2.2.2.2.1
  have hl : lv_has ls 2 [(0, .ref (gg_o g 6)), (1, .ref (gg_o g k1))] := hl
  replace hf := h_top hf
  unfold f_X2_takeBack at hf
  refine lv_aload_n hx hb dX2_takeBack_0 rfl (lv_at hl 0 rfl) ?_
  refine gf_X2_17 cx hw h6 dX2_takeBack_1 ?_
  refine lv_if_ne hx hb dX2_takeBack_4 (tgt := 9) rfl (fun hc1 => ?_) (fun hc1 => ?_)
  · replace hf := h_neg hc1 hf
    refine lv_aload_n hx hb dX2_takeBack_9 rfl (lv_at hl 0 rfl) ?_
    refine lv_dup hx hb dX2_takeBack_10 rfl ?_
    refine gf_X2_17 cx hw h6 dX2_takeBack_11 ?_
    refine lv_iconst (v := 1) hx hb dX2_takeBack_14 (by decide) ?_
    refine lv_isub hx hb dX2_takeBack_15 ?_
    refine pf_X2_17 cx hw h6 hf dX2_takeBack_16 (fun S2 H locs hw hf => ?_)
    refine lv_aload_n hx hb dX2_takeBack_19 rfl (lv_at hl 1 rfl) ?_
    refine lv_aload_n hx hb dX2_takeBack_20 rfl (lv_at hl 0 rfl) ?_
    refine gf_X2_11 cx hw h6 dX2_takeBack_21 ?_
    refine lv_aload_n hx hb dX2_takeBack_24 rfl (lv_at hl 0 rfl) ?_
    refine gf_X2_21 cx hw h6 dX2_takeBack_25 ?_
    refine lv_aload_n hx hb dX2_takeBack_28 rfl (lv_at hl 0 rfl) ?_
    refine gf_X2_17 cx hw h6 dX2_takeBack_29 ?_
    refine lv_iadd hx hb dX2_takeBack_32 ?_
    refine lv_bipush (v := 20) hx hb dX2_takeBack_33 (by decide) ?_
    obtain ⟨hc3, hf⟩ := h_chk hf
    refine lv_irem hx hb dX2_takeBack_35 hc3 ?_
    refine lv_bipush (v := 30) hx hb dX2_takeBack_36 (by decide) ?_
    refine lv_imul hx hb dX2_takeBack_38 ?_
    refine r_VN_v (As := [.ref (gg_a g (ky 6 0)), .int ((i_rem ((st_I S2 (ky 6 1)) + (st_I S2 (ky 6 2))) (20 : Int32)) * (30 : Int32))]) (rest := []) cx hw hf (nw_at cx) hk1.2.1 (by rw [hk1.1]; rfl) lk_X2_28 (fun q4 hq => k_X0_goBackTo l g hg k1 (ky 6 0) hk1 hA (h6.2.2.1 0 rfl) S2 ((i_rem ((st_I S2 (ky 6 1)) + (st_I S2 (ky 6 2))) (20 : Int32)) * (30 : Int32)) q4 hq) ⟨⟨rfl, rfl⟩, Nat.le_of_ble_eq_true rfl, Nat.le_of_ble_eq_true rfl⟩ rfl hl.1 rfl (Nat.le_of_ble_eq_true rfl) dX2_takeBack_39 ⟨Nat.zero_le _, Nat.zero_le _⟩ (fun q4 H locs hw hf => ?_)
    refine lv_iconst (v := 1) hx hb dX2_takeBack_42 (by decide) ?_
    exact r_zretw cx hw hr hlk (Or.inr rfl) hf dX2_takeBack_43
  replace hf := h_pos hc1 hf
  refine lv_iconst (v := 0) hx hb dX2_takeBack_7 (by decide) ?_
  exact r_zretw cx hw hr hlk (Or.inl rfl) hf dX2_takeBack_8
