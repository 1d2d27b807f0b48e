theorem dX5_stand_0 : decode cX5_stand 0 = .ok (.iload_n 1, 1) := by decide +kernel
theorem dX5_stand_1 : decode cX5_stand 1 = .ok (.iconst 2, 1) := by decide +kernel
theorem dX5_stand_2 : decode cX5_stand 2 = .ok (.invokestatic 112, 3) := by decide +kernel
theorem dX5_stand_5 : decode cX5_stand 5 = .ok (.ifCond .ne 5, 3) := by decide +kernel
theorem dX5_stand_8 : decode cX5_stand 8 = .ok (.iconst (-1), 1) := by decide +kernel
theorem dX5_stand_9 : decode cX5_stand 9 = .ok (.ireturn, 1) := by decide +kernel
theorem dX5_stand_10 : decode cX5_stand 10 = .ok (.bipush (-2), 2) := by decide +kernel
theorem dX5_stand_12 : decode cX5_stand 12 = .ok (.istore_n 2, 1) := by decide +kernel
theorem dX5_stand_13 : decode cX5_stand 13 = .ok (.bipush (-2), 2) := by decide +kernel
theorem dX5_stand_15 : decode cX5_stand 15 = .ok (.istore_n 3, 1) := by decide +kernel
theorem dX5_stand_16 : decode cX5_stand 16 = .ok (.iconst 0, 1) := by decide +kernel
theorem dX5_stand_17 : decode cX5_stand 17 = .ok (.istore 4, 2) := by decide +kernel
theorem dX5_stand_19 : decode cX5_stand 19 = .ok (.iload 4, 2) := by decide +kernel
theorem dX5_stand_21 : decode cX5_stand 21 = .ok (.aload_n 0, 1) := by decide +kernel
theorem dX5_stand_22 : decode cX5_stand 22 = .ok (.getfield 27, 3) := by decide +kernel
theorem dX5_stand_25 : decode cX5_stand 25 = .ok (.getfield 234, 3) := by decide +kernel
theorem dX5_stand_28 : decode cX5_stand 28 = .ok (.if_icmp .ge 42, 3) := by decide +kernel
theorem dX5_stand_31 : decode cX5_stand 31 = .ok (.aload_n 0, 1) := by decide +kernel
theorem dX5_stand_32 : decode cX5_stand 32 = .ok (.getfield 39, 3) := by decide +kernel
theorem dX5_stand_35 : decode cX5_stand 35 = .ok (.iload 4, 2) := by decide +kernel
theorem dX5_stand_37 : decode cX5_stand 37 = .ok (.aload_n 0, 1) := by decide +kernel
theorem dX5_stand_38 : decode cX5_stand 38 = .ok (.getfield 39, 3) := by decide +kernel
theorem dX5_stand_41 : decode cX5_stand 41 = .ok (.getfield 147, 3) := by decide +kernel
theorem dX5_stand_44 : decode cX5_stand 44 = .ok (.invokevirtual 200, 3) := by decide +kernel
theorem dX5_stand_47 : decode cX5_stand 47 = .ok (.invokestatic 237, 3) := by decide +kernel
theorem dX5_stand_50 : decode cX5_stand 50 = .ok (.istore 5, 2) := by decide +kernel
theorem dX5_stand_52 : decode cX5_stand 52 = .ok (.iload 5, 2) := by decide +kernel
theorem dX5_stand_54 : decode cX5_stand 54 = .ok (.iload_n 3, 1) := by decide +kernel
theorem dX5_stand_55 : decode cX5_stand 55 = .ok (.if_icmp .le 9, 3) := by decide +kernel
theorem dX5_stand_58 : decode cX5_stand 58 = .ok (.iload 5, 2) := by decide +kernel
theorem dX5_stand_60 : decode cX5_stand 60 = .ok (.istore_n 3, 1) := by decide +kernel
theorem dX5_stand_61 : decode cX5_stand 61 = .ok (.iload 4, 2) := by decide +kernel
theorem dX5_stand_63 : decode cX5_stand 63 = .ok (.istore_n 2, 1) := by decide +kernel
theorem dX5_stand_64 : decode cX5_stand 64 = .ok (.iinc 4 1, 3) := by decide +kernel
theorem dX5_stand_67 : decode cX5_stand 67 = .ok (.goto (-48), 3) := by decide +kernel
theorem dX5_stand_70 : decode cX5_stand 70 = .ok (.iload_n 1, 1) := by decide +kernel
theorem dX5_stand_71 : decode cX5_stand 71 = .ok (.ifCond .ne 7, 3) := by decide +kernel
theorem dX5_stand_74 : decode cX5_stand 74 = .ok (.iload_n 2, 1) := by decide +kernel
theorem dX5_stand_75 : decode cX5_stand 75 = .ok (.goto 4, 3) := by decide +kernel
theorem dX5_stand_78 : decode cX5_stand 78 = .ok (.iload_n 3, 1) := by decide +kernel
theorem dX5_stand_79 : decode cX5_stand 79 = .ok (.ireturn, 1) := by decide +kernel
abbrev rm_X5_stand : Room := { frames := 5, cells := 0, slots := 0, locals := 113 }
def f_X5_stand_L19 (S : St) (x1 : Int32) (z19 : Int32 × Int32 × Int32) : Option ((Int32 × Int32 × Int32) ⊕ (Int32 × Int32)) :=
  chk (isT (st_P S (ky 0 4))) (if (st_I S (ky (st_P S (ky 0 4)) 0)) ≤ z19.2.2 then (some (.inr (z19.1, z19.2.1))) else ((f_X0_menShownIn 10 S z19.2.2 (st_I S (ky 10 1))).bind (fun (q5 : Int32) => (f_J6_bitCount_0f7a4   q5).bind (fun (q6 : Int32) => if q6 ≤ z19.2.1 then (some (.inl (z19.1, z19.2.1, (z19.2.2 + 1)))) else (some (.inl (z19.2.2, q6, (z19.2.2 + 1))))))))
def f_X5_stand (S : St) (x1 : Int32) : Option (Int32) :=
  (f_X5_within   x1 (2 : Int32)).bind (fun (q1 : Int32) => if q1 = 0 then (some (-1 : Int32)) else ((iter (f_X5_stand_L19  S x1) FU ((-2 : Int32), (-2 : Int32), (0 : Int32))).bind (fun (u11 : Int32 × Int32) => (fun (e8 : Int32) (e9 : Int32) => if x1 = 0 then (some e8) else (some e9)) u11.1 u11.2)))
set_option maxRecDepth 100000 in
set_option maxHeartbeats 4000000 in
theorem k_X5_stand (l : Launch) (g : GG) (hg : gd wd_C g)  (hL : hAll g) (S : St) (x1 : Int32) (q : Int32) (hf : f_X5_stand  S x1 = some q) : Met l yX5_stand (Cond.code yX5_stand cX5_stand 6 (some .int) :: gw_tbl) rm_X5_stand (va_Pc [.ref (gg_o g 0), .int x1] (wI wd_C g S)) (qc_i wd_C g S q) 0 0 (aw g) := by
  refine mt_start (own := RX5) hg (by decide) rfl (Nat.le_of_ble_eq_true rfl) (fun p e s m args below meth c ls H locs cx hw hr hlk hl => ?_)
  have hx := cx.1
  have hb := cx.2.1
  have hown := cx.2.2.2.1
  have hts := cx.2.2.2.2.1
  have hl : lv_has ls 6 [(0, .ref (gg_o g 0)), (1, .int x1)] := hl
  replace hf := h_top hf
  unfold f_X5_stand at hf
  refine lv_iload_n hx hb dX5_stand_0 rfl (lv_at hl 1 rfl) ?_
  refine lv_iconst (v := 2) hx hb dX5_stand_1 (by decide) ?_
  refine r_S_i (As := [.int x1, .int (2 : Int32)]) (rest := []) cx hw hf lk_X5_112 (fun q1 hq => k_X5_within l g hg   S x1 (2 : Int32) q1 hq) ⟨⟨rfl, rfl⟩, Nat.le_of_ble_eq_true rfl, Nat.le_of_ble_eq_true rfl⟩ rfl hl.1 rfl (Nat.le_of_ble_eq_true rfl) dX5_stand_2 ⟨Nat.zero_le _, Nat.zero_le _⟩ (fun q1 H locs hw hf => ?_)
  refine lv_if_ne hx hb dX5_stand_5 (tgt := 10) rfl (fun hc2 => ?_) (fun hc2 => ?_)
  · replace hf := h_neg hc2 hf
    refine lv_bipush (v := -2) hx hb dX5_stand_10 (by decide) ?_
    refine lv_istore_n hx hb dX5_stand_12 rfl hl (by decide) (lv' := [(2, .int (-2 : Int32)), (0, .ref (gg_o g 0)), (1, .int x1)]) rfl (fun ls hl => ?_)
    refine lv_bipush (v := -2) hx hb dX5_stand_13 (by decide) ?_
    refine lv_istore_n hx hb dX5_stand_15 rfl hl (by decide) (lv' := [(3, .int (-2 : Int32)), (2, .int (-2 : Int32)), (0, .ref (gg_o g 0)), (1, .int x1)]) rfl (fun ls hl => ?_)
    refine lv_iconst (v := 0) hx hb dX5_stand_16 (by decide) ?_
    refine lv_istore hx hb dX5_stand_17 hl (by decide) (lv' := [(4, .int (0 : Int32)), (3, .int (-2 : Int32)), (2, .int (-2 : Int32)), (0, .ref (gg_o g 0)), (1, .int x1)]) rfl (fun ls hl => ?_)
    have L19 : ∀ (x1 : Int32) (aft19 : (Int32 × Int32) → Option (Int32)), (∀ (ls : Array Slot) (H : Heap) (locs : List Loc) (e2 : Int32) (e3 : Int32), lv_has ls 6 [(1, .int x1), (2, .int e2), (3, .int e3)] → HH wd_C g s S H locs → aft19 (e2, e3) = some q → W p l e rm_X5_stand s m args below meth c H locs 0 0 (MQ below (qc_i wd_C g S q) args s 0 0 (aw g)) (F0 m 70 ls [])) → ∀ (n19 : Nat) (ls : Array Slot) (H : Heap) (locs : List Loc) (z19 : Int32 × Int32 × Int32), lv_has ls 6 [(0, .ref (gg_o g 0)), (1, .int x1), (2, .int z19.1), (3, .int z19.2.1), (4, .int z19.2.2)] → HH wd_C g s S H locs → (iter (f_X5_stand_L19  S x1) n19 z19).bind aft19 = some q → W p l e rm_X5_stand s m args below meth c H locs 0 0 (MQ below (qc_i wd_C g S q) args s 0 0 (aw g)) (F0 m 19 ls []) := by
      intro x1 aft19 hX19 n19
      induction n19 with
      | zero => intro ls H locs z19 hl hw hf; exact h_iter0 hf
      | succ n19 ih19 =>
        intro ls H locs z19 hl hw hf
        replace hf := h_iter hf
        unfold f_X5_stand_L19 at hf
        refine lv_iload hx hb dX5_stand_19 (lv_at hl 4 rfl) ?_
        refine lv_aload_n hx hb dX5_stand_21 rfl (lv_at hl 0 rfl) ?_
        obtain ⟨hc3, hf⟩ := h_chk hf
        refine gf_X5_27 cx hw hL.1 dX5_stand_22 ?_
        refine gf_X5_234 cx hw ((allT_at hL.2.2.2.2 hc3).1) dX5_stand_25 ?_
        refine lv_icmp_ge hx hb dX5_stand_28 (tgt := 70) rfl (fun hc4 => ?_) (fun hc4 => ?_)
        · replace hf := h_pos hc4 hf
          exact hX19 _ _ _ z19.1 z19.2.1 (lv_sub hl [1, 2, 3] rfl) hw hf
        replace hf := h_neg hc4 hf
        refine lv_aload_n hx hb dX5_stand_31 rfl (lv_at hl 0 rfl) ?_
        refine gf_X5_39 cx hw hL.1 dX5_stand_32 ?_
        refine lv_iload hx hb dX5_stand_35 (lv_at hl 4 rfl) ?_
        refine lv_aload_n hx hb dX5_stand_37 rfl (lv_at hl 0 rfl) ?_
        refine gf_X5_39 cx hw hL.1 dX5_stand_38 ?_
        refine gf_X5_147 cx hw (hL.2.2.2.1 0 (by decide)) dX5_stand_41 ?_
        refine r_VN_i (As := [.int z19.2.2, .int (st_I S (ky 10 1))]) (rest := []) cx hw hf (nw_at cx) (hL.2.2.2.1 0 (by decide)).2.1 (by rw [(hL.2.2.2.1 0 (by decide)).1]; rfl) lk_X5_200 (fun q5 hq => k_X0_menShownIn l g hg 10 (hL.2.2.2.1 0 (by decide)) hL.2.2.2.2 S z19.2.2 (st_I S (ky 10 1)) q5 hq) ⟨⟨rfl, rfl⟩, Nat.le_of_ble_eq_true rfl, Nat.le_of_ble_eq_true rfl⟩ rfl hl.1 rfl (Nat.le_of_ble_eq_true rfl) dX5_stand_44 ⟨Nat.zero_le _, Nat.zero_le _⟩ (fun q5 H locs hw hf => ?_)
        refine r_S_i (As := [.int q5]) (rest := []) cx hw hf lk_X5_237 (fun q6 hq => k_J6_bitCount_0f7a4 l wd_C g hg   S q5 q6 hq) ⟨⟨rfl, rfl⟩, Nat.le_of_ble_eq_true rfl, Nat.le_of_ble_eq_true rfl⟩ rfl hl.1 rfl (Nat.le_of_ble_eq_true rfl) dX5_stand_47 ⟨Nat.zero_le _, Nat.zero_le _⟩ (fun q6 H locs hw hf => ?_)
        refine lv_istore hx hb dX5_stand_50 hl (by decide) (lv' := [(5, .int q6), (0, .ref (gg_o g 0)), (1, .int x1), (2, .int z19.1), (3, .int z19.2.1), (4, .int z19.2.2)]) rfl (fun ls hl => ?_)
        refine lv_iload hx hb dX5_stand_52 (lv_at hl 0 rfl) ?_
        refine lv_iload_n hx hb dX5_stand_54 rfl (lv_at hl 4 rfl) ?_
        refine lv_icmp_le hx hb dX5_stand_55 (tgt := 64) rfl (fun hc7 => ?_) (fun hc7 => ?_)
        · replace hf := h_pos hc7 hf
          refine lv_iinc hx hb dX5_stand_64 hl (k := 5) rfl (congrArg (HAdd.hAdd _) (show Int32.ofInt (1) = 1 by decide)) (by decide) (lv' := [(4, .int (z19.2.2 + 1)), (5, .int q6), (0, .ref (gg_o g 0)), (1, .int x1), (2, .int z19.1), (3, .int z19.2.1)]) rfl (fun ls hl => ?_)
          refine lv_goto hx hb dX5_stand_67 (tgt := 19) rfl ?_
          exact ih19 _ _ _ (z19.1, z19.2.1, (z19.2.2 + 1)) (lv_sub hl [2, 3, 4, 5, 0] rfl) hw hf
        replace hf := h_neg hc7 hf
        refine lv_iload hx hb dX5_stand_58 (lv_at hl 0 rfl) ?_
        refine lv_istore_n hx hb dX5_stand_60 rfl hl (by decide) (lv' := [(3, .int q6), (5, .int q6), (0, .ref (gg_o g 0)), (1, .int x1), (2, .int z19.1), (4, .int z19.2.2)]) rfl (fun ls hl => ?_)
        refine lv_iload hx hb dX5_stand_61 (lv_at hl 5 rfl) ?_
        refine lv_istore_n hx hb dX5_stand_63 rfl hl (by decide) (lv' := [(2, .int z19.2.2), (3, .int q6), (5, .int q6), (0, .ref (gg_o g 0)), (1, .int x1), (4, .int z19.2.2)]) rfl (fun ls hl => ?_)
        refine lv_iinc hx hb dX5_stand_64 hl (k := 5) rfl (congrArg (HAdd.hAdd _) (show Int32.ofInt (1) = 1 by decide)) (by decide) (lv' := [(4, .int (z19.2.2 + 1)), (2, .int z19.2.2), (3, .int q6), (5, .int q6), (0, .ref (gg_o g 0)), (1, .int x1)]) rfl (fun ls hl => ?_)
        refine lv_goto hx hb dX5_stand_67 (tgt := 19) rfl ?_
        exact ih19 _ _ _ (z19.2.2, q6, (z19.2.2 + 1)) (lv_sub hl [4, 5, 1, 2, 0] rfl) hw hf
    refine L19 x1 _ (fun ls H locs e8 e9 hl hw hf => ?_) FU _ _ _ ((-2 : Int32), (-2 : Int32), (0 : Int32)) (lv_sub hl [3, 4, 2, 1, 0] rfl) hw (h_assoc hf)
    try dsimp only at hf
    refine lv_iload_n hx hb dX5_stand_70 rfl (lv_at hl 0 rfl) ?_
    refine lv_if_ne hx hb dX5_stand_71 (tgt := 78) rfl (fun hc10 => ?_) (fun hc10 => ?_)
    · replace hf := h_neg hc10 hf
      refine lv_iload_n hx hb dX5_stand_78 rfl (lv_at hl 2 rfl) ?_
      exact r_iret cx hw hr hlk hf dX5_stand_79
    replace hf := h_pos hc10 hf
    refine lv_iload_n hx hb dX5_stand_74 rfl (lv_at hl 1 rfl) ?_
    refine lv_goto hx hb dX5_stand_75 (tgt := 79) rfl ?_
    exact r_iret cx hw hr hlk hf dX5_stand_79
  replace hf := h_pos hc2 hf
  refine lv_iconst (v := -1) hx hb dX5_stand_8 (by decide) ?_
  exact r_iret cx hw hr hlk hf dX5_stand_9
theorem dX5_worth_0 : decode cX5_worth 0 = .ok (.aload_n 0, 1) := by decide +kernel
theorem dX5_worth_1 : decode cX5_worth 1 = .ok (.getfield 63, 3) := by decide +kernel
theorem dX5_worth_4 : decode cX5_worth 4 = .ok (.iload_n 1, 1) := by decide +kernel
theorem dX5_worth_5 : decode cX5_worth 5 = .ok (.invokestatic 212, 3) := by decide +kernel
theorem dX5_worth_8 : decode cX5_worth 8 = .ok (.iload_n 1, 1) := by decide +kernel
theorem dX5_worth_9 : decode cX5_worth 9 = .ok (.iload_n 2, 1) := by decide +kernel
theorem dX5_worth_10 : decode cX5_worth 10 = .ok (.if_icmp .ne 7, 3) := by decide +kernel
theorem dX5_worth_13 : decode cX5_worth 13 = .ok (.iconst 2, 1) := by decide +kernel
theorem dX5_worth_14 : decode cX5_worth 14 = .ok (.goto 4, 3) := by decide +kernel
theorem dX5_worth_17 : decode cX5_worth 17 = .ok (.iconst 0, 1) := by decide +kernel
theorem dX5_worth_18 : decode cX5_worth 18 = .ok (.isub, 1) := by decide +kernel
theorem dX5_worth_19 : decode cX5_worth 19 = .ok (.ireturn, 1) := by decide +kernel
abbrev rm_X5_worth : Room := { frames := 1, cells := 0, slots := 0, locals := 21 }
def f_X5_worth (S : St) (x1 : Int32) (x2 : Int32) : Option (Int32) :=
  (f_X5_at (ky 0 14) S x1).bind (fun (q1 : Int32) => if x1 = x2 then (some (q1 - (2 : Int32))) else (some (q1 - (0 : Int32))))
set_option maxRecDepth 100000 in
set_option maxHeartbeats 4000000 in
theorem k_X5_worth (l : Launch) (g : GG) (hg : gd wd_C g)  (hL : hAll g) (S : St) (x1 : Int32) (x2 : Int32) (q : Int32) (hf : f_X5_worth  S x1 x2 = some q) : Met l yX5_worth (Cond.code yX5_worth cX5_worth 3 (some .int) :: gw_tbl) rm_X5_worth (va_Pc [.ref (gg_o g 0), .int x1, .int x2] (wI wd_C g S)) (qc_i wd_C g S q) 0 0 (aw g) := by
  refine mt_start (own := RX5) hg (by decide) rfl (Nat.le_of_ble_eq_true rfl) (fun p e s m args below meth c ls H locs cx hw hr hlk hl => ?_)
  have hx := cx.1
  have hb := cx.2.1
  have hown := cx.2.2.2.1
  have hts := cx.2.2.2.2.1
  have hl : lv_has ls 3 [(0, .ref (gg_o g 0)), (1, .int x1), (2, .int x2)] := hl
  replace hf := h_top hf
  unfold f_X5_worth at hf
  refine lv_aload_n hx hb dX5_worth_0 rfl (lv_at hl 0 rfl) ?_
  refine gf_X5_63 cx hw hL.1 dX5_worth_1 ?_
  refine lv_iload_n hx hb dX5_worth_4 rfl (lv_at hl 1 rfl) ?_
  refine r_S_i (As := [.ref (gg_a g (ky 0 14)), .int x1]) (rest := []) cx hw hf lk_X5_212 (fun q1 hq => k_X5_at l g hg (ky 0 14) (hL.1.2.2.1 14 rfl) S x1 q1 hq) ⟨⟨rfl, rfl⟩, Nat.le_of_ble_eq_true rfl, Nat.le_of_ble_eq_true rfl⟩ rfl hl.1 rfl (Nat.le_of_ble_eq_true rfl) dX5_worth_5 ⟨Nat.zero_le _, Nat.zero_le _⟩ (fun q1 H locs hw hf => ?_)
  refine lv_iload_n hx hb dX5_worth_8 rfl (lv_at hl 1 rfl) ?_
  refine lv_iload_n hx hb dX5_worth_9 rfl (lv_at hl 2 rfl) ?_
  refine lv_icmp_ne hx hb dX5_worth_10 (tgt := 17) rfl (fun hc2 => ?_) (fun hc2 => ?_)
  · replace hf := h_neg hc2 hf
    refine lv_iconst (v := 0) hx hb dX5_worth_17 (by decide) ?_
    refine lv_isub hx hb dX5_worth_18 ?_
    exact r_iret cx hw hr hlk hf dX5_worth_19
  replace hf := h_pos hc2 hf
  refine lv_iconst (v := 2) hx hb dX5_worth_13 (by decide) ?_
  refine lv_goto hx hb dX5_worth_14 (tgt := 18) rfl ?_
  refine lv_isub hx hb dX5_worth_18 ?_
  exact r_iret cx hw hr hlk hf dX5_worth_19
theorem dX5_isRest_0 : decode cX5_isRest 0 = .ok (.iconst 0, 1) := by decide +kernel
theorem dX5_isRest_1 : decode cX5_isRest 1 = .ok (.istore_n 3, 1) := by decide +kernel
theorem dX5_isRest_2 : decode cX5_isRest 2 = .ok (.iload_n 3, 1) := by decide +kernel
theorem dX5_isRest_3 : decode cX5_isRest 3 = .ok (.aload_n 0, 1) := by decide +kernel
theorem dX5_isRest_4 : decode cX5_isRest 4 = .ok (.getfield 27, 3) := by decide +kernel
theorem dX5_isRest_7 : decode cX5_isRest 7 = .ok (.getfield 234, 3) := by decide +kernel
theorem dX5_isRest_10 : decode cX5_isRest 10 = .ok (.if_icmp .ge 41, 3) := by decide +kernel
theorem dX5_isRest_13 : decode cX5_isRest 13 = .ok (.aload_n 0, 1) := by decide +kernel
theorem dX5_isRest_14 : decode cX5_isRest 14 = .ok (.iload_n 3, 1) := by decide +kernel
theorem dX5_isRest_15 : decode cX5_isRest 15 = .ok (.iload_n 2, 1) := by decide +kernel
theorem dX5_isRest_16 : decode cX5_isRest 16 = .ok (.invokevirtual 296, 3) := by decide +kernel
theorem dX5_isRest_19 : decode cX5_isRest 19 = .ok (.aload_n 0, 1) := by decide +kernel
theorem dX5_isRest_20 : decode cX5_isRest 20 = .ok (.iload_n 1, 1) := by decide +kernel
theorem dX5_isRest_21 : decode cX5_isRest 21 = .ok (.iload_n 2, 1) := by decide +kernel
theorem dX5_isRest_22 : decode cX5_isRest 22 = .ok (.invokevirtual 296, 3) := by decide +kernel
theorem dX5_isRest_25 : decode cX5_isRest 25 = .ok (.if_icmp .gt 18, 3) := by decide +kernel
theorem dX5_isRest_28 : decode cX5_isRest 28 = .ok (.aload_n 0, 1) := by decide +kernel
theorem dX5_isRest_29 : decode cX5_isRest 29 = .ok (.iload_n 3, 1) := by decide +kernel
theorem dX5_isRest_30 : decode cX5_isRest 30 = .ok (.iload_n 1, 1) := by decide +kernel
theorem dX5_isRest_31 : decode cX5_isRest 31 = .ok (.invokevirtual 296, 3) := by decide +kernel
theorem dX5_isRest_34 : decode cX5_isRest 34 = .ok (.aload_n 0, 1) := by decide +kernel
theorem dX5_isRest_35 : decode cX5_isRest 35 = .ok (.iload_n 2, 1) := by decide +kernel
theorem dX5_isRest_36 : decode cX5_isRest 36 = .ok (.iload_n 1, 1) := by decide +kernel
theorem dX5_isRest_37 : decode cX5_isRest 37 = .ok (.invokevirtual 296, 3) := by decide +kernel
theorem dX5_isRest_40 : decode cX5_isRest 40 = .ok (.if_icmp .le 5, 3) := by decide +kernel
theorem dX5_isRest_43 : decode cX5_isRest 43 = .ok (.iconst 0, 1) := by decide +kernel
theorem dX5_isRest_44 : decode cX5_isRest 44 = .ok (.ireturn, 1) := by decide +kernel
theorem dX5_isRest_45 : decode cX5_isRest 45 = .ok (.iinc 3 1, 3) := by decide +kernel
theorem dX5_isRest_48 : decode cX5_isRest 48 = .ok (.goto (-46), 3) := by decide +kernel
theorem dX5_isRest_51 : decode cX5_isRest 51 = .ok (.iconst 1, 1) := by decide +kernel
theorem dX5_isRest_52 : decode cX5_isRest 52 = .ok (.ireturn, 1) := by decide +kernel
abbrev rm_X5_isRest : Room := { frames := 2, cells := 0, slots := 0, locals := 43 }
def f_X5_isRest_L2 (S : St) (x1 : Int32) (x2 : Int32) (z2 : Int32) : Option ((Int32) ⊕ (Int32)) :=
  chk (isT (st_P S (ky 0 4))) (if (st_I S (ky (st_P S (ky 0 4)) 0)) ≤ z2 then (some (.inr (1 : Int32))) else ((f_X5_worth  S z2 x2).bind (fun (q3 : Int32) => (f_X5_worth  S x1 x2).bind (fun (q4 : Int32) => if q4 < q3 then (some (.inr (0 : Int32))) else ((f_X5_worth  S z2 x1).bind (fun (q6 : Int32) => (f_X5_worth  S x2 x1).bind (fun (q7 : Int32) => if q6 ≤ q7 then (some (.inl (z2 + 1))) else (some (.inr (0 : Int32))))))))))
def f_X5_isRest (S : St) (x1 : Int32) (x2 : Int32) : Option (Int32) :=
  iter (f_X5_isRest_L2  S x1 x2) FU (0 : Int32)
set_option maxRecDepth 100000 in
set_option maxHeartbeats 4000000 in
theorem k_X5_isRest (l : Launch) (g : GG) (hg : gd wd_C g)  (hL : hAll g) (S : St) (x1 : Int32) (x2 : Int32) (q : Int32) (hf : f_X5_isRest  S x1 x2 = some q) : Met l yX5_isRest (Cond.code yX5_isRest cX5_isRest 4 (some .boolean) :: gw_tbl) rm_X5_isRest (va_Pc [.ref (gg_o g 0), .int x1, .int x2] (wI wd_C g S)) (qc_i wd_C g S q) 0 0 (aw g) := by
  refine mt_start (own := RX5) hg (by decide) rfl (Nat.le_of_ble_eq_true rfl) (fun p e s m args below meth c ls H locs cx hw hr hlk hl => ?_)
  have hx := cx.1
  have hb := cx.2.1
  have hown := cx.2.2.2.1
  have hts := cx.2.2.2.2.1
  have hl : lv_has ls 4 [(0, .ref (gg_o g 0)), (1, .int x1), (2, .int x2)] := hl
  replace hf := h_top hf
  unfold f_X5_isRest at hf
  refine lv_iconst (v := 0) hx hb dX5_isRest_0 (by decide) ?_
  refine lv_istore_n hx hb dX5_isRest_1 rfl hl (by decide) (lv' := [(3, .int (0 : Int32)), (0, .ref (gg_o g 0)), (1, .int x1), (2, .int x2)]) rfl (fun ls hl => ?_)
  have L2 : ∀ (x1 : Int32) (x2 : Int32) (aft2 : Int32 → Option (Int32)), (∀ v : Int32, aft2 v = some q → (some v : Option (Int32)).bind some = some q) → ∀ (n2 : Nat) (ls : Array Slot) (H : Heap) (locs : List Loc) (z2 : Int32), lv_has ls 4 [(0, .ref (gg_o g 0)), (1, .int x1), (2, .int x2), (3, .int z2)] → HH wd_C g s S H locs → (iter (f_X5_isRest_L2  S x1 x2) n2 z2).bind aft2 = some q → W p l e rm_X5_isRest s m args below meth c H locs 0 0 (MQ below (qc_i wd_C g S q) args s 0 0 (aw g)) (F0 m 2 ls []) := by
    intro x1 x2 aft2 hR2 n2
    induction n2 with
    | zero => intro ls H locs z2 hl hw hf; exact h_iter0 hf
    | succ n2 ih2 =>
      intro ls H locs z2 hl hw hf
      replace hf := h_iter hf
      unfold f_X5_isRest_L2 at hf
      refine lv_iload_n hx hb dX5_isRest_2 rfl (lv_at hl 3 rfl) ?_
      refine lv_aload_n hx hb dX5_isRest_3 rfl (lv_at hl 0 rfl) ?_
      obtain ⟨hc1, hf⟩ := h_chk hf
      refine gf_X5_27 cx hw hL.1 dX5_isRest_4 ?_
      refine gf_X5_234 cx hw ((allT_at hL.2.2.2.2 hc1).1) dX5_isRest_7 ?_
      refine lv_icmp_ge hx hb dX5_isRest_10 (tgt := 51) rfl (fun hc2 => ?_) (fun hc2 => ?_)
      · replace hf := h_pos hc2 hf
        refine lv_iconst (v := 1) hx hb dX5_isRest_51 (by decide) ?_
        replace hf := hR2 (1 : Int32) hf
        exact r_zret cx hw hr hlk (Or.inr rfl) hf dX5_isRest_52
      replace hf := h_neg hc2 hf
      refine lv_aload_n hx hb dX5_isRest_13 rfl (lv_at hl 0 rfl) ?_
      refine lv_iload_n hx hb dX5_isRest_14 rfl (lv_at hl 3 rfl) ?_
      refine lv_iload_n hx hb dX5_isRest_15 rfl (lv_at hl 2 rfl) ?_
      refine r_V_i (As := [.int z2, .int x2]) (rest := []) cx hw hf hL.1.2.1 (by rw [hL.1.1]; rfl) lk_X5_296 (fun q3 hq => k_X5_worth l g hg  hL S z2 x2 q3 hq) ⟨⟨rfl, rfl⟩, Nat.le_of_ble_eq_true rfl, Nat.le_of_ble_eq_true rfl⟩ rfl hl.1 rfl (Nat.le_of_ble_eq_true rfl) dX5_isRest_16 ⟨Nat.zero_le _, Nat.zero_le _⟩ (fun q3 H locs hw hf => ?_)
      refine lv_aload_n hx hb dX5_isRest_19 rfl (lv_at hl 0 rfl) ?_
      refine lv_iload_n hx hb dX5_isRest_20 rfl (lv_at hl 1 rfl) ?_
      refine lv_iload_n hx hb dX5_isRest_21 rfl (lv_at hl 2 rfl) ?_
      refine r_V_i (As := [.int x1, .int x2]) (rest := [.int q3]) cx hw hf hL.1.2.1 (by rw [hL.1.1]; rfl) lk_X5_296 (fun q4 hq => k_X5_worth l g hg  hL S x1 x2 q4 hq) ⟨⟨rfl, rfl⟩, Nat.le_of_ble_eq_true rfl, Nat.le_of_ble_eq_true rfl⟩ rfl hl.1 rfl (Nat.le_of_ble_eq_true rfl) dX5_isRest_22 ⟨Nat.zero_le _, Nat.zero_le _⟩ (fun q4 H locs hw hf => ?_)
      refine lv_icmp_gt hx hb dX5_isRest_25 (tgt := 43) rfl (fun hc5 => ?_) (fun hc5 => ?_)
      · replace hf := h_pos hc5 hf
        refine lv_iconst (v := 0) hx hb dX5_isRest_43 (by decide) ?_
        replace hf := hR2 (0 : Int32) hf
        exact r_zret cx hw hr hlk (Or.inl rfl) hf dX5_isRest_44
      replace hf := h_neg hc5 hf
      refine lv_aload_n hx hb dX5_isRest_28 rfl (lv_at hl 0 rfl) ?_
      refine lv_iload_n hx hb dX5_isRest_29 rfl (lv_at hl 3 rfl) ?_
      refine lv_iload_n hx hb dX5_isRest_30 rfl (lv_at hl 1 rfl) ?_
      refine r_V_i (As := [.int z2, .int x1]) (rest := []) cx hw hf hL.1.2.1 (by rw [hL.1.1]; rfl) lk_X5_296 (fun q6 hq => k_X5_worth l g hg  hL S z2 x1 q6 hq) ⟨⟨rfl, rfl⟩, Nat.le_of_ble_eq_true rfl, Nat.le_of_ble_eq_true rfl⟩ rfl hl.1 rfl (Nat.le_of_ble_eq_true rfl) dX5_isRest_31 ⟨Nat.zero_le _, Nat.zero_le _⟩ (fun q6 H locs hw hf => ?_)
      refine lv_aload_n hx hb dX5_isRest_34 rfl (lv_at hl 0 rfl) ?_
      refine lv_iload_n hx hb dX5_isRest_35 rfl (lv_at hl 2 rfl) ?_
      refine lv_iload_n hx hb dX5_isRest_36 rfl (lv_at hl 1 rfl) ?_
      refine r_V_i (As := [.int x2, .int x1]) (rest := [.int q6]) cx hw hf hL.1.2.1 (by rw [hL.1.1]; rfl) lk_X5_296 (fun q7 hq => k_X5_worth l g hg  hL S x2 x1 q7 hq) ⟨⟨rfl, rfl⟩, Nat.le_of_ble_eq_true rfl, Nat.le_of_ble_eq_true rfl⟩ rfl hl.1 rfl (Nat.le_of_ble_eq_true rfl) dX5_isRest_37 ⟨Nat.zero_le _, Nat.zero_le _⟩ (fun q7 H locs hw hf => ?_)
      refine lv_icmp_le hx hb dX5_isRest_40 (tgt := 45) rfl (fun hc8 => ?_) (fun hc8 => ?_)
      · replace hf := h_pos hc8 hf
        refine lv_iinc hx hb dX5_isRest_45 hl (k := 3) rfl (congrArg (HAdd.hAdd _) (show Int32.ofInt (1) = 1 by decide)) (by decide) (lv' := [(3, .int (z2 + 1)), (0, .ref (gg_o g 0)), (1, .int x1), (2, .int x2)]) rfl (fun ls hl => ?_)
        refine lv_goto hx hb dX5_isRest_48 (tgt := 2) rfl ?_
        exact ih2 _ _ _ (z2 + 1) (lv_sub hl [1, 2, 3, 0] rfl) hw hf
      replace hf := h_neg hc8 hf
      refine lv_iconst (v := 0) hx hb dX5_isRest_43 (by decide) ?_
      replace hf := hR2 (0 : Int32) hf
      exact r_zret cx hw hr hlk (Or.inl rfl) hf dX5_isRest_44
  exact L2 x1 x2 some (fun v h => h) FU _ _ _ (0 : Int32) (lv_sub hl [1, 2, 3, 0] rfl) hw hf
theorem dX5_rests_0 : decode cX5_rests 0 = .ok (.aload_n 0, 1) := by decide +kernel
theorem dX5_rests_1 : decode cX5_rests 1 = .ok (.iload_n 1, 1) := by decide +kernel
theorem dX5_rests_2 : decode cX5_rests 2 = .ok (.invokevirtual 105, 3) := by decide +kernel
theorem dX5_rests_5 : decode cX5_rests 5 = .ok (.ifCond .eq 16, 3) := by decide +kernel
theorem dX5_rests_8 : decode cX5_rests 8 = .ok (.aload_n 0, 1) := by decide +kernel
theorem dX5_rests_9 : decode cX5_rests 9 = .ok (.iload_n 2, 1) := by decide +kernel
theorem dX5_rests_10 : decode cX5_rests 10 = .ok (.invokevirtual 105, 3) := by decide +kernel
theorem dX5_rests_13 : decode cX5_rests 13 = .ok (.ifCond .eq 8, 3) := by decide +kernel
theorem dX5_rests_16 : decode cX5_rests 16 = .ok (.iload_n 1, 1) := by decide +kernel
theorem dX5_rests_17 : decode cX5_rests 17 = .ok (.iload_n 2, 1) := by decide +kernel
theorem dX5_rests_18 : decode cX5_rests 18 = .ok (.if_icmp .ne 5, 3) := by decide +kernel
theorem dX5_rests_21 : decode cX5_rests 21 = .ok (.iconst (-1), 1) := by decide +kernel
theorem dX5_rests_22 : decode cX5_rests 22 = .ok (.ireturn, 1) := by decide +kernel
theorem dX5_rests_23 : decode cX5_rests 23 = .ok (.iconst 1, 1) := by decide +kernel
theorem dX5_rests_24 : decode cX5_rests 24 = .ok (.iload_n 1, 1) := by decide +kernel
theorem dX5_rests_25 : decode cX5_rests 25 = .ok (.ishl, 1) := by decide +kernel
theorem dX5_rests_26 : decode cX5_rests 26 = .ok (.iconst 1, 1) := by decide +kernel
theorem dX5_rests_27 : decode cX5_rests 27 = .ok (.iload_n 2, 1) := by decide +kernel
theorem dX5_rests_28 : decode cX5_rests 28 = .ok (.ishl, 1) := by decide +kernel
theorem dX5_rests_29 : decode cX5_rests 29 = .ok (.ior, 1) := by decide +kernel
theorem dX5_rests_30 : decode cX5_rests 30 = .ok (.iconst (-1), 1) := by decide +kernel
theorem dX5_rests_31 : decode cX5_rests 31 = .ok (.ixor, 1) := by decide +kernel
theorem dX5_rests_32 : decode cX5_rests 32 = .ok (.istore 4, 2) := by decide +kernel
theorem dX5_rests_34 : decode cX5_rests 34 = .ok (.iconst 0, 1) := by decide +kernel
theorem dX5_rests_35 : decode cX5_rests 35 = .ok (.istore 5, 2) := by decide +kernel
theorem dX5_rests_37 : decode cX5_rests 37 = .ok (.iload 5, 2) := by decide +kernel
theorem dX5_rests_39 : decode cX5_rests 39 = .ok (.aload_n 0, 1) := by decide +kernel
theorem dX5_rests_40 : decode cX5_rests 40 = .ok (.getfield 27, 3) := by decide +kernel
theorem dX5_rests_43 : decode cX5_rests 43 = .ok (.getfield 234, 3) := by decide +kernel
theorem dX5_rests_46 : decode cX5_rests 46 = .ok (.if_icmp .ge 40, 3) := by decide +kernel
theorem dX5_rests_49 : decode cX5_rests 49 = .ok (.aload_n 0, 1) := by decide +kernel
theorem dX5_rests_50 : decode cX5_rests 50 = .ok (.getfield 63, 3) := by decide +kernel
theorem dX5_rests_53 : decode cX5_rests 53 = .ok (.iload 5, 2) := by decide +kernel
theorem dX5_rests_55 : decode cX5_rests 55 = .ok (.aload_n 0, 1) := by decide +kernel
theorem dX5_rests_56 : decode cX5_rests 56 = .ok (.getfield 39, 3) := by decide +kernel
theorem dX5_rests_59 : decode cX5_rests 59 = .ok (.iload 5, 2) := by decide +kernel
theorem dX5_rests_61 : decode cX5_rests 61 = .ok (.aload_n 0, 1) := by decide +kernel
theorem dX5_rests_62 : decode cX5_rests 62 = .ok (.getfield 39, 3) := by decide +kernel
theorem dX5_rests_65 : decode cX5_rests 65 = .ok (.getfield 147, 3) := by decide +kernel
theorem dX5_rests_68 : decode cX5_rests 68 = .ok (.invokevirtual 200, 3) := by decide +kernel
theorem dX5_rests_71 : decode cX5_rests 71 = .ok (.iload 4, 2) := by decide +kernel
theorem dX5_rests_73 : decode cX5_rests 73 = .ok (.iand, 1) := by decide +kernel
theorem dX5_rests_74 : decode cX5_rests 74 = .ok (.invokestatic 237, 3) := by decide +kernel
theorem dX5_rests_77 : decode cX5_rests 77 = .ok (.invokestatic 76, 3) := by decide +kernel
theorem dX5_rests_80 : decode cX5_rests 80 = .ok (.iinc 5 1, 3) := by decide +kernel
theorem dX5_rests_83 : decode cX5_rests 83 = .ok (.goto (-46), 3) := by decide +kernel
theorem dX5_rests_86 : decode cX5_rests 86 = .ok (.iconst 0, 1) := by decide +kernel
theorem dX5_rests_87 : decode cX5_rests 87 = .ok (.istore 5, 2) := by decide +kernel
theorem dX5_rests_89 : decode cX5_rests 89 = .ok (.iconst 0, 1) := by decide +kernel
theorem dX5_rests_90 : decode cX5_rests 90 = .ok (.istore 6, 2) := by decide +kernel
theorem dX5_rests_92 : decode cX5_rests 92 = .ok (.iload 6, 2) := by decide +kernel
theorem dX5_rests_94 : decode cX5_rests 94 = .ok (.aload_n 0, 1) := by decide +kernel
theorem dX5_rests_95 : decode cX5_rests 95 = .ok (.getfield 27, 3) := by decide +kernel
theorem dX5_rests_98 : decode cX5_rests 98 = .ok (.getfield 234, 3) := by decide +kernel
theorem dX5_rests_101 : decode cX5_rests 101 = .ok (.if_icmp .ge 59, 3) := by decide +kernel
theorem dX5_rests_104 : decode cX5_rests 104 = .ok (.iconst 0, 1) := by decide +kernel
theorem dX5_rests_105 : decode cX5_rests 105 = .ok (.istore 7, 2) := by decide +kernel
theorem dX5_rests_107 : decode cX5_rests 107 = .ok (.iload 7, 2) := by decide +kernel
theorem dX5_rests_109 : decode cX5_rests 109 = .ok (.aload_n 0, 1) := by decide +kernel
theorem dX5_rests_110 : decode cX5_rests 110 = .ok (.getfield 27, 3) := by decide +kernel
theorem dX5_rests_113 : decode cX5_rests 113 = .ok (.getfield 234, 3) := by decide +kernel
theorem dX5_rests_116 : decode cX5_rests 116 = .ok (.if_icmp .ge 38, 3) := by decide +kernel
theorem dX5_rests_119 : decode cX5_rests 119 = .ok (.aload_n 0, 1) := by decide +kernel
theorem dX5_rests_120 : decode cX5_rests 120 = .ok (.iload 6, 2) := by decide +kernel
theorem dX5_rests_122 : decode cX5_rests 122 = .ok (.iload 7, 2) := by decide +kernel
theorem dX5_rests_124 : decode cX5_rests 124 = .ok (.invokevirtual 293, 3) := by decide +kernel
theorem dX5_rests_127 : decode cX5_rests 127 = .ok (.ifCond .eq 21, 3) := by decide +kernel
theorem dX5_rests_130 : decode cX5_rests 130 = .ok (.iload 5, 2) := by decide +kernel
theorem dX5_rests_132 : decode cX5_rests 132 = .ok (.iload_n 3, 1) := by decide +kernel
theorem dX5_rests_133 : decode cX5_rests 133 = .ok (.if_icmp .ne 12, 3) := by decide +kernel
theorem dX5_rests_136 : decode cX5_rests 136 = .ok (.bipush 10, 2) := by decide +kernel
theorem dX5_rests_138 : decode cX5_rests 138 = .ok (.iload 6, 2) := by decide +kernel
theorem dX5_rests_140 : decode cX5_rests 140 = .ok (.imul, 1) := by decide +kernel
theorem dX5_rests_141 : decode cX5_rests 141 = .ok (.iload 7, 2) := by decide +kernel
theorem dX5_rests_143 : decode cX5_rests 143 = .ok (.iadd, 1) := by decide +kernel
theorem dX5_rests_144 : decode cX5_rests 144 = .ok (.ireturn, 1) := by decide +kernel
theorem dX5_rests_145 : decode cX5_rests 145 = .ok (.iinc 5 1, 3) := by decide +kernel
theorem dX5_rests_148 : decode cX5_rests 148 = .ok (.iinc 7 1, 3) := by decide +kernel
theorem dX5_rests_151 : decode cX5_rests 151 = .ok (.goto (-44), 3) := by decide +kernel
theorem dX5_rests_154 : decode cX5_rests 154 = .ok (.iinc 6 1, 3) := by decide +kernel
theorem dX5_rests_157 : decode cX5_rests 157 = .ok (.goto (-65), 3) := by decide +kernel
theorem dX5_rests_160 : decode cX5_rests 160 = .ok (.iload_n 3, 1) := by decide +kernel
theorem dX5_rests_161 : decode cX5_rests 161 = .ok (.iconst (-1), 1) := by decide +kernel
theorem dX5_rests_162 : decode cX5_rests 162 = .ok (.if_icmp .ne 8, 3) := by decide +kernel
theorem dX5_rests_165 : decode cX5_rests 165 = .ok (.iload 5, 2) := by decide +kernel
theorem dX5_rests_167 : decode cX5_rests 167 = .ok (.goto 4, 3) := by decide +kernel
theorem dX5_rests_170 : decode cX5_rests 170 = .ok (.iconst (-1), 1) := by decide +kernel
theorem dX5_rests_171 : decode cX5_rests 171 = .ok (.ireturn, 1) := by decide +kernel
abbrev rm_X5_rests : Room := { frames := 5, cells := 0, slots := 0, locals := 113 }
def f_X5_rests_L37 (x3 : Int32) (x4 : Int32) (z37 : Int32 × St) : Option ((Int32 × St) ⊕ (St)) :=
  chk (isT (st_P z37.2 (ky 0 4))) (if (st_I z37.2 (ky (st_P z37.2 (ky 0 4)) 0)) ≤ z37.1 then (some (.inr z37.2)) else ((f_X0_menShownIn 10 z37.2 z37.1 (st_I z37.2 (ky 10 1))).bind (fun (q9 : Int32) => (f_J6_bitCount_0f7a4   (q9 &&& x4)).bind (fun (q10 : Int32) => (f_X5_put (ky 0 14) z37.2 z37.1 q10).bind (fun (q11 : St) => some (.inl ((z37.1 + 1), q11)))))))
def f_X5_rests_L107 (S : St) (x3 : Int32) (x6 : Int32) (z107 : Int32 × Int32) : Option ((Int32 × Int32) ⊕ ((Int32) ⊕ (Int32 × St))) :=
  chk (isT (st_P S (ky 0 4))) (if (st_I S (ky (st_P S (ky 0 4)) 0)) ≤ z107.2 then (some (.inr (.inl z107.1))) else ((f_X5_isRest  S x6 z107.2).bind (fun (q17 : Int32) => if q17 = 0 then (some (.inl (z107.1, (z107.2 + 1)))) else (if z107.1 = x3 then (some (.inr (.inr ((((10 : Int32) * x6) + z107.2), S)))) else (some (.inl ((z107.1 + 1), (z107.2 + 1))))))))
def f_X5_rests_L92 (S : St) (x3 : Int32) (z92 : Int32 × Int32) : Option ((Int32 × Int32) ⊕ ((Int32) ⊕ (Int32 × St))) :=
  chk (isT (st_P S (ky 0 4))) (if (st_I S (ky (st_P S (ky 0 4)) 0)) ≤ z92.2 then (some (.inr (.inl z92.1))) else ((iter (f_X5_rests_L107  S x3 z92.2) FU (z92.1, (0 : Int32))).bind fun z => match z with | .inl z => (fun (e20 : Int32) => some (.inl (e20, (z92.2 + 1)))) z | .inr v22 => some (.inr (.inr v22))))
def f_X5_rests (S : St) (x1 : Int32) (x2 : Int32) (x3 : Int32) : Option (Int32 × St) :=
  (f_X5_isMan  S x1).bind (fun (q1 : Int32) => if q1 = 0 then (some ((-1 : Int32), S)) else ((f_X5_isMan  S x2).bind (fun (q3 : Int32) => if q3 = 0 then (some ((-1 : Int32), S)) else (if x1 = x2 then (some ((-1 : Int32), S)) else (lt_v ((((1 : Int32) <<< (x1 &&& 31)) ||| ((1 : Int32) <<< (x2 &&& 31))) ^^^ (-1 : Int32)) (fun (u6 : Int32) => (iter (f_X5_rests_L37   x3 u6) FU ((0 : Int32), S)).bind (fun (S12 : St) => (iter (f_X5_rests_L92  S12 x3) FU ((0 : Int32), (0 : Int32))).bind fun z => match z with | .inl z => (fun (e23 : Int32) => if x3 = (-1 : Int32) then (some (e23, S12)) else (some ((-1 : Int32), S12))) z | .inr v26 => some v26)))))))
set_option maxRecDepth 100000 in
set_option maxHeartbeats 4000000 in
theorem k_X5_rests (l : Launch) (g : GG) (hg : gd wd_C g)  (hL : hAll g) (S : St) (x1 : Int32) (x2 : Int32) (x3 : Int32) (q : Int32 × St) (hf : f_X5_rests  S x1 x2 x3 = some q) : Met l yX5_rests (Cond.code yX5_rests cX5_rests 8 (some .int) :: gw_tbl) rm_X5_rests (va_Pc [.ref (gg_o g 0), .int x1, .int x2, .int x3] (wI wd_C g S)) (qc_w wd_C g q) 0 0 (aw g) := by
  refine mt_start (own := RX5) hg (by decide) rfl (Nat.le_of_ble_eq_true rfl) (fun p e s m args below meth c ls H locs cx hw hr hlk hl => ?_)
  have hx := cx.1
  have hb := cx.2.1
  have hown := cx.2.2.2.1
  have hts := cx.2.2.2.2.1
  have hl : lv_has ls 8 [(0, .ref (gg_o g 0)), (1, .int x1), (2, .int x2), (3, .int x3)] := hl
  replace hf := h_top hf
  unfold f_X5_rests at hf
  refine lv_aload_n hx hb dX5_rests_0 rfl (lv_at hl 0 rfl) ?_
  refine lv_iload_n hx hb dX5_rests_1 rfl (lv_at hl 1 rfl) ?_
  refine r_V_i (As := [.int x1]) (rest := []) cx hw hf hL.1.2.1 (by rw [hL.1.1]; rfl) lk_X5_105 (fun q1 hq => k_X5_isMan l g hg  hL S x1 q1 hq) ⟨⟨rfl, rfl⟩, Nat.le_of_ble_eq_true rfl, Nat.le_of_ble_eq_true rfl⟩ rfl hl.1 rfl (Nat.le_of_ble_eq_true rfl) dX5_rests_2 ⟨Nat.zero_le _, Nat.zero_le _⟩ (fun q1 H locs hw hf => ?_)
  refine lv_if_eq hx hb dX5_rests_5 (tgt := 21) rfl (fun hc2 => ?_) (fun hc2 => ?_)
  · replace hf := h_pos hc2 hf
    refine lv_iconst (v := -1) hx hb dX5_rests_21 (by decide) ?_
    exact r_iretw cx hw hr hlk hf dX5_rests_22
  replace hf := h_neg hc2 hf
  refine lv_aload_n hx hb dX5_rests_8 rfl (lv_at hl 0 rfl) ?_
  refine lv_iload_n hx hb dX5_rests_9 rfl (lv_at hl 2 rfl) ?_
  refine r_V_i (As := [.int x2]) (rest := []) cx hw hf hL.1.2.1 (by rw [hL.1.1]; rfl) lk_X5_105 (fun q3 hq => k_X5_isMan l g hg  hL S x2 q3 hq) ⟨⟨rfl, rfl⟩, Nat.le_of_ble_eq_true rfl, Nat.le_of_ble_eq_true rfl⟩ rfl hl.1 rfl (Nat.le_of_ble_eq_true rfl) dX5_rests_10 ⟨Nat.zero_le _, Nat.zero_le _⟩ (fun q3 H locs hw hf => ?_)
  refine lv_if_eq hx hb dX5_rests_13 (tgt := 21) rfl (fun hc4 => ?_) (fun hc4 => ?_)
  · replace hf := h_pos hc4 hf
    refine lv_iconst (v := -1) hx hb dX5_rests_21 (by decide) ?_
    exact r_iretw cx hw hr hlk hf dX5_rests_22
  replace hf := h_neg hc4 hf
  refine lv_iload_n hx hb dX5_rests_16 rfl (lv_at hl 1 rfl) ?_
  refine lv_iload_n hx hb dX5_rests_17 rfl (lv_at hl 2 rfl) ?_
  refine lv_icmp_ne hx hb dX5_rests_18 (tgt := 23) rfl (fun hc5 => ?_) (fun hc5 => ?_)
  · replace hf := h_neg hc5 hf
    refine lv_iconst (v := 1) hx hb dX5_rests_23 (by decide) ?_
    refine lv_iload_n hx hb dX5_rests_24 rfl (lv_at hl 1 rfl) ?_
    refine lv_ishl hx hb dX5_rests_25 ?_
    refine lv_iconst (v := 1) hx hb dX5_rests_26 (by decide) ?_
    refine lv_iload_n hx hb dX5_rests_27 rfl (lv_at hl 2 rfl) ?_
    refine lv_ishl hx hb dX5_rests_28 ?_
    refine lv_ior hx hb dX5_rests_29 ?_
    refine lv_iconst (v := -1) hx hb dX5_rests_30 (by decide) ?_
    refine lv_ixor hx hb dX5_rests_31 ?_
    refine r_leti hf (fun u6 hf => ?_)
    refine lv_istore hx hb dX5_rests_32 hl (by decide) (lv' := [(4, .int u6), (0, .ref (gg_o g 0)), (1, .int x1), (2, .int x2), (3, .int x3)]) rfl (fun ls hl => ?_)
    refine lv_iconst (v := 0) hx hb dX5_rests_34 (by decide) ?_
    refine lv_istore hx hb dX5_rests_35 hl (by decide) (lv' := [(5, .int (0 : Int32)), (4, .int u6), (0, .ref (gg_o g 0)), (1, .int x1), (2, .int x2), (3, .int x3)]) rfl (fun ls hl => ?_)
    have L37 : ∀ (x3 : Int32) (x4 : Int32) (aft37 : St → Option (Int32 × St)), (∀ (ls : Array Slot) (H : Heap) (locs : List Loc) (S1 : St), lv_has ls 8 [(0, .ref (gg_o g 0)), (3, .int x3)] → HH wd_C g s S1 H locs → aft37 S1 = some q → W p l e rm_X5_rests s m args below meth c H locs 0 0 (MQ below (qc_w wd_C g q) args s 0 0 (aw g)) (F0 m 86 ls [])) → ∀ (n37 : Nat) (ls : Array Slot) (H : Heap) (locs : List Loc) (z37 : Int32 × St), lv_has ls 8 [(0, .ref (gg_o g 0)), (3, .int x3), (4, .int x4), (5, .int z37.1)] → HH wd_C g s z37.2 H locs → (iter (f_X5_rests_L37   x3 x4) n37 z37).bind aft37 = some q → W p l e rm_X5_rests s m args below meth c H locs 0 0 (MQ below (qc_w wd_C g q) args s 0 0 (aw g)) (F0 m 37 ls []) := by
      intro x3 x4 aft37 hX37 n37
      induction n37 with
      | zero => intro ls H locs z37 hl hw hf; exact h_iter0 hf
      | succ n37 ih37 =>
        intro ls H locs z37 hl hw hf
        replace hf := h_iter hf
        unfold f_X5_rests_L37 at hf
        refine lv_iload hx hb dX5_rests_37 (lv_at hl 3 rfl) ?_
        refine lv_aload_n hx hb dX5_rests_39 rfl (lv_at hl 0 rfl) ?_
        obtain ⟨hc7, hf⟩ := h_chk hf
        refine gf_X5_27 cx hw hL.1 dX5_rests_40 ?_
        refine gf_X5_234 cx hw ((allT_at hL.2.2.2.2 hc7).1) dX5_rests_43 ?_
        refine lv_icmp_ge hx hb dX5_rests_46 (tgt := 86) rfl (fun hc8 => ?_) (fun hc8 => ?_)
        · replace hf := h_pos hc8 hf
          exact hX37 _ _ _ z37.2 (lv_sub hl [0, 1] rfl) hw hf
        replace hf := h_neg hc8 hf
        refine lv_aload_n hx hb dX5_rests_49 rfl (lv_at hl 0 rfl) ?_
        refine gf_X5_63 cx hw hL.1 dX5_rests_50 ?_
        refine lv_iload hx hb dX5_rests_53 (lv_at hl 3 rfl) ?_
        refine lv_aload_n hx hb dX5_rests_55 rfl (lv_at hl 0 rfl) ?_
        refine gf_X5_39 cx hw hL.1 dX5_rests_56 ?_
        refine lv_iload hx hb dX5_rests_59 (lv_at hl 3 rfl) ?_
        refine lv_aload_n hx hb dX5_rests_61 rfl (lv_at hl 0 rfl) ?_
        refine gf_X5_39 cx hw hL.1 dX5_rests_62 ?_
        refine gf_X5_147 cx hw (hL.2.2.2.1 0 (by decide)) dX5_rests_65 ?_
        refine r_VN_i (As := [.int z37.1, .int (st_I z37.2 (ky 10 1))]) (rest := [.int z37.1, .ref (gg_a g (ky 0 14))]) cx hw hf (nw_at cx) (hL.2.2.2.1 0 (by decide)).2.1 (by rw [(hL.2.2.2.1 0 (by decide)).1]; rfl) lk_X5_200 (fun q9 hq => k_X0_menShownIn l g hg 10 (hL.2.2.2.1 0 (by decide)) hL.2.2.2.2 z37.2 z37.1 (st_I z37.2 (ky 10 1)) q9 hq) ⟨⟨rfl, rfl⟩, Nat.le_of_ble_eq_true rfl, Nat.le_of_ble_eq_true rfl⟩ rfl hl.1 rfl (Nat.le_of_ble_eq_true rfl) dX5_rests_68 ⟨Nat.zero_le _, Nat.zero_le _⟩ (fun q9 H locs hw hf => ?_)
        refine lv_iload hx hb dX5_rests_71 (lv_at hl 2 rfl) ?_
        refine lv_iand hx hb dX5_rests_73 ?_
        refine r_S_i (As := [.int (q9 &&& x4)]) (rest := [.int z37.1, .ref (gg_a g (ky 0 14))]) cx hw hf lk_X5_237 (fun q10 hq => k_J6_bitCount_0f7a4 l wd_C g hg   z37.2 (q9 &&& x4) q10 hq) ⟨⟨rfl, rfl⟩, Nat.le_of_ble_eq_true rfl, Nat.le_of_ble_eq_true rfl⟩ rfl hl.1 rfl (Nat.le_of_ble_eq_true rfl) dX5_rests_74 ⟨Nat.zero_le _, Nat.zero_le _⟩ (fun q10 H locs hw hf => ?_)
        refine r_S_v (As := [.ref (gg_a g (ky 0 14)), .int z37.1, .int q10]) (rest := []) cx hw hf lk_X5_76 (fun q11 hq => k_X5_put l g hg (ky 0 14) (hL.1.2.2.1 14 rfl) z37.2 z37.1 q10 q11 hq) ⟨⟨rfl, rfl⟩, Nat.le_of_ble_eq_true rfl, Nat.le_of_ble_eq_true rfl⟩ rfl hl.1 rfl (Nat.le_of_ble_eq_true rfl) dX5_rests_77 ⟨Nat.zero_le _, Nat.zero_le _⟩ (fun q11 H locs hw hf => ?_)
        refine lv_iinc hx hb dX5_rests_80 hl (k := 3) rfl (congrArg (HAdd.hAdd _) (show Int32.ofInt (1) = 1 by decide)) (by decide) (lv' := [(5, .int (z37.1 + 1)), (0, .ref (gg_o g 0)), (3, .int x3), (4, .int x4)]) rfl (fun ls hl => ?_)
        refine lv_goto hx hb dX5_rests_83 (tgt := 37) rfl ?_
        exact ih37 _ _ _ ((z37.1 + 1), q11) (lv_sub hl [1, 2, 3, 0] rfl) hw hf
    refine L37 x3 u6 _ (fun ls H locs S12 hl hw hf => ?_) FU _ _ _ ((0 : Int32), S) (lv_sub hl [2, 5, 1, 0] rfl) hw (h_assoc hf)
    try dsimp only at hf
    refine lv_iconst (v := 0) hx hb dX5_rests_86 (by decide) ?_
    refine lv_istore hx hb dX5_rests_87 hl (by decide) (lv' := [(5, .int (0 : Int32)), (0, .ref (gg_o g 0)), (3, .int x3)]) rfl (fun ls hl => ?_)
    refine lv_iconst (v := 0) hx hb dX5_rests_89 (by decide) ?_
    refine lv_istore hx hb dX5_rests_90 hl (by decide) (lv' := [(6, .int (0 : Int32)), (5, .int (0 : Int32)), (0, .ref (gg_o g 0)), (3, .int x3)]) rfl (fun ls hl => ?_)
    have L92 : ∀ (S : St) (x3 : Int32) (aft92 : ((Int32) ⊕ (Int32 × St)) → Option (Int32 × St)), (∀ (ls : Array Slot) (H : Heap) (locs : List Loc) (e5 : Int32), lv_has ls 8 [(3, .int x3), (5, .int e5)] → HH wd_C g s S H locs → aft92 (.inl e5) = some q → W p l e rm_X5_rests s m args below meth c H locs 0 0 (MQ below (qc_w wd_C g q) args s 0 0 (aw g)) (F0 m 160 ls [])) → (∀ v : Int32 × St, aft92 (.inr v) = some q → (some v : Option (Int32 × St)).bind some = some q) → ∀ (n92 : Nat) (ls : Array Slot) (H : Heap) (locs : List Loc) (z92 : Int32 × Int32), lv_has ls 8 [(0, .ref (gg_o g 0)), (3, .int x3), (5, .int z92.1), (6, .int z92.2)] → HH wd_C g s S H locs → (iter (f_X5_rests_L92  S x3) n92 z92).bind aft92 = some q → W p l e rm_X5_rests s m args below meth c H locs 0 0 (MQ below (qc_w wd_C g q) args s 0 0 (aw g)) (F0 m 92 ls []) := by
      intro S x3 aft92 hX92 hR92 n92
      induction n92 with
      | zero => intro ls H locs z92 hl hw hf; exact h_iter0 hf
      | succ n92 ih92 =>
        intro ls H locs z92 hl hw hf
        replace hf := h_iter hf
        unfold f_X5_rests_L92 at hf
        refine lv_iload hx hb dX5_rests_92 (lv_at hl 3 rfl) ?_
        refine lv_aload_n hx hb dX5_rests_94 rfl (lv_at hl 0 rfl) ?_
        obtain ⟨hc13, hf⟩ := h_chk hf
        refine gf_X5_27 cx hw hL.1 dX5_rests_95 ?_
        refine gf_X5_234 cx hw ((allT_at hL.2.2.2.2 hc13).1) dX5_rests_98 ?_
        refine lv_icmp_ge hx hb dX5_rests_101 (tgt := 160) rfl (fun hc14 => ?_) (fun hc14 => ?_)
        · replace hf := h_pos hc14 hf
          exact hX92 _ _ _ z92.1 (lv_sub hl [1, 2] rfl) hw hf
        replace hf := h_neg hc14 hf
        refine lv_iconst (v := 0) hx hb dX5_rests_104 (by decide) ?_
        refine lv_istore hx hb dX5_rests_105 hl (by decide) (lv' := [(7, .int (0 : Int32)), (0, .ref (gg_o g 0)), (3, .int x3), (5, .int z92.1), (6, .int z92.2)]) rfl (fun ls hl => ?_)
        have L107 : ∀ (S : St) (x3 : Int32) (x6 : Int32) (aft107 : ((Int32) ⊕ (Int32 × St)) → Option (Int32 × St)), (∀ (ls : Array Slot) (H : Heap) (locs : List Loc) (e5 : Int32), lv_has ls 8 [(0, .ref (gg_o g 0)), (3, .int x3), (5, .int e5), (6, .int x6)] → HH wd_C g s S H locs → aft107 (.inl e5) = some q → W p l e rm_X5_rests s m args below meth c H locs 0 0 (MQ below (qc_w wd_C g q) args s 0 0 (aw g)) (F0 m 154 ls [])) → (∀ v : Int32 × St, aft107 (.inr v) = some q → (some v : Option (Int32 × St)).bind some = some q) → ∀ (n107 : Nat) (ls : Array Slot) (H : Heap) (locs : List Loc) (z107 : Int32 × Int32), lv_has ls 8 [(0, .ref (gg_o g 0)), (3, .int x3), (5, .int z107.1), (6, .int x6), (7, .int z107.2)] → HH wd_C g s S H locs → (iter (f_X5_rests_L107  S x3 x6) n107 z107).bind aft107 = some q → W p l e rm_X5_rests s m args below meth c H locs 0 0 (MQ below (qc_w wd_C g q) args s 0 0 (aw g)) (F0 m 107 ls []) := by
          intro S x3 x6 aft107 hX107 hR107 n107
          induction n107 with
          | zero => intro ls H locs z107 hl hw hf; exact h_iter0 hf
          | succ n107 ih107 =>
            intro ls H locs z107 hl hw hf
            replace hf := h_iter hf
            unfold f_X5_rests_L107 at hf
            refine lv_iload hx hb dX5_rests_107 (lv_at hl 4 rfl) ?_
            refine lv_aload_n hx hb dX5_rests_109 rfl (lv_at hl 0 rfl) ?_
            obtain ⟨hc15, hf⟩ := h_chk hf
            refine gf_X5_27 cx hw hL.1 dX5_rests_110 ?_
            refine gf_X5_234 cx hw ((allT_at hL.2.2.2.2 hc15).1) dX5_rests_113 ?_
            refine lv_icmp_ge hx hb dX5_rests_116 (tgt := 154) rfl (fun hc16 => ?_) (fun hc16 => ?_)
            · replace hf := h_pos hc16 hf
              exact hX107 _ _ _ z107.1 (lv_sub hl [0, 1, 2, 3] rfl) hw hf
            replace hf := h_neg hc16 hf
            refine lv_aload_n hx hb dX5_rests_119 rfl (lv_at hl 0 rfl) ?_
            refine lv_iload hx hb dX5_rests_120 (lv_at hl 3 rfl) ?_
            refine lv_iload hx hb dX5_rests_122 (lv_at hl 4 rfl) ?_
            refine r_V_i (As := [.int x6, .int z107.2]) (rest := []) cx hw hf hL.1.2.1 (by rw [hL.1.1]; rfl) lk_X5_293 (fun q17 hq => k_X5_isRest l g hg  hL S x6 z107.2 q17 hq) ⟨⟨rfl, rfl⟩, Nat.le_of_ble_eq_true rfl, Nat.le_of_ble_eq_true rfl⟩ rfl hl.1 rfl (Nat.le_of_ble_eq_true rfl) dX5_rests_124 ⟨Nat.zero_le _, Nat.zero_le _⟩ (fun q17 H locs hw hf => ?_)
            refine lv_if_eq hx hb dX5_rests_127 (tgt := 148) rfl (fun hc18 => ?_) (fun hc18 => ?_)
            · replace hf := h_pos hc18 hf
              refine lv_iinc hx hb dX5_rests_148 hl (k := 4) rfl (congrArg (HAdd.hAdd _) (show Int32.ofInt (1) = 1 by decide)) (by decide) (lv' := [(7, .int (z107.2 + 1)), (0, .ref (gg_o g 0)), (3, .int x3), (5, .int z107.1), (6, .int x6)]) rfl (fun ls hl => ?_)
              refine lv_goto hx hb dX5_rests_151 (tgt := 107) rfl ?_
              exact ih107 _ _ _ (z107.1, (z107.2 + 1)) (lv_sub hl [1, 2, 3, 4, 0] rfl) hw hf
            replace hf := h_neg hc18 hf
            refine lv_iload hx hb dX5_rests_130 (lv_at hl 2 rfl) ?_
            refine lv_iload_n hx hb dX5_rests_132 rfl (lv_at hl 1 rfl) ?_
            refine lv_icmp_ne hx hb dX5_rests_133 (tgt := 145) rfl (fun hc19 => ?_) (fun hc19 => ?_)
            · replace hf := h_neg hc19 hf
              refine lv_iinc hx hb dX5_rests_145 hl (k := 2) rfl (congrArg (HAdd.hAdd _) (show Int32.ofInt (1) = 1 by decide)) (by decide) (lv' := [(5, .int (z107.1 + 1)), (0, .ref (gg_o g 0)), (3, .int x3), (6, .int x6), (7, .int z107.2)]) rfl (fun ls hl => ?_)
              refine lv_iinc hx hb dX5_rests_148 hl (k := 4) rfl (congrArg (HAdd.hAdd _) (show Int32.ofInt (1) = 1 by decide)) (by decide) (lv' := [(7, .int (z107.2 + 1)), (5, .int (z107.1 + 1)), (0, .ref (gg_o g 0)), (3, .int x3), (6, .int x6)]) rfl (fun ls hl => ?_)
              refine lv_goto hx hb dX5_rests_151 (tgt := 107) rfl ?_
              exact ih107 _ _ _ ((z107.1 + 1), (z107.2 + 1)) (lv_sub hl [2, 3, 1, 4, 0] rfl) hw hf
            replace hf := h_pos hc19 hf
            refine lv_bipush (v := 10) hx hb dX5_rests_136 (by decide) ?_
            refine lv_iload hx hb dX5_rests_138 (lv_at hl 3 rfl) ?_
            refine lv_imul hx hb dX5_rests_140 ?_
            refine lv_iload hx hb dX5_rests_141 (lv_at hl 4 rfl) ?_
            refine lv_iadd hx hb dX5_rests_143 ?_
            replace hf := hR107 ((((10 : Int32) * x6) + z107.2), S) hf
            exact r_iretw cx hw hr hlk hf dX5_rests_144
        refine L107 S x3 z92.2 _ (fun ls H locs e20 hl hw hf => ?_) ?_ FU _ _ _ (z92.1, (0 : Int32)) (lv_sub hl [1, 2, 3, 4, 0] rfl) hw (h_assoc hf)
        · skip
          try dsimp only at hf
          refine lv_iinc hx hb dX5_rests_154 hl (k := 3) rfl (congrArg (HAdd.hAdd _) (show Int32.ofInt (1) = 1 by decide)) (by decide) (lv' := [(6, .int (z92.2 + 1)), (0, .ref (gg_o g 0)), (3, .int x3), (5, .int e20)]) rfl (fun ls hl => ?_)
          refine lv_goto hx hb dX5_rests_157 (tgt := 92) rfl ?_
          exact ih92 _ _ _ (e20, (z92.2 + 1)) (lv_sub hl [1, 2, 3, 0] rfl) hw hf
        exact (fun v h => hR92 v h)
    refine L92 S12 x3 _ (fun ls H locs e23 hl hw hf => ?_) (fun v h => h) FU _ _ _ ((0 : Int32), (0 : Int32)) (lv_sub hl [2, 3, 1, 0] rfl) hw (h_assoc hf)
    try dsimp only at hf
    refine lv_iload_n hx hb dX5_rests_160 rfl (lv_at hl 0 rfl) ?_
    refine lv_iconst (v := -1) hx hb dX5_rests_161 (by decide) ?_
    refine lv_icmp_ne hx hb dX5_rests_162 (tgt := 170) rfl (fun hc24 => ?_) (fun hc24 => ?_)
    · replace hf := h_neg hc24 hf
      refine lv_iconst (v := -1) hx hb dX5_rests_170 (by decide) ?_
      exact r_iretw cx hw hr hlk hf dX5_rests_171
    replace hf := h_pos hc24 hf
    refine lv_iload hx hb dX5_rests_165 (lv_at hl 1 rfl) ?_
    refine lv_goto hx hb dX5_rests_167 (tgt := 171) rfl ?_
    exact r_iretw cx hw hr hlk hf dX5_rests_171
  replace hf := h_pos hc5 hf
  refine lv_iconst (v := -1) hx hb dX5_rests_21 (by decide) ?_
  exact r_iretw cx hw hr hlk hf dX5_rests_22
theorem dX5_tell_0 : decode cX5_tell 0 = .ok (.aload_n 0, 1) := by decide +kernel
theorem dX5_tell_1 : decode cX5_tell 1 = .ok (.getfield 102, 3) := by decide +kernel
theorem dX5_tell_4 : decode cX5_tell 4 = .ok (.bipush 20, 2) := by decide +kernel
theorem dX5_tell_6 : decode cX5_tell 6 = .ok (.if_icmp .lt 7, 3) := by decide +kernel
theorem dX5_tell_9 : decode cX5_tell 9 = .ok (.iconst 1, 1) := by decide +kernel
theorem dX5_tell_10 : decode cX5_tell 10 = .ok (.goto 4, 3) := by decide +kernel
theorem dX5_tell_13 : decode cX5_tell 13 = .ok (.iconst 0, 1) := by decide +kernel
theorem dX5_tell_14 : decode cX5_tell 14 = .ok (.istore 5, 2) := by decide +kernel
theorem dX5_tell_16 : decode cX5_tell 16 = .ok (.iload 5, 2) := by decide +kernel
theorem dX5_tell_18 : decode cX5_tell 18 = .ok (.ifCond .ne 28, 3) := by decide +kernel
theorem dX5_tell_21 : decode cX5_tell 21 = .ok (.aload_n 0, 1) := by decide +kernel
theorem dX5_tell_22 : decode cX5_tell 22 = .ok (.iload_n 1, 1) := by decide +kernel
theorem dX5_tell_23 : decode cX5_tell 23 = .ok (.invokevirtual 123, 3) := by decide +kernel
theorem dX5_tell_26 : decode cX5_tell 26 = .ok (.ifCond .eq 20, 3) := by decide +kernel
theorem dX5_tell_29 : decode cX5_tell 29 = .ok (.iload_n 2, 1) := by decide +kernel
theorem dX5_tell_30 : decode cX5_tell 30 = .ok (.bipush 100, 2) := by decide +kernel
theorem dX5_tell_32 : decode cX5_tell 32 = .ok (.invokestatic 112, 3) := by decide +kernel
theorem dX5_tell_35 : decode cX5_tell 35 = .ok (.ifCond .eq 11, 3) := by decide +kernel
theorem dX5_tell_38 : decode cX5_tell 38 = .ok (.aload_n 0, 1) := by decide +kernel
theorem dX5_tell_39 : decode cX5_tell 39 = .ok (.iload_n 3, 1) := by decide +kernel
theorem dX5_tell_40 : decode cX5_tell 40 = .ok (.invokevirtual 105, 3) := by decide +kernel
theorem dX5_tell_43 : decode cX5_tell 43 = .ok (.ifCond .ne 5, 3) := by decide +kernel
theorem dX5_tell_46 : decode cX5_tell 46 = .ok (.iconst (-1), 1) := by decide +kernel
theorem dX5_tell_47 : decode cX5_tell 47 = .ok (.ireturn, 1) := by decide +kernel
theorem dX5_tell_48 : decode cX5_tell 48 = .ok (.aload_n 0, 1) := by decide +kernel
theorem dX5_tell_49 : decode cX5_tell 49 = .ok (.getfield 102, 3) := by decide +kernel
theorem dX5_tell_52 : decode cX5_tell 52 = .ok (.iconst 4, 1) := by decide +kernel
theorem dX5_tell_53 : decode cX5_tell 53 = .ok (.imul, 1) := by decide +kernel
theorem dX5_tell_54 : decode cX5_tell 54 = .ok (.istore 6, 2) := by decide +kernel
theorem dX5_tell_56 : decode cX5_tell 56 = .ok (.aload_n 0, 1) := by decide +kernel
theorem dX5_tell_57 : decode cX5_tell 57 = .ok (.getfield 57, 3) := by decide +kernel
theorem dX5_tell_60 : decode cX5_tell 60 = .ok (.iload 6, 2) := by decide +kernel
theorem dX5_tell_62 : decode cX5_tell 62 = .ok (.iload_n 1, 1) := by decide +kernel
theorem dX5_tell_63 : decode cX5_tell 63 = .ok (.invokestatic 76, 3) := by decide +kernel
theorem dX5_tell_66 : decode cX5_tell 66 = .ok (.aload_n 0, 1) := by decide +kernel
theorem dX5_tell_67 : decode cX5_tell 67 = .ok (.getfield 57, 3) := by decide +kernel
theorem dX5_tell_70 : decode cX5_tell 70 = .ok (.iload 6, 2) := by decide +kernel
theorem dX5_tell_72 : decode cX5_tell 72 = .ok (.iconst 1, 1) := by decide +kernel
theorem dX5_tell_73 : decode cX5_tell 73 = .ok (.iadd, 1) := by decide +kernel
theorem dX5_tell_74 : decode cX5_tell 74 = .ok (.iload_n 2, 1) := by decide +kernel
theorem dX5_tell_75 : decode cX5_tell 75 = .ok (.invokestatic 76, 3) := by decide +kernel
theorem dX5_tell_78 : decode cX5_tell 78 = .ok (.aload_n 0, 1) := by decide +kernel
theorem dX5_tell_79 : decode cX5_tell 79 = .ok (.getfield 57, 3) := by decide +kernel
theorem dX5_tell_82 : decode cX5_tell 82 = .ok (.iload 6, 2) := by decide +kernel
theorem dX5_tell_84 : decode cX5_tell 84 = .ok (.iconst 2, 1) := by decide +kernel
theorem dX5_tell_85 : decode cX5_tell 85 = .ok (.iadd, 1) := by decide +kernel
theorem dX5_tell_86 : decode cX5_tell 86 = .ok (.iload_n 3, 1) := by decide +kernel
theorem dX5_tell_87 : decode cX5_tell 87 = .ok (.invokestatic 76, 3) := by decide +kernel
theorem dX5_tell_90 : decode cX5_tell 90 = .ok (.aload_n 0, 1) := by decide +kernel
theorem dX5_tell_91 : decode cX5_tell 91 = .ok (.getfield 57, 3) := by decide +kernel
theorem dX5_tell_94 : decode cX5_tell 94 = .ok (.iload 6, 2) := by decide +kernel
theorem dX5_tell_96 : decode cX5_tell 96 = .ok (.iconst 3, 1) := by decide +kernel
theorem dX5_tell_97 : decode cX5_tell 97 = .ok (.iadd, 1) := by decide +kernel
theorem dX5_tell_98 : decode cX5_tell 98 = .ok (.iload 4, 2) := by decide +kernel
theorem dX5_tell_100 : decode cX5_tell 100 = .ok (.ifCond .eq 7, 3) := by decide +kernel
theorem dX5_tell_103 : decode cX5_tell 103 = .ok (.iconst 1, 1) := by decide +kernel
theorem dX5_tell_104 : decode cX5_tell 104 = .ok (.goto 4, 3) := by decide +kernel
theorem dX5_tell_107 : decode cX5_tell 107 = .ok (.iconst 0, 1) := by decide +kernel
theorem dX5_tell_108 : decode cX5_tell 108 = .ok (.invokestatic 76, 3) := by decide +kernel
theorem dX5_tell_111 : decode cX5_tell 111 = .ok (.aload_n 0, 1) := by decide +kernel
theorem dX5_tell_112 : decode cX5_tell 112 = .ok (.dup, 1) := by decide +kernel
theorem dX5_tell_113 : decode cX5_tell 113 = .ok (.getfield 102, 3) := by decide +kernel
theorem dX5_tell_116 : decode cX5_tell 116 = .ok (.iconst 1, 1) := by decide +kernel
theorem dX5_tell_117 : decode cX5_tell 117 = .ok (.iadd, 1) := by decide +kernel
theorem dX5_tell_118 : decode cX5_tell 118 = .ok (.putfield 102, 3) := by decide +kernel
theorem dX5_tell_121 : decode cX5_tell 121 = .ok (.aload_n 0, 1) := by decide +kernel
theorem dX5_tell_122 : decode cX5_tell 122 = .ok (.getfield 102, 3) := by decide +kernel
theorem dX5_tell_125 : decode cX5_tell 125 = .ok (.iconst 1, 1) := by decide +kernel
theorem dX5_tell_126 : decode cX5_tell 126 = .ok (.isub, 1) := by decide +kernel
theorem dX5_tell_127 : decode cX5_tell 127 = .ok (.ireturn, 1) := by decide +kernel
abbrev rm_X5_tell : Room := { frames := 2, cells := 0, slots := 0, locals := 42 }
def f_X5_tell_J108 (S : St) (y0 : Int32) (y1 : Int32) : Option (Int32 × St) :=
  (f_X5_put (ky 0 11) S y1 y0).bind (fun (q13 : St) => lt_v (up_I q13 (ky 0 12) ((st_I q13 (ky 0 12)) + (1 : Int32))) (fun (S14 : St) => some (((st_I S14 (ky 0 12)) - (1 : Int32)), S14)))
def f_X5_tell_J14 (S : St) (x1 : Int32) (x2 : Int32) (x3 : Int32) (x4 : Int32) (y0 : Int32) : Option (Int32 × St) :=
  if y0 = 0 then ((f_X5_isMirror  S x1).bind (fun (q3 : Int32) => if q3 = 0 then (some ((-1 : Int32), S)) else ((f_X5_within   x2 (100 : Int32)).bind (fun (q5 : Int32) => if q5 = 0 then (some ((-1 : Int32), S)) else ((f_X5_isMan  S x3).bind (fun (q7 : Int32) => if q7 = 0 then (some ((-1 : Int32), S)) else ((f_X5_put (ky 0 11) S ((st_I S (ky 0 12)) * (4 : Int32)) x1).bind (fun (q9 : St) => (f_X5_put (ky 0 11) q9 (((st_I S (ky 0 12)) * (4 : Int32)) + (1 : Int32)) x2).bind (fun (q10 : St) => (f_X5_put (ky 0 11) q10 (((st_I S (ky 0 12)) * (4 : Int32)) + (2 : Int32)) x3).bind (fun (q11 : St) => if x4 = 0 then (f_X5_tell_J108  q11 (0 : Int32) (((st_I S (ky 0 12)) * (4 : Int32)) + (3 : Int32))) else (f_X5_tell_J108  q11 (1 : Int32) (((st_I S (ky 0 12)) * (4 : Int32)) + (3 : Int32))))))))))))) else (some ((-1 : Int32), S))
def f_X5_tell (S : St) (x1 : Int32) (x2 : Int32) (x3 : Int32) (x4 : Int32) : Option (Int32 × St) :=
  if (st_I S (ky 0 12)) < (20 : Int32) then (f_X5_tell_J14  S x1 x2 x3 x4 (0 : Int32)) else (f_X5_tell_J14  S x1 x2 x3 x4 (1 : Int32))
set_option maxRecDepth 100000 in
set_option maxHeartbeats 4000000 in
theorem k_X5_tell (l : Launch) (g : GG) (hg : gd wd_C g)  (hL : hAll g) (S : St) (x1 : Int32) (x2 : Int32) (x3 : Int32) (x4 : Int32) (q : Int32 × St) (hf : f_X5_tell  S x1 x2 x3 x4 = some q) : Met l yX5_tell (Cond.code yX5_tell cX5_tell 7 (some .int) :: gw_tbl) rm_X5_tell (va_Pc [.ref (gg_o g 0), .int x1, .int x2, .int x3, .int x4] (wI wd_C g S)) (qc_w wd_C g q) 0 0 (aw g) := by
  refine mt_start (own := RX5) hg (by decide) rfl (Nat.le_of_ble_eq_true rfl) (fun p e s m args below meth c ls H locs cx hw hr hlk hl => ?_)
  have hx := cx.1
  have hb := cx.2.1
  have hown := cx.2.2.2.1
  have hts := cx.2.2.2.2.1
  have hl : lv_has ls 7 [(0, .ref (gg_o g 0)), (1, .int x1), (2, .int x2), (3, .int x3), (4, .int x4)] := hl
  replace hf := h_top hf
  unfold f_X5_tell at hf
  have J108 : ∀ (ls : Array Slot) (H : Heap) (locs : List Loc) (S : St) (y0 : Int32) (y1 : Int32), lv_has ls 7 [(0, .ref (gg_o g 0))] → HH wd_C g s S H locs → (f_X5_tell_J108  S y0 y1).bind some = some q → W p l e rm_X5_tell s m args below meth c H locs 0 0 (MQ below (qc_w wd_C g q) args s 0 0 (aw g)) (F0 m 108 ls [.int y0, .int y1, .ref (gg_a g (ky 0 11))]) := by
    intro ls H locs S y0 y1 hl hw hf
    unfold f_X5_tell_J108 at hf
    refine r_S_v (As := [.ref (gg_a g (ky 0 11)), .int y1, .int y0]) (rest := []) cx hw hf lk_X5_76 (fun q13 hq => k_X5_put l g hg (ky 0 11) (hL.1.2.2.1 11 rfl) S y1 y0 q13 hq) ⟨⟨rfl, rfl⟩, Nat.le_of_ble_eq_true rfl, Nat.le_of_ble_eq_true rfl⟩ rfl hl.1 rfl (Nat.le_of_ble_eq_true rfl) dX5_tell_108 ⟨Nat.zero_le _, Nat.zero_le _⟩ (fun q13 H locs hw hf => ?_)
    refine lv_aload_n hx hb dX5_tell_111 rfl (lv_at hl 0 rfl) ?_
    refine lv_dup hx hb dX5_tell_112 rfl ?_
    refine gf_X5_102 cx hw hL.1 dX5_tell_113 ?_
    refine lv_iconst (v := 1) hx hb dX5_tell_116 (by decide) ?_
    refine lv_iadd hx hb dX5_tell_117 ?_
    refine pf_X5_102 cx hw hL.1 hf dX5_tell_118 (fun S14 H locs hw hf => ?_)
    refine lv_aload_n hx hb dX5_tell_121 rfl (lv_at hl 0 rfl) ?_
    refine gf_X5_102 cx hw hL.1 dX5_tell_122 ?_
    refine lv_iconst (v := 1) hx hb dX5_tell_125 (by decide) ?_
    refine lv_isub hx hb dX5_tell_126 ?_
    exact r_iretw cx hw hr hlk hf dX5_tell_127
  have J14 : ∀ (ls : Array Slot) (H : Heap) (locs : List Loc) (S : St) (x1 : Int32) (x2 : Int32) (x3 : Int32) (x4 : Int32) (y0 : Int32), lv_has ls 7 [(0, .ref (gg_o g 0)), (1, .int x1), (2, .int x2), (3, .int x3), (4, .int x4)] → HH wd_C g s S H locs → (f_X5_tell_J14  S x1 x2 x3 x4 y0).bind some = some q → W p l e rm_X5_tell s m args below meth c H locs 0 0 (MQ below (qc_w wd_C g q) args s 0 0 (aw g)) (F0 m 14 ls [.int y0]) := by
    intro ls H locs S x1 x2 x3 x4 y0 hl hw hf
    unfold f_X5_tell_J14 at hf
    refine lv_istore hx hb dX5_tell_14 hl (by decide) (lv' := [(5, .int y0), (0, .ref (gg_o g 0)), (1, .int x1), (2, .int x2), (3, .int x3), (4, .int x4)]) rfl (fun ls hl => ?_)
    refine lv_iload hx hb dX5_tell_16 (lv_at hl 0 rfl) ?_
    refine lv_if_ne hx hb dX5_tell_18 (tgt := 46) rfl (fun hc2 => ?_) (fun hc2 => ?_)
    · replace hf := h_neg hc2 hf
      refine lv_iconst (v := -1) hx hb dX5_tell_46 (by decide) ?_
      exact r_iretw cx hw hr hlk hf dX5_tell_47
    replace hf := h_pos hc2 hf
    refine lv_aload_n hx hb dX5_tell_21 rfl (lv_at hl 1 rfl) ?_
    refine lv_iload_n hx hb dX5_tell_22 rfl (lv_at hl 2 rfl) ?_
    refine r_V_i (As := [.int x1]) (rest := []) cx hw hf hL.1.2.1 (by rw [hL.1.1]; rfl) lk_X5_123 (fun q3 hq => k_X5_isMirror l g hg  hL S x1 q3 hq) ⟨⟨rfl, rfl⟩, Nat.le_of_ble_eq_true rfl, Nat.le_of_ble_eq_true rfl⟩ rfl hl.1 rfl (Nat.le_of_ble_eq_true rfl) dX5_tell_23 ⟨Nat.zero_le _, Nat.zero_le _⟩ (fun q3 H locs hw hf => ?_)
    refine lv_if_eq hx hb dX5_tell_26 (tgt := 46) rfl (fun hc4 => ?_) (fun hc4 => ?_)
    · replace hf := h_pos hc4 hf
      refine lv_iconst (v := -1) hx hb dX5_tell_46 (by decide) ?_
      exact r_iretw cx hw hr hlk hf dX5_tell_47
    replace hf := h_neg hc4 hf
    refine lv_iload_n hx hb dX5_tell_29 rfl (lv_at hl 3 rfl) ?_
    refine lv_bipush (v := 100) hx hb dX5_tell_30 (by decide) ?_
    refine r_S_i (As := [.int x2, .int (100 : Int32)]) (rest := []) cx hw hf lk_X5_112 (fun q5 hq => k_X5_within l g hg   S x2 (100 : Int32) q5 hq) ⟨⟨rfl, rfl⟩, Nat.le_of_ble_eq_true rfl, Nat.le_of_ble_eq_true rfl⟩ rfl hl.1 rfl (Nat.le_of_ble_eq_true rfl) dX5_tell_32 ⟨Nat.zero_le _, Nat.zero_le _⟩ (fun q5 H locs hw hf => ?_)
    refine lv_if_eq hx hb dX5_tell_35 (tgt := 46) rfl (fun hc6 => ?_) (fun hc6 => ?_)
    · replace hf := h_pos hc6 hf
      refine lv_iconst (v := -1) hx hb dX5_tell_46 (by decide) ?_
      exact r_iretw cx hw hr hlk hf dX5_tell_47
    replace hf := h_neg hc6 hf
    refine lv_aload_n hx hb dX5_tell_38 rfl (lv_at hl 1 rfl) ?_
    refine lv_iload_n hx hb dX5_tell_39 rfl (lv_at hl 4 rfl) ?_
    refine r_V_i (As := [.int x3]) (rest := []) cx hw hf hL.1.2.1 (by rw [hL.1.1]; rfl) lk_X5_105 (fun q7 hq => k_X5_isMan l g hg  hL S x3 q7 hq) ⟨⟨rfl, rfl⟩, Nat.le_of_ble_eq_true rfl, Nat.le_of_ble_eq_true rfl⟩ rfl hl.1 rfl (Nat.le_of_ble_eq_true rfl) dX5_tell_40 ⟨Nat.zero_le _, Nat.zero_le _⟩ (fun q7 H locs hw hf => ?_)
    refine lv_if_ne hx hb dX5_tell_43 (tgt := 48) rfl (fun hc8 => ?_) (fun hc8 => ?_)
    · replace hf := h_neg hc8 hf
      refine lv_aload_n hx hb dX5_tell_48 rfl (lv_at hl 1 rfl) ?_
      refine gf_X5_102 cx hw hL.1 dX5_tell_49 ?_
      refine lv_iconst (v := 4) hx hb dX5_tell_52 (by decide) ?_
      refine lv_imul hx hb dX5_tell_53 ?_
      refine lv_istore hx hb dX5_tell_54 hl (by decide) (lv' := [(6, .int ((st_I S (ky 0 12)) * (4 : Int32))), (5, .int y0), (0, .ref (gg_o g 0)), (1, .int x1), (2, .int x2), (3, .int x3), (4, .int x4)]) rfl (fun ls hl => ?_)
      refine lv_aload_n hx hb dX5_tell_56 rfl (lv_at hl 2 rfl) ?_
      refine gf_X5_57 cx hw hL.1 dX5_tell_57 ?_
      refine lv_iload hx hb dX5_tell_60 (lv_at hl 0 rfl) ?_
      refine lv_iload_n hx hb dX5_tell_62 rfl (lv_at hl 3 rfl) ?_
      refine r_S_v (As := [.ref (gg_a g (ky 0 11)), .int ((st_I S (ky 0 12)) * (4 : Int32)), .int x1]) (rest := []) cx hw hf lk_X5_76 (fun q9 hq => k_X5_put l g hg (ky 0 11) (hL.1.2.2.1 11 rfl) S ((st_I S (ky 0 12)) * (4 : Int32)) x1 q9 hq) ⟨⟨rfl, rfl⟩, Nat.le_of_ble_eq_true rfl, Nat.le_of_ble_eq_true rfl⟩ rfl hl.1 rfl (Nat.le_of_ble_eq_true rfl) dX5_tell_63 ⟨Nat.zero_le _, Nat.zero_le _⟩ (fun q9 H locs hw hf => ?_)
      refine lv_aload_n hx hb dX5_tell_66 rfl (lv_at hl 2 rfl) ?_
      refine gf_X5_57 cx hw hL.1 dX5_tell_67 ?_
      refine lv_iload hx hb dX5_tell_70 (lv_at hl 0 rfl) ?_
      refine lv_iconst (v := 1) hx hb dX5_tell_72 (by decide) ?_
      refine lv_iadd hx hb dX5_tell_73 ?_
      refine lv_iload_n hx hb dX5_tell_74 rfl (lv_at hl 4 rfl) ?_
      refine r_S_v (As := [.ref (gg_a g (ky 0 11)), .int (((st_I S (ky 0 12)) * (4 : Int32)) + (1 : Int32)), .int x2]) (rest := []) cx hw hf lk_X5_76 (fun q10 hq => k_X5_put l g hg (ky 0 11) (hL.1.2.2.1 11 rfl) q9 (((st_I S (ky 0 12)) * (4 : Int32)) + (1 : Int32)) x2 q10 hq) ⟨⟨rfl, rfl⟩, Nat.le_of_ble_eq_true rfl, Nat.le_of_ble_eq_true rfl⟩ rfl hl.1 rfl (Nat.le_of_ble_eq_true rfl) dX5_tell_75 ⟨Nat.zero_le _, Nat.zero_le _⟩ (fun q10 H locs hw hf => ?_)
      refine lv_aload_n hx hb dX5_tell_78 rfl (lv_at hl 2 rfl) ?_
      refine gf_X5_57 cx hw hL.1 dX5_tell_79 ?_
      refine lv_iload hx hb dX5_tell_82 (lv_at hl 0 rfl) ?_
      refine lv_iconst (v := 2) hx hb dX5_tell_84 (by decide) ?_
      refine lv_iadd hx hb dX5_tell_85 ?_
      refine lv_iload_n hx hb dX5_tell_86 rfl (lv_at hl 5 rfl) ?_
      refine r_S_v (As := [.ref (gg_a g (ky 0 11)), .int (((st_I S (ky 0 12)) * (4 : Int32)) + (2 : Int32)), .int x3]) (rest := []) cx hw hf lk_X5_76 (fun q11 hq => k_X5_put l g hg (ky 0 11) (hL.1.2.2.1 11 rfl) q10 (((st_I S (ky 0 12)) * (4 : Int32)) + (2 : Int32)) x3 q11 hq) ⟨⟨rfl, rfl⟩, Nat.le_of_ble_eq_true rfl, Nat.le_of_ble_eq_true rfl⟩ rfl hl.1 rfl (Nat.le_of_ble_eq_true rfl) dX5_tell_87 ⟨Nat.zero_le _, Nat.zero_le _⟩ (fun q11 H locs hw hf => ?_)
      refine lv_aload_n hx hb dX5_tell_90 rfl (lv_at hl 2 rfl) ?_
      refine gf_X5_57 cx hw hL.1 dX5_tell_91 ?_
      refine lv_iload hx hb dX5_tell_94 (lv_at hl 0 rfl) ?_
      refine lv_iconst (v := 3) hx hb dX5_tell_96 (by decide) ?_
      refine lv_iadd hx hb dX5_tell_97 ?_
      refine lv_iload hx hb dX5_tell_98 (lv_at hl 6 rfl) ?_
      refine lv_if_eq hx hb dX5_tell_100 (tgt := 107) rfl (fun hc12 => ?_) (fun hc12 => ?_)
      · replace hf := h_pos hc12 hf
        refine lv_iconst (v := 0) hx hb dX5_tell_107 (by decide) ?_
        exact J108 _ _ _ q11 (0 : Int32) (((st_I S (ky 0 12)) * (4 : Int32)) + (3 : Int32)) (lv_sub hl [2] rfl) hw hf
      replace hf := h_neg hc12 hf
      refine lv_iconst (v := 1) hx hb dX5_tell_103 (by decide) ?_
      refine lv_goto hx hb dX5_tell_104 (tgt := 108) rfl ?_
      exact J108 _ _ _ q11 (1 : Int32) (((st_I S (ky 0 12)) * (4 : Int32)) + (3 : Int32)) (lv_sub hl [2] rfl) hw hf
    replace hf := h_pos hc8 hf
    refine lv_iconst (v := -1) hx hb dX5_tell_46 (by decide) ?_
    exact r_iretw cx hw hr hlk hf dX5_tell_47
  refine lv_aload_n hx hb dX5_tell_0 rfl (lv_at hl 0 rfl) ?_
  refine gf_X5_102 cx hw hL.1 dX5_tell_1 ?_
  refine lv_bipush (v := 20) hx hb dX5_tell_4 (by decide) ?_
  refine lv_icmp_lt hx hb dX5_tell_6 (tgt := 13) rfl (fun hc1 => ?_) (fun hc1 => ?_)
  · replace hf := h_pos hc1 hf
    refine lv_iconst (v := 0) hx hb dX5_tell_13 (by decide) ?_
    exact J14 _ _ _ S x1 x2 x3 x4 (0 : Int32) (lv_sub hl [0, 1, 2, 3, 4] rfl) hw hf
  replace hf := h_neg hc1 hf
  refine lv_iconst (v := 1) hx hb dX5_tell_9 (by decide) ?_
  refine lv_goto hx hb dX5_tell_10 (tgt := 14) rfl ?_
  exact J14 _ _ _ S x1 x2 x3 x4 (1 : Int32) (lv_sub hl [0, 1, 2, 3, 4] rfl) hw hf
theorem dX5_forget_0 : decode cX5_forget 0 = .ok (.aload_n 0, 1) := by decide +kernel
theorem dX5_forget_1 : decode cX5_forget 1 = .ok (.getfield 102, 3) := by decide +kernel
theorem dX5_forget_4 : decode cX5_forget 4 = .ok (.istore_n 1, 1) := by decide +kernel
theorem dX5_forget_5 : decode cX5_forget 5 = .ok (.aload_n 0, 1) := by decide +kernel
theorem dX5_forget_6 : decode cX5_forget 6 = .ok (.iconst 0, 1) := by decide +kernel
theorem dX5_forget_7 : decode cX5_forget 7 = .ok (.putfield 102, 3) := by decide +kernel
theorem dX5_forget_10 : decode cX5_forget 10 = .ok (.iload_n 1, 1) := by decide +kernel
theorem dX5_forget_11 : decode cX5_forget 11 = .ok (.ireturn, 1) := by decide +kernel
abbrev rm_X5_forget : Room := { frames := 0, cells := 0, slots := 0, locals := 0 }
def f_X5_forget (S : St)  : Option (Int32 × St) :=
  lt_v (up_I S (ky 0 12) (0 : Int32)) (fun (S1 : St) => some ((st_I S (ky 0 12)), S1))
set_option maxRecDepth 100000 in
set_option maxHeartbeats 4000000 in
theorem k_X5_forget (l : Launch) (g : GG) (hg : gd wd_C g)  (hL : hAll g) (S : St)  (q : Int32 × St) (hf : f_X5_forget  S  = some q) : Met l yX5_forget (Cond.code yX5_forget cX5_forget 2 (some .int) :: gw_tbl) rm_X5_forget (va_Pc [.ref (gg_o g 0)] (wI wd_C g S)) (qc_w wd_C g q) 0 0 (aw g) := by
  refine mt_start (own := RX5) hg (by decide) rfl (Nat.le_of_ble_eq_true rfl) (fun p e s m args below meth c ls H locs cx hw hr hlk hl => ?_)
  have hx := cx.1
  have hb := cx.2.1
  have hown := cx.2.2.2.1
  have hts := cx.2.2.2.2.1
  have hl : lv_has ls 2 [(0, .ref (gg_o g 0))] := hl
  replace hf := h_top hf
  unfold f_X5_forget at hf
  refine lv_aload_n hx hb dX5_forget_0 rfl (lv_at hl 0 rfl) ?_
  refine gf_X5_102 cx hw hL.1 dX5_forget_1 ?_
  refine lv_istore_n hx hb dX5_forget_4 rfl hl (by decide) (lv' := [(1, .int (st_I S (ky 0 12))), (0, .ref (gg_o g 0))]) rfl (fun ls hl => ?_)
  refine lv_aload_n hx hb dX5_forget_5 rfl (lv_at hl 1 rfl) ?_
  refine lv_iconst (v := 0) hx hb dX5_forget_6 (by decide) ?_
  refine pf_X5_102 cx hw hL.1 hf dX5_forget_7 (fun S1 H locs hw hf => ?_)
  refine lv_iload_n hx hb dX5_forget_10 rfl (lv_at hl 0 rfl) ?_
  exact r_iretw cx hw hr hlk hf dX5_forget_11
theorem dX5_canHaveBegun_0 : decode cX5_canHaveBegun 0 = .ok (.iconst 0, 1) := by decide +kernel
theorem dX5_canHaveBegun_1 : decode cX5_canHaveBegun 1 = .ok (.istore 4, 2) := by decide +kernel
theorem dX5_canHaveBegun_3 : decode cX5_canHaveBegun 3 = .ok (.iconst 0, 1) := by decide +kernel
theorem dX5_canHaveBegun_4 : decode cX5_canHaveBegun 4 = .ok (.istore 5, 2) := by decide +kernel
theorem dX5_canHaveBegun_6 : decode cX5_canHaveBegun 6 = .ok (.iload 5, 2) := by decide +kernel
theorem dX5_canHaveBegun_8 : decode cX5_canHaveBegun 8 = .ok (.iload_n 3, 1) := by decide +kernel
theorem dX5_canHaveBegun_9 : decode cX5_canHaveBegun 9 = .ok (.if_icmp .ge 29, 3) := by decide +kernel
theorem dX5_canHaveBegun_12 : decode cX5_canHaveBegun 12 = .ok (.iload 4, 2) := by decide +kernel
theorem dX5_canHaveBegun_14 : decode cX5_canHaveBegun 14 = .ok (.aload_n 0, 1) := by decide +kernel
theorem dX5_canHaveBegun_15 : decode cX5_canHaveBegun 15 = .ok (.getfield 57, 3) := by decide +kernel
theorem dX5_canHaveBegun_18 : decode cX5_canHaveBegun 18 = .ok (.iload 5, 2) := by decide +kernel
theorem dX5_canHaveBegun_20 : decode cX5_canHaveBegun 20 = .ok (.iconst 4, 1) := by decide +kernel
theorem dX5_canHaveBegun_21 : decode cX5_canHaveBegun 21 = .ok (.imul, 1) := by decide +kernel
theorem dX5_canHaveBegun_22 : decode cX5_canHaveBegun 22 = .ok (.iconst 1, 1) := by decide +kernel
theorem dX5_canHaveBegun_23 : decode cX5_canHaveBegun 23 = .ok (.iadd, 1) := by decide +kernel
theorem dX5_canHaveBegun_24 : decode cX5_canHaveBegun 24 = .ok (.invokestatic 212, 3) := by decide +kernel
theorem dX5_canHaveBegun_27 : decode cX5_canHaveBegun 27 = .ok (.invokestatic 228, 3) := by decide +kernel
theorem dX5_canHaveBegun_30 : decode cX5_canHaveBegun 30 = .ok (.istore 4, 2) := by decide +kernel
theorem dX5_canHaveBegun_32 : decode cX5_canHaveBegun 32 = .ok (.iinc 5 1, 3) := by decide +kernel
theorem dX5_canHaveBegun_35 : decode cX5_canHaveBegun 35 = .ok (.goto (-29), 3) := by decide +kernel
theorem dX5_canHaveBegun_38 : decode cX5_canHaveBegun 38 = .ok (.aload_n 0, 1) := by decide +kernel
theorem dX5_canHaveBegun_39 : decode cX5_canHaveBegun 39 = .ok (.getfield 43, 3) := by decide +kernel
theorem dX5_canHaveBegun_42 : decode cX5_canHaveBegun 42 = .ok (.aload_n 0, 1) := by decide +kernel
theorem dX5_canHaveBegun_43 : decode cX5_canHaveBegun 43 = .ok (.getfield 27, 3) := by decide +kernel
theorem dX5_canHaveBegun_46 : decode cX5_canHaveBegun 46 = .ok (.invokevirtual 93, 3) := by decide +kernel
theorem dX5_canHaveBegun_49 : decode cX5_canHaveBegun 49 = .ok (.aload_n 0, 1) := by decide +kernel
theorem dX5_canHaveBegun_50 : decode cX5_canHaveBegun 50 = .ok (.getfield 43, 3) := by decide +kernel
theorem dX5_canHaveBegun_53 : decode cX5_canHaveBegun 53 = .ok (.iload_n 1, 1) := by decide +kernel
theorem dX5_canHaveBegun_54 : decode cX5_canHaveBegun 54 = .ok (.iload_n 2, 1) := by decide +kernel
theorem dX5_canHaveBegun_55 : decode cX5_canHaveBegun 55 = .ok (.invokevirtual 160, 3) := by decide +kernel
theorem dX5_canHaveBegun_58 : decode cX5_canHaveBegun 58 = .ok (.aload_n 0, 1) := by decide +kernel
theorem dX5_canHaveBegun_59 : decode cX5_canHaveBegun 59 = .ok (.getfield 43, 3) := by decide +kernel
theorem dX5_canHaveBegun_62 : decode cX5_canHaveBegun 62 = .ok (.iload 4, 2) := by decide +kernel
theorem dX5_canHaveBegun_64 : decode cX5_canHaveBegun 64 = .ok (.invokevirtual 154, 3) := by decide +kernel
theorem dX5_canHaveBegun_67 : decode cX5_canHaveBegun 67 = .ok (.iconst 0, 1) := by decide +kernel
theorem dX5_canHaveBegun_68 : decode cX5_canHaveBegun 68 = .ok (.istore 5, 2) := by decide +kernel
theorem dX5_canHaveBegun_70 : decode cX5_canHaveBegun 70 = .ok (.iload 5, 2) := by decide +kernel
theorem dX5_canHaveBegun_72 : decode cX5_canHaveBegun 72 = .ok (.iload_n 3, 1) := by decide +kernel
theorem dX5_canHaveBegun_73 : decode cX5_canHaveBegun 73 = .ok (.if_icmp .ge 85, 3) := by decide +kernel
theorem dX5_canHaveBegun_76 : decode cX5_canHaveBegun 76 = .ok (.iload 5, 2) := by decide +kernel
theorem dX5_canHaveBegun_78 : decode cX5_canHaveBegun 78 = .ok (.iconst 4, 1) := by decide +kernel
theorem dX5_canHaveBegun_79 : decode cX5_canHaveBegun 79 = .ok (.imul, 1) := by decide +kernel
theorem dX5_canHaveBegun_80 : decode cX5_canHaveBegun 80 = .ok (.istore 6, 2) := by decide +kernel
theorem dX5_canHaveBegun_82 : decode cX5_canHaveBegun 82 = .ok (.aload_n 0, 1) := by decide +kernel
theorem dX5_canHaveBegun_83 : decode cX5_canHaveBegun 83 = .ok (.getfield 43, 3) := by decide +kernel
theorem dX5_canHaveBegun_86 : decode cX5_canHaveBegun 86 = .ok (.aload_n 0, 1) := by decide +kernel
theorem dX5_canHaveBegun_87 : decode cX5_canHaveBegun 87 = .ok (.getfield 57, 3) := by decide +kernel
theorem dX5_canHaveBegun_90 : decode cX5_canHaveBegun 90 = .ok (.iload 6, 2) := by decide +kernel
theorem dX5_canHaveBegun_92 : decode cX5_canHaveBegun 92 = .ok (.invokestatic 212, 3) := by decide +kernel
theorem dX5_canHaveBegun_95 : decode cX5_canHaveBegun 95 = .ok (.aload_n 0, 1) := by decide +kernel
theorem dX5_canHaveBegun_96 : decode cX5_canHaveBegun 96 = .ok (.getfield 57, 3) := by decide +kernel
theorem dX5_canHaveBegun_99 : decode cX5_canHaveBegun 99 = .ok (.iload 6, 2) := by decide +kernel
theorem dX5_canHaveBegun_101 : decode cX5_canHaveBegun 101 = .ok (.iconst 1, 1) := by decide +kernel
theorem dX5_canHaveBegun_102 : decode cX5_canHaveBegun 102 = .ok (.iadd, 1) := by decide +kernel
theorem dX5_canHaveBegun_103 : decode cX5_canHaveBegun 103 = .ok (.invokestatic 212, 3) := by decide +kernel
theorem dX5_canHaveBegun_106 : decode cX5_canHaveBegun 106 = .ok (.invokevirtual 144, 3) := by decide +kernel
theorem dX5_canHaveBegun_109 : decode cX5_canHaveBegun 109 = .ok (.aload_n 0, 1) := by decide +kernel
theorem dX5_canHaveBegun_110 : decode cX5_canHaveBegun 110 = .ok (.getfield 57, 3) := by decide +kernel
theorem dX5_canHaveBegun_113 : decode cX5_canHaveBegun 113 = .ok (.iload 6, 2) := by decide +kernel
theorem dX5_canHaveBegun_115 : decode cX5_canHaveBegun 115 = .ok (.iconst 2, 1) := by decide +kernel
theorem dX5_canHaveBegun_116 : decode cX5_canHaveBegun 116 = .ok (.iadd, 1) := by decide +kernel
theorem dX5_canHaveBegun_117 : decode cX5_canHaveBegun 117 = .ok (.invokestatic 212, 3) := by decide +kernel
theorem dX5_canHaveBegun_120 : decode cX5_canHaveBegun 120 = .ok (.invokestatic 203, 3) := by decide +kernel
theorem dX5_canHaveBegun_123 : decode cX5_canHaveBegun 123 = .ok (.istore 7, 2) := by decide +kernel
theorem dX5_canHaveBegun_125 : decode cX5_canHaveBegun 125 = .ok (.iload 7, 2) := by decide +kernel
theorem dX5_canHaveBegun_127 : decode cX5_canHaveBegun 127 = .ok (.aload_n 0, 1) := by decide +kernel
theorem dX5_canHaveBegun_128 : decode cX5_canHaveBegun 128 = .ok (.getfield 57, 3) := by decide +kernel
theorem dX5_canHaveBegun_131 : decode cX5_canHaveBegun 131 = .ok (.iload 6, 2) := by decide +kernel
theorem dX5_canHaveBegun_133 : decode cX5_canHaveBegun 133 = .ok (.iconst 3, 1) := by decide +kernel
theorem dX5_canHaveBegun_134 : decode cX5_canHaveBegun 134 = .ok (.iadd, 1) := by decide +kernel
theorem dX5_canHaveBegun_135 : decode cX5_canHaveBegun 135 = .ok (.invokestatic 212, 3) := by decide +kernel
theorem dX5_canHaveBegun_138 : decode cX5_canHaveBegun 138 = .ok (.iconst 1, 1) := by decide +kernel
theorem dX5_canHaveBegun_139 : decode cX5_canHaveBegun 139 = .ok (.if_icmp .ne 7, 3) := by decide +kernel
theorem dX5_canHaveBegun_142 : decode cX5_canHaveBegun 142 = .ok (.iconst 1, 1) := by decide +kernel
theorem dX5_canHaveBegun_143 : decode cX5_canHaveBegun 143 = .ok (.goto 4, 3) := by decide +kernel
theorem dX5_canHaveBegun_146 : decode cX5_canHaveBegun 146 = .ok (.iconst 0, 1) := by decide +kernel
theorem dX5_canHaveBegun_147 : decode cX5_canHaveBegun 147 = .ok (.if_icmp .eq 5, 3) := by decide +kernel
theorem dX5_canHaveBegun_150 : decode cX5_canHaveBegun 150 = .ok (.iconst 0, 1) := by decide +kernel
theorem dX5_canHaveBegun_151 : decode cX5_canHaveBegun 151 = .ok (.ireturn, 1) := by decide +kernel
theorem dX5_canHaveBegun_152 : decode cX5_canHaveBegun 152 = .ok (.iinc 5 1, 3) := by decide +kernel
theorem dX5_canHaveBegun_155 : decode cX5_canHaveBegun 155 = .ok (.goto (-85), 3) := by decide +kernel
theorem dX5_canHaveBegun_158 : decode cX5_canHaveBegun 158 = .ok (.iconst 1, 1) := by decide +kernel
theorem dX5_canHaveBegun_159 : decode cX5_canHaveBegun 159 = .ok (.ireturn, 1) := by decide +kernel
abbrev rm_X5_canHaveBegun : Room := { frames := 5, cells := 0, slots := 0, locals := 190 }
def f_X5_canHaveBegun_L6 (S : St) (x1 : Int32) (x2 : Int32) (x3 : Int32) (z6 : Int32 × Int32) : Option ((Int32 × Int32) ⊕ (Int32)) :=
  if x3 ≤ z6.2 then (some (.inr z6.1)) else ((f_X5_at (ky 0 11) S ((z6.2 * (4 : Int32)) + (1 : Int32))).bind (fun (q2 : Int32) => some (.inl ((i_max z6.1 q2), (z6.2 + 1)))))
def f_X5_canHaveBegun_J147 (S : St) (x3 : Int32) (x5 : Int32) (y0 : Int32) (y1 : Int32) : Option ((Int32) ⊕ (Int32 × St)) :=
  if y1 = y0 then (some (.inl (x5 + 1))) else (some (.inr ((0 : Int32), S)))
def f_X5_canHaveBegun_L70 (S : St) (x3 : Int32) (z70 : Int32) : Option ((Int32) ⊕ (Int32 × St)) :=
  if x3 ≤ z70 then (some (.inr ((1 : Int32), S))) else ((f_X5_at (ky 0 11) S (z70 * (4 : Int32))).bind (fun (q9 : Int32) => (f_X5_at (ky 0 11) S ((z70 * (4 : Int32)) + (1 : Int32))).bind (fun (q10 : Int32) => (f_X0_menShown 11 S q9 q10).bind (fun (q11 : Int32) => (f_X5_at (ky 0 11) S ((z70 * (4 : Int32)) + (2 : Int32))).bind (fun (q12 : Int32) => (f_X5_has   q11 q12).bind (fun (q13 : Int32) => (f_X5_at (ky 0 11) S ((z70 * (4 : Int32)) + (3 : Int32))).bind (fun (q14 : Int32) => if q14 = (1 : Int32) then (f_X5_canHaveBegun_J147  S x3 z70 (1 : Int32) q13) else (f_X5_canHaveBegun_J147  S x3 z70 (0 : Int32) q13))))))))
def f_X5_canHaveBegun (S : St) (x1 : Int32) (x2 : Int32) (x3 : Int32) : Option (Int32 × St) :=
  (iter (f_X5_canHaveBegun_L6  S x1 x2 x3) FU ((0 : Int32), (0 : Int32))).bind (fun (e3 : Int32) => chk (isT (st_P S (ky 0 4))) ((f_X0_begin 11 (st_P S (ky 0 4)) S ).bind (fun (q5 : St) => (f_X0_putMan 11 q5 x1 x2).bind (fun (q6 : St) => (f_X0_goTo 11 q6 e3).bind (fun (q7 : St) => iter (f_X5_canHaveBegun_L70  q7 x3) FU (0 : Int32))))))
set_option maxRecDepth 100000 in
set_option maxHeartbeats 4000000 in
theorem k_X5_canHaveBegun (l : Launch) (g : GG) (hg : gd wd_C g)  (hL : hAll g) (S : St) (x1 : Int32) (x2 : Int32) (x3 : Int32) (q : Int32 × St) (hf : f_X5_canHaveBegun  S x1 x2 x3 = some q) : Met l yX5_canHaveBegun (Cond.code yX5_canHaveBegun cX5_canHaveBegun 8 (some .boolean) :: gw_tbl) rm_X5_canHaveBegun (va_Pc [.ref (gg_o g 0), .int x1, .int x2, .int x3] (wI wd_C g S)) (qc_w wd_C g q) 0 0 (aw g) := by
  refine mt_start (own := RX5) hg (by decide) rfl (Nat.le_of_ble_eq_true rfl) (fun p e s m args below meth c ls H locs cx hw hr hlk hl => ?_)
  have hx := cx.1
  have hb := cx.2.1
  have hown := cx.2.2.2.1
  have hts := cx.2.2.2.2.1
  have hl : lv_has ls 8 [(0, .ref (gg_o g 0)), (1, .int x1), (2, .int x2), (3, .int x3)] := hl
  replace hf := h_top hf
  unfold f_X5_canHaveBegun at hf
  refine lv_iconst (v := 0) hx hb dX5_canHaveBegun_0 (by decide) ?_
  refine lv_istore hx hb dX5_canHaveBegun_1 hl (by decide) (lv' := [(4, .int (0 : Int32)), (0, .ref (gg_o g 0)), (1, .int x1), (2, .int x2), (3, .int x3)]) rfl (fun ls hl => ?_)
  refine lv_iconst (v := 0) hx hb dX5_canHaveBegun_3 (by decide) ?_
  refine lv_istore hx hb dX5_canHaveBegun_4 hl (by decide) (lv' := [(5, .int (0 : Int32)), (4, .int (0 : Int32)), (0, .ref (gg_o g 0)), (1, .int x1), (2, .int x2), (3, .int x3)]) rfl (fun ls hl => ?_)
  have L6 : ∀ (S : St) (x1 : Int32) (x2 : Int32) (x3 : Int32) (aft6 : Int32 → Option (Int32 × St)), (∀ (ls : Array Slot) (H : Heap) (locs : List Loc) (e4 : Int32), lv_has ls 8 [(0, .ref (gg_o g 0)), (1, .int x1), (2, .int x2), (3, .int x3), (4, .int e4)] → HH wd_C g s S H locs → aft6 e4 = some q → W p l e rm_X5_canHaveBegun s m args below meth c H locs 0 0 (MQ below (qc_w wd_C g q) args s 0 0 (aw g)) (F0 m 38 ls [])) → ∀ (n6 : Nat) (ls : Array Slot) (H : Heap) (locs : List Loc) (z6 : Int32 × Int32), lv_has ls 8 [(0, .ref (gg_o g 0)), (1, .int x1), (2, .int x2), (3, .int x3), (4, .int z6.1), (5, .int z6.2)] → HH wd_C g s S H locs → (iter (f_X5_canHaveBegun_L6  S x1 x2 x3) n6 z6).bind aft6 = some q → W p l e rm_X5_canHaveBegun s m args below meth c H locs 0 0 (MQ below (qc_w wd_C g q) args s 0 0 (aw g)) (F0 m 6 ls []) := by
    intro S x1 x2 x3 aft6 hX6 n6
    induction n6 with
    | zero => intro ls H locs z6 hl hw hf; exact h_iter0 hf
    | succ n6 ih6 =>
      intro ls H locs z6 hl hw hf
      replace hf := h_iter hf
      unfold f_X5_canHaveBegun_L6 at hf
      refine lv_iload hx hb dX5_canHaveBegun_6 (lv_at hl 5 rfl) ?_
      refine lv_iload_n hx hb dX5_canHaveBegun_8 rfl (lv_at hl 3 rfl) ?_
      refine lv_icmp_ge hx hb dX5_canHaveBegun_9 (tgt := 38) rfl (fun hc1 => ?_) (fun hc1 => ?_)
      · replace hf := h_pos hc1 hf
        exact hX6 _ _ _ z6.1 (lv_sub hl [0, 1, 2, 3, 4] rfl) hw hf
      replace hf := h_neg hc1 hf
      refine lv_iload hx hb dX5_canHaveBegun_12 (lv_at hl 4 rfl) ?_
      refine lv_aload_n hx hb dX5_canHaveBegun_14 rfl (lv_at hl 0 rfl) ?_
      refine gf_X5_57 cx hw hL.1 dX5_canHaveBegun_15 ?_
      refine lv_iload hx hb dX5_canHaveBegun_18 (lv_at hl 5 rfl) ?_
      refine lv_iconst (v := 4) hx hb dX5_canHaveBegun_20 (by decide) ?_
      refine lv_imul hx hb dX5_canHaveBegun_21 ?_
      refine lv_iconst (v := 1) hx hb dX5_canHaveBegun_22 (by decide) ?_
      refine lv_iadd hx hb dX5_canHaveBegun_23 ?_
      refine r_S_i (As := [.ref (gg_a g (ky 0 11)), .int ((z6.2 * (4 : Int32)) + (1 : Int32))]) (rest := [.int z6.1]) cx hw hf lk_X5_212 (fun q2 hq => k_X5_at l g hg (ky 0 11) (hL.1.2.2.1 11 rfl) S ((z6.2 * (4 : Int32)) + (1 : Int32)) q2 hq) ⟨⟨rfl, rfl⟩, Nat.le_of_ble_eq_true rfl, Nat.le_of_ble_eq_true rfl⟩ rfl hl.1 rfl (Nat.le_of_ble_eq_true rfl) dX5_canHaveBegun_24 ⟨Nat.zero_le _, Nat.zero_le _⟩ (fun q2 H locs hw hf => ?_)
      refine va_mmax hx hb (cx.2.2.1.trans hl.1.symm) hown (hts _ wd_916) (hts _ wd_85) (hts _ wd_7) (hts _ wd_86) (Nat.le_of_ble_eq_true rfl) (Nat.le_of_ble_eq_true rfl) (Nat.zero_le _) (Nat.zero_le _) dX5_canHaveBegun_27 ?_
      refine lv_istore hx hb dX5_canHaveBegun_30 hl (by decide) (lv' := [(4, .int (i_max z6.1 q2)), (0, .ref (gg_o g 0)), (1, .int x1), (2, .int x2), (3, .int x3), (5, .int z6.2)]) rfl (fun ls hl => ?_)
      refine lv_iinc hx hb dX5_canHaveBegun_32 hl (k := 5) rfl (congrArg (HAdd.hAdd _) (show Int32.ofInt (1) = 1 by decide)) (by decide) (lv' := [(5, .int (z6.2 + 1)), (4, .int (i_max z6.1 q2)), (0, .ref (gg_o g 0)), (1, .int x1), (2, .int x2), (3, .int x3)]) rfl (fun ls hl => ?_)
      refine lv_goto hx hb dX5_canHaveBegun_35 (tgt := 6) rfl ?_
      exact ih6 _ _ _ ((i_max z6.1 q2), (z6.2 + 1)) (lv_sub hl [2, 3, 4, 5, 1, 0] rfl) hw hf
  refine L6 S x1 x2 x3 _ (fun ls H locs e3 hl hw hf => ?_) FU _ _ _ ((0 : Int32), (0 : Int32)) (lv_sub hl [2, 3, 4, 5, 1, 0] rfl) hw (h_assoc hf)
  try dsimp only at hf
  refine lv_aload_n hx hb dX5_canHaveBegun_38 rfl (lv_at hl 0 rfl) ?_
  refine gf_X5_43 cx hw hL.1 dX5_canHaveBegun_39 ?_
  refine lv_aload_n hx hb dX5_canHaveBegun_42 rfl (lv_at hl 0 rfl) ?_
  obtain ⟨hc4, hf⟩ := h_chk hf
  refine gf_X5_27 cx hw hL.1 dX5_canHaveBegun_43 ?_
  refine r_VN_v (As := [.ref (gg_o g (st_P S (ky 0 4)))]) (rest := []) cx hw hf (nw_at cx) (hL.2.2.2.1 1 (by decide)).2.1 (by rw [(hL.2.2.2.1 1 (by decide)).1]; rfl) lk_X5_93 (fun q5 hq => k_X0_begin l g hg 11 (st_P S (ky 0 4)) (hL.2.2.2.1 1 (by decide)) hL.2.2.2.2 (allT_at hL.2.2.2.2 hc4) S  q5 hq) ⟨⟨rfl, rfl⟩, Nat.le_of_ble_eq_true rfl, Nat.le_of_ble_eq_true rfl⟩ rfl hl.1 rfl (Nat.le_of_ble_eq_true rfl) dX5_canHaveBegun_46 ⟨Nat.zero_le _, Nat.zero_le _⟩ (fun q5 H locs hw hf => ?_)
  refine lv_aload_n hx hb dX5_canHaveBegun_49 rfl (lv_at hl 0 rfl) ?_
  refine gf_X5_43 cx hw hL.1 dX5_canHaveBegun_50 ?_
  refine lv_iload_n hx hb dX5_canHaveBegun_53 rfl (lv_at hl 1 rfl) ?_
  refine lv_iload_n hx hb dX5_canHaveBegun_54 rfl (lv_at hl 2 rfl) ?_
  refine r_VN_v (As := [.int x1, .int x2]) (rest := []) cx hw hf (nw_at cx) (hL.2.2.2.1 1 (by decide)).2.1 (by rw [(hL.2.2.2.1 1 (by decide)).1]; rfl) lk_X5_160 (fun q6 hq => k_X0_putMan l g hg 11 (hL.2.2.2.1 1 (by decide)) hL.2.2.2.2 q5 x1 x2 q6 hq) ⟨⟨rfl, rfl⟩, Nat.le_of_ble_eq_true rfl, Nat.le_of_ble_eq_true rfl⟩ rfl hl.1 rfl (Nat.le_of_ble_eq_true rfl) dX5_canHaveBegun_55 ⟨Nat.zero_le _, Nat.zero_le _⟩ (fun q6 H locs hw hf => ?_)
  refine lv_aload_n hx hb dX5_canHaveBegun_58 rfl (lv_at hl 0 rfl) ?_
  refine gf_X5_43 cx hw hL.1 dX5_canHaveBegun_59 ?_
  refine lv_iload hx hb dX5_canHaveBegun_62 (lv_at hl 4 rfl) ?_
  refine r_VN_v (As := [.int e3]) (rest := []) cx hw hf (nw_at cx) (hL.2.2.2.1 1 (by decide)).2.1 (by rw [(hL.2.2.2.1 1 (by decide)).1]; rfl) lk_X5_154 (fun q7 hq => k_X0_goTo l g hg 11 (hL.2.2.2.1 1 (by decide)) hL.2.2.2.2 q6 e3 q7 hq) ⟨⟨rfl, rfl⟩, Nat.le_of_ble_eq_true rfl, Nat.le_of_ble_eq_true rfl⟩ rfl hl.1 rfl (Nat.le_of_ble_eq_true rfl) dX5_canHaveBegun_64 ⟨Nat.zero_le _, Nat.zero_le _⟩ (fun q7 H locs hw hf => ?_)
  refine lv_iconst (v := 0) hx hb dX5_canHaveBegun_67 (by decide) ?_
  refine lv_istore hx hb dX5_canHaveBegun_68 hl (by decide) (lv' := [(5, .int (0 : Int32)), (0, .ref (gg_o g 0)), (1, .int x1), (2, .int x2), (3, .int x3), (4, .int e3)]) rfl (fun ls hl => ?_)
  have L70 : ∀ (S : St) (x3 : Int32) (aft70 : (Int32 × St) → Option (Int32 × St)), (∀ v : Int32 × St, aft70 v = some q → (some v : Option (Int32 × St)).bind some = some q) → ∀ (n70 : Nat) (ls : Array Slot) (H : Heap) (locs : List Loc) (z70 : Int32), lv_has ls 8 [(0, .ref (gg_o g 0)), (3, .int x3), (5, .int z70)] → HH wd_C g s S H locs → (iter (f_X5_canHaveBegun_L70  S x3) n70 z70).bind aft70 = some q → W p l e rm_X5_canHaveBegun s m args below meth c H locs 0 0 (MQ below (qc_w wd_C g q) args s 0 0 (aw g)) (F0 m 70 ls []) := by
    intro S x3 aft70 hR70 n70
    induction n70 with
    | zero => intro ls H locs z70 hl hw hf; exact h_iter0 hf
    | succ n70 ih70 =>
      intro ls H locs z70 hl hw hf
      replace hf := h_iter hf
      unfold f_X5_canHaveBegun_L70 at hf
      have J147 : ∀ (ls : Array Slot) (H : Heap) (locs : List Loc) (x5 : Int32) (y0 : Int32) (y1 : Int32), lv_has ls 8 [(0, .ref (gg_o g 0)), (3, .int x3), (5, .int x5)] → HH wd_C g s S H locs → (f_X5_canHaveBegun_J147  S x3 x5 y0 y1).bind (it_K (f_X5_canHaveBegun_L70  S x3) n70 aft70) = some q → W p l e rm_X5_canHaveBegun s m args below meth c H locs 0 0 (MQ below (qc_w wd_C g q) args s 0 0 (aw g)) (F0 m 147 ls [.int y0, .int y1]) := by
        intro ls H locs x5 y0 y1 hl hw hf
        unfold f_X5_canHaveBegun_J147 at hf
        refine lv_icmp_eq hx hb dX5_canHaveBegun_147 (tgt := 152) rfl (fun hc16 => ?_) (fun hc16 => ?_)
        · replace hf := h_pos hc16 hf
          refine lv_iinc hx hb dX5_canHaveBegun_152 hl (k := 2) rfl (congrArg (HAdd.hAdd _) (show Int32.ofInt (1) = 1 by decide)) (by decide) (lv' := [(5, .int (x5 + 1)), (0, .ref (gg_o g 0)), (3, .int x3)]) rfl (fun ls hl => ?_)
          refine lv_goto hx hb dX5_canHaveBegun_155 (tgt := 70) rfl ?_
          exact ih70 _ _ _ (x5 + 1) (lv_sub hl [1, 2, 0] rfl) hw hf
        replace hf := h_neg hc16 hf
        refine lv_iconst (v := 0) hx hb dX5_canHaveBegun_150 (by decide) ?_
        replace hf := hR70 ((0 : Int32), S) hf
        exact r_zretw cx hw hr hlk (Or.inl rfl) hf dX5_canHaveBegun_151
      refine lv_iload hx hb dX5_canHaveBegun_70 (lv_at hl 2 rfl) ?_
      refine lv_iload_n hx hb dX5_canHaveBegun_72 rfl (lv_at hl 1 rfl) ?_
      refine lv_icmp_ge hx hb dX5_canHaveBegun_73 (tgt := 158) rfl (fun hc8 => ?_) (fun hc8 => ?_)
      · replace hf := h_pos hc8 hf
        refine lv_iconst (v := 1) hx hb dX5_canHaveBegun_158 (by decide) ?_
        replace hf := hR70 ((1 : Int32), S) hf
        exact r_zretw cx hw hr hlk (Or.inr rfl) hf dX5_canHaveBegun_159
      replace hf := h_neg hc8 hf
      refine lv_iload hx hb dX5_canHaveBegun_76 (lv_at hl 2 rfl) ?_
      refine lv_iconst (v := 4) hx hb dX5_canHaveBegun_78 (by decide) ?_
      refine lv_imul hx hb dX5_canHaveBegun_79 ?_
      refine lv_istore hx hb dX5_canHaveBegun_80 hl (by decide) (lv' := [(6, .int (z70 * (4 : Int32))), (0, .ref (gg_o g 0)), (3, .int x3), (5, .int z70)]) rfl (fun ls hl => ?_)
      refine lv_aload_n hx hb dX5_canHaveBegun_82 rfl (lv_at hl 1 rfl) ?_
      refine gf_X5_43 cx hw hL.1 dX5_canHaveBegun_83 ?_
      refine lv_aload_n hx hb dX5_canHaveBegun_86 rfl (lv_at hl 1 rfl) ?_
      refine gf_X5_57 cx hw hL.1 dX5_canHaveBegun_87 ?_
      refine lv_iload hx hb dX5_canHaveBegun_90 (lv_at hl 0 rfl) ?_
      refine r_S_i (As := [.ref (gg_a g (ky 0 11)), .int (z70 * (4 : Int32))]) (rest := [.ref (gg_o g 11)]) cx hw hf lk_X5_212 (fun q9 hq => k_X5_at l g hg (ky 0 11) (hL.1.2.2.1 11 rfl) S (z70 * (4 : Int32)) q9 hq) ⟨⟨rfl, rfl⟩, Nat.le_of_ble_eq_true rfl, Nat.le_of_ble_eq_true rfl⟩ rfl hl.1 rfl (Nat.le_of_ble_eq_true rfl) dX5_canHaveBegun_92 ⟨Nat.zero_le _, Nat.zero_le _⟩ (fun q9 H locs hw hf => ?_)
      refine lv_aload_n hx hb dX5_canHaveBegun_95 rfl (lv_at hl 1 rfl) ?_
      refine gf_X5_57 cx hw hL.1 dX5_canHaveBegun_96 ?_
      refine lv_iload hx hb dX5_canHaveBegun_99 (lv_at hl 0 rfl) ?_
      refine lv_iconst (v := 1) hx hb dX5_canHaveBegun_101 (by decide) ?_
      refine lv_iadd hx hb dX5_canHaveBegun_102 ?_
      refine r_S_i (As := [.ref (gg_a g (ky 0 11)), .int ((z70 * (4 : Int32)) + (1 : Int32))]) (rest := [.int q9, .ref (gg_o g 11)]) cx hw hf lk_X5_212 (fun q10 hq => k_X5_at l g hg (ky 0 11) (hL.1.2.2.1 11 rfl) S ((z70 * (4 : Int32)) + (1 : Int32)) q10 hq) ⟨⟨rfl, rfl⟩, Nat.le_of_ble_eq_true rfl, Nat.le_of_ble_eq_true rfl⟩ rfl hl.1 rfl (Nat.le_of_ble_eq_true rfl) dX5_canHaveBegun_103 ⟨Nat.zero_le _, Nat.zero_le _⟩ (fun q10 H locs hw hf => ?_)
      refine r_VN_i (As := [.int q9, .int q10]) (rest := []) cx hw hf (nw_at cx) (hL.2.2.2.1 1 (by decide)).2.1 (by rw [(hL.2.2.2.1 1 (by decide)).1]; rfl) lk_X5_144 (fun q11 hq => k_X0_menShown l g hg 11 (hL.2.2.2.1 1 (by decide)) hL.2.2.2.2 S q9 q10 q11 hq) ⟨⟨rfl, rfl⟩, Nat.le_of_ble_eq_true rfl, Nat.le_of_ble_eq_true rfl⟩ rfl hl.1 rfl (Nat.le_of_ble_eq_true rfl) dX5_canHaveBegun_106 ⟨Nat.zero_le _, Nat.zero_le _⟩ (fun q11 H locs hw hf => ?_)
      refine lv_aload_n hx hb dX5_canHaveBegun_109 rfl (lv_at hl 1 rfl) ?_
      refine gf_X5_57 cx hw hL.1 dX5_canHaveBegun_110 ?_
      refine lv_iload hx hb dX5_canHaveBegun_113 (lv_at hl 0 rfl) ?_
      refine lv_iconst (v := 2) hx hb dX5_canHaveBegun_115 (by decide) ?_
      refine lv_iadd hx hb dX5_canHaveBegun_116 ?_
      refine r_S_i (As := [.ref (gg_a g (ky 0 11)), .int ((z70 * (4 : Int32)) + (2 : Int32))]) (rest := [.int q11]) cx hw hf lk_X5_212 (fun q12 hq => k_X5_at l g hg (ky 0 11) (hL.1.2.2.1 11 rfl) S ((z70 * (4 : Int32)) + (2 : Int32)) q12 hq) ⟨⟨rfl, rfl⟩, Nat.le_of_ble_eq_true rfl, Nat.le_of_ble_eq_true rfl⟩ rfl hl.1 rfl (Nat.le_of_ble_eq_true rfl) dX5_canHaveBegun_117 ⟨Nat.zero_le _, Nat.zero_le _⟩ (fun q12 H locs hw hf => ?_)
      refine r_S_i (As := [.int q11, .int q12]) (rest := []) cx hw hf lk_X5_203 (fun q13 hq => k_X5_has l g hg   S q11 q12 q13 hq) ⟨⟨rfl, rfl⟩, Nat.le_of_ble_eq_true rfl, Nat.le_of_ble_eq_true rfl⟩ rfl hl.1 rfl (Nat.le_of_ble_eq_true rfl) dX5_canHaveBegun_120 ⟨Nat.zero_le _, Nat.zero_le _⟩ (fun q13 H locs hw hf => ?_)
      refine lv_istore hx hb dX5_canHaveBegun_123 hl (by decide) (lv' := [(7, .int q13), (6, .int (z70 * (4 : Int32))), (0, .ref (gg_o g 0)), (3, .int x3), (5, .int z70)]) rfl (fun ls hl => ?_)
      refine lv_iload hx hb dX5_canHaveBegun_125 (lv_at hl 0 rfl) ?_
      refine lv_aload_n hx hb dX5_canHaveBegun_127 rfl (lv_at hl 2 rfl) ?_
      refine gf_X5_57 cx hw hL.1 dX5_canHaveBegun_128 ?_
      refine lv_iload hx hb dX5_canHaveBegun_131 (lv_at hl 1 rfl) ?_
      refine lv_iconst (v := 3) hx hb dX5_canHaveBegun_133 (by decide) ?_
      refine lv_iadd hx hb dX5_canHaveBegun_134 ?_
      refine r_S_i (As := [.ref (gg_a g (ky 0 11)), .int ((z70 * (4 : Int32)) + (3 : Int32))]) (rest := [.int q13]) cx hw hf lk_X5_212 (fun q14 hq => k_X5_at l g hg (ky 0 11) (hL.1.2.2.1 11 rfl) S ((z70 * (4 : Int32)) + (3 : Int32)) q14 hq) ⟨⟨rfl, rfl⟩, Nat.le_of_ble_eq_true rfl, Nat.le_of_ble_eq_true rfl⟩ rfl hl.1 rfl (Nat.le_of_ble_eq_true rfl) dX5_canHaveBegun_135 ⟨Nat.zero_le _, Nat.zero_le _⟩ (fun q14 H locs hw hf => ?_)
      refine lv_iconst (v := 1) hx hb dX5_canHaveBegun_138 (by decide) ?_
      refine lv_icmp_ne hx hb dX5_canHaveBegun_139 (tgt := 146) rfl (fun hc15 => ?_) (fun hc15 => ?_)
      · replace hf := h_neg hc15 hf
        refine lv_iconst (v := 0) hx hb dX5_canHaveBegun_146 (by decide) ?_
        exact J147 _ _ _ z70 (0 : Int32) q13 (lv_sub hl [2, 3, 4] rfl) hw hf
      replace hf := h_pos hc15 hf
      refine lv_iconst (v := 1) hx hb dX5_canHaveBegun_142 (by decide) ?_
      refine lv_goto hx hb dX5_canHaveBegun_143 (tgt := 147) rfl ?_
      exact J147 _ _ _ z70 (1 : Int32) q13 (lv_sub hl [2, 3, 4] rfl) hw hf
  exact L70 q7 x3 some (fun v h => h) FU _ _ _ (0 : Int32) (lv_sub hl [1, 4, 0] rfl) hw hf
theorem dX5_began_0 : decode cX5_began 0 = .ok (.aload_n 0, 1) := by decide +kernel
theorem dX5_began_1 : decode cX5_began 1 = .ok (.iload_n 1, 1) := by decide +kernel
theorem dX5_began_2 : decode cX5_began 2 = .ok (.invokevirtual 105, 3) := by decide +kernel
theorem dX5_began_5 : decode cX5_began 5 = .ok (.ifCond .eq 15, 3) := by decide +kernel
theorem dX5_began_8 : decode cX5_began 8 = .ok (.iload_n 2, 1) := by decide +kernel
theorem dX5_began_9 : decode cX5_began 9 = .ok (.ifCond .lt 11, 3) := by decide +kernel
theorem dX5_began_12 : decode cX5_began 12 = .ok (.iload_n 2, 1) := by decide +kernel
theorem dX5_began_13 : decode cX5_began 13 = .ok (.aload_n 0, 1) := by decide +kernel
theorem dX5_began_14 : decode cX5_began 14 = .ok (.getfield 102, 3) := by decide +kernel
theorem dX5_began_17 : decode cX5_began 17 = .ok (.if_icmp .le 5, 3) := by decide +kernel
theorem dX5_began_20 : decode cX5_began 20 = .ok (.iconst (-1), 1) := by decide +kernel
theorem dX5_began_21 : decode cX5_began 21 = .ok (.ireturn, 1) := by decide +kernel
theorem dX5_began_22 : decode cX5_began 22 = .ok (.iconst 0, 1) := by decide +kernel
theorem dX5_began_23 : decode cX5_began 23 = .ok (.istore 4, 2) := by decide +kernel
theorem dX5_began_25 : decode cX5_began 25 = .ok (.iconst 0, 1) := by decide +kernel
theorem dX5_began_26 : decode cX5_began 26 = .ok (.istore 5, 2) := by decide +kernel
theorem dX5_began_28 : decode cX5_began 28 = .ok (.iload 5, 2) := by decide +kernel
theorem dX5_began_30 : decode cX5_began 30 = .ok (.aload_n 0, 1) := by decide +kernel
theorem dX5_began_31 : decode cX5_began 31 = .ok (.getfield 27, 3) := by decide +kernel
theorem dX5_began_34 : decode cX5_began 34 = .ok (.getfield 234, 3) := by decide +kernel
theorem dX5_began_37 : decode cX5_began 37 = .ok (.if_icmp .ge 32, 3) := by decide +kernel
theorem dX5_began_40 : decode cX5_began 40 = .ok (.aload_n 0, 1) := by decide +kernel
theorem dX5_began_41 : decode cX5_began 41 = .ok (.iload_n 1, 1) := by decide +kernel
theorem dX5_began_42 : decode cX5_began 42 = .ok (.iload 5, 2) := by decide +kernel
theorem dX5_began_44 : decode cX5_began 44 = .ok (.iload_n 2, 1) := by decide +kernel
theorem dX5_began_45 : decode cX5_began 45 = .ok (.invokevirtual 299, 3) := by decide +kernel
theorem dX5_began_48 : decode cX5_began 48 = .ok (.ifCond .eq 15, 3) := by decide +kernel
theorem dX5_began_51 : decode cX5_began 51 = .ok (.iload 4, 2) := by decide +kernel
theorem dX5_began_53 : decode cX5_began 53 = .ok (.iload_n 3, 1) := by decide +kernel
theorem dX5_began_54 : decode cX5_began 54 = .ok (.if_icmp .ne 6, 3) := by decide +kernel
theorem dX5_began_57 : decode cX5_began 57 = .ok (.iload 5, 2) := by decide +kernel
theorem dX5_began_59 : decode cX5_began 59 = .ok (.ireturn, 1) := by decide +kernel
theorem dX5_began_60 : decode cX5_began 60 = .ok (.iinc 4 1, 3) := by decide +kernel
theorem dX5_began_63 : decode cX5_began 63 = .ok (.iinc 5 1, 3) := by decide +kernel
theorem dX5_began_66 : decode cX5_began 66 = .ok (.goto (-38), 3) := by decide +kernel
theorem dX5_began_69 : decode cX5_began 69 = .ok (.iload_n 3, 1) := by decide +kernel
theorem dX5_began_70 : decode cX5_began 70 = .ok (.iconst (-1), 1) := by decide +kernel
theorem dX5_began_71 : decode cX5_began 71 = .ok (.if_icmp .ne 8, 3) := by decide +kernel
theorem dX5_began_74 : decode cX5_began 74 = .ok (.iload 4, 2) := by decide +kernel
theorem dX5_began_76 : decode cX5_began 76 = .ok (.goto 4, 3) := by decide +kernel
theorem dX5_began_79 : decode cX5_began 79 = .ok (.iconst (-1), 1) := by decide +kernel
theorem dX5_began_80 : decode cX5_began 80 = .ok (.ireturn, 1) := by decide +kernel
abbrev rm_X5_began : Room := { frames := 6, cells := 0, slots := 0, locals := 217 }
def f_X5_began_L28 (x1 : Int32) (x2 : Int32) (x3 : Int32) (z28 : Int32 × Int32 × St) : Option ((Int32 × Int32 × St) ⊕ ((Int32 × St) ⊕ (Int32 × St))) :=
  chk (isT (st_P z28.2.2 (ky 0 4))) (if (st_I z28.2.2 (ky (st_P z28.2.2 (ky 0 4)) 0)) ≤ z28.2.1 then (some (.inr (.inl (z28.1, z28.2.2)))) else ((f_X5_canHaveBegun  z28.2.2 x1 z28.2.1 x2).bind (fun (q7 : Int32 × St) => if q7.1 = 0 then (some (.inl (z28.1, (z28.2.1 + 1), q7.2))) else (if z28.1 = x3 then (some (.inr (.inr (z28.2.1, q7.2)))) else (some (.inl ((z28.1 + 1), (z28.2.1 + 1), q7.2)))))))
def f_X5_began (S : St) (x1 : Int32) (x2 : Int32) (x3 : Int32) : Option (Int32 × St) :=
  (f_X5_isMan  S x1).bind (fun (q1 : Int32) => if q1 = 0 then (some ((-1 : Int32), S)) else (if x2 < 0 then (some ((-1 : Int32), S)) else (if x2 ≤ (st_I S (ky 0 12)) then ((iter (f_X5_began_L28   x1 x2 x3) FU ((0 : Int32), (0 : Int32), S)).bind fun z => match z with | .inl z => (fun (u13 : Int32 × St) => (fun (e10 : Int32) (S11 : St) => if x3 = (-1 : Int32) then (some (e10, S11)) else (some ((-1 : Int32), S11))) u13.1 u13.2) z | .inr v14 => some v14) else (some ((-1 : Int32), S)))))
set_option maxRecDepth 100000 in
set_option maxHeartbeats 4000000 in
theorem k_X5_began (l : Launch) (g : GG) (hg : gd wd_C g)  (hL : hAll g) (S : St) (x1 : Int32) (x2 : Int32) (x3 : Int32) (q : Int32 × St) (hf : f_X5_began  S x1 x2 x3 = some q) : Met l yX5_began (Cond.code yX5_began cX5_began 6 (some .int) :: gw_tbl) rm_X5_began (va_Pc [.ref (gg_o g 0), .int x1, .int x2, .int x3] (wI wd_C g S)) (qc_w wd_C g q) 0 0 (aw g) := by
  refine mt_start (own := RX5) hg (by decide) rfl (Nat.le_of_ble_eq_true rfl) (fun p e s m args below meth c ls H locs cx hw hr hlk hl => ?_)
  have hx := cx.1
  have hb := cx.2.1
  have hown := cx.2.2.2.1
  have hts := cx.2.2.2.2.1
  have hl : lv_has ls 6 [(0, .ref (gg_o g 0)), (1, .int x1), (2, .int x2), (3, .int x3)] := hl
  replace hf := h_top hf
  unfold f_X5_began at hf
  refine lv_aload_n hx hb dX5_began_0 rfl (lv_at hl 0 rfl) ?_
  refine lv_iload_n hx hb dX5_began_1 rfl (lv_at hl 1 rfl) ?_
  refine r_V_i (As := [.int x1]) (rest := []) cx hw hf hL.1.2.1 (by rw [hL.1.1]; rfl) lk_X5_105 (fun q1 hq => k_X5_isMan l g hg  hL S x1 q1 hq) ⟨⟨rfl, rfl⟩, Nat.le_of_ble_eq_true rfl, Nat.le_of_ble_eq_true rfl⟩ rfl hl.1 rfl (Nat.le_of_ble_eq_true rfl) dX5_began_2 ⟨Nat.zero_le _, Nat.zero_le _⟩ (fun q1 H locs hw hf => ?_)
  refine lv_if_eq hx hb dX5_began_5 (tgt := 20) rfl (fun hc2 => ?_) (fun hc2 => ?_)
  · replace hf := h_pos hc2 hf
    refine lv_iconst (v := -1) hx hb dX5_began_20 (by decide) ?_
    exact r_iretw cx hw hr hlk hf dX5_began_21
  replace hf := h_neg hc2 hf
  refine lv_iload_n hx hb dX5_began_8 rfl (lv_at hl 2 rfl) ?_
  refine lv_if_lt hx hb dX5_began_9 (tgt := 20) rfl (fun hc3 => ?_) (fun hc3 => ?_)
  · replace hf := h_pos hc3 hf
    refine lv_iconst (v := -1) hx hb dX5_began_20 (by decide) ?_
    exact r_iretw cx hw hr hlk hf dX5_began_21
  replace hf := h_neg hc3 hf
  refine lv_iload_n hx hb dX5_began_12 rfl (lv_at hl 2 rfl) ?_
  refine lv_aload_n hx hb dX5_began_13 rfl (lv_at hl 0 rfl) ?_
  refine gf_X5_102 cx hw hL.1 dX5_began_14 ?_
  refine lv_icmp_le hx hb dX5_began_17 (tgt := 22) rfl (fun hc4 => ?_) (fun hc4 => ?_)
  · replace hf := h_pos hc4 hf
    refine lv_iconst (v := 0) hx hb dX5_began_22 (by decide) ?_
    refine lv_istore hx hb dX5_began_23 hl (by decide) (lv' := [(4, .int (0 : Int32)), (0, .ref (gg_o g 0)), (1, .int x1), (2, .int x2), (3, .int x3)]) rfl (fun ls hl => ?_)
    refine lv_iconst (v := 0) hx hb dX5_began_25 (by decide) ?_
    refine lv_istore hx hb dX5_began_26 hl (by decide) (lv' := [(5, .int (0 : Int32)), (4, .int (0 : Int32)), (0, .ref (gg_o g 0)), (1, .int x1), (2, .int x2), (3, .int x3)]) rfl (fun ls hl => ?_)
    have L28 : ∀ (x1 : Int32) (x2 : Int32) (x3 : Int32) (aft28 : ((Int32 × St) ⊕ (Int32 × St)) → Option (Int32 × St)), (∀ (ls : Array Slot) (H : Heap) (locs : List Loc) (e4 : Int32) (S1 : St), lv_has ls 6 [(3, .int x3), (4, .int e4)] → HH wd_C g s S1 H locs → aft28 (.inl (e4, S1)) = some q → W p l e rm_X5_began s m args below meth c H locs 0 0 (MQ below (qc_w wd_C g q) args s 0 0 (aw g)) (F0 m 69 ls [])) → (∀ v : Int32 × St, aft28 (.inr v) = some q → (some v : Option (Int32 × St)).bind some = some q) → ∀ (n28 : Nat) (ls : Array Slot) (H : Heap) (locs : List Loc) (z28 : Int32 × Int32 × St), lv_has ls 6 [(0, .ref (gg_o g 0)), (1, .int x1), (2, .int x2), (3, .int x3), (4, .int z28.1), (5, .int z28.2.1)] → HH wd_C g s z28.2.2 H locs → (iter (f_X5_began_L28   x1 x2 x3) n28 z28).bind aft28 = some q → W p l e rm_X5_began s m args below meth c H locs 0 0 (MQ below (qc_w wd_C g q) args s 0 0 (aw g)) (F0 m 28 ls []) := by
      intro x1 x2 x3 aft28 hX28 hR28 n28
      induction n28 with
      | zero => intro ls H locs z28 hl hw hf; exact h_iter0 hf
      | succ n28 ih28 =>
        intro ls H locs z28 hl hw hf
        replace hf := h_iter hf
        unfold f_X5_began_L28 at hf
        refine lv_iload hx hb dX5_began_28 (lv_at hl 5 rfl) ?_
        refine lv_aload_n hx hb dX5_began_30 rfl (lv_at hl 0 rfl) ?_
        obtain ⟨hc5, hf⟩ := h_chk hf
        refine gf_X5_27 cx hw hL.1 dX5_began_31 ?_
        refine gf_X5_234 cx hw ((allT_at hL.2.2.2.2 hc5).1) dX5_began_34 ?_
        refine lv_icmp_ge hx hb dX5_began_37 (tgt := 69) rfl (fun hc6 => ?_) (fun hc6 => ?_)
        · replace hf := h_pos hc6 hf
          exact hX28 _ _ _ z28.1 z28.2.2 (lv_sub hl [3, 4] rfl) hw hf
        replace hf := h_neg hc6 hf
        refine lv_aload_n hx hb dX5_began_40 rfl (lv_at hl 0 rfl) ?_
        refine lv_iload_n hx hb dX5_began_41 rfl (lv_at hl 1 rfl) ?_
        refine lv_iload hx hb dX5_began_42 (lv_at hl 5 rfl) ?_
        refine lv_iload_n hx hb dX5_began_44 rfl (lv_at hl 2 rfl) ?_
        refine r_V_w (As := [.int x1, .int z28.2.1, .int x2]) (rest := []) cx hw hf hL.1.2.1 (by rw [hL.1.1]; rfl) lk_X5_299 (fun q7 hq => k_X5_canHaveBegun l g hg  hL z28.2.2 x1 z28.2.1 x2 q7 hq) ⟨⟨rfl, rfl⟩, Nat.le_of_ble_eq_true rfl, Nat.le_of_ble_eq_true rfl⟩ rfl hl.1 rfl (Nat.le_of_ble_eq_true rfl) dX5_began_45 ⟨Nat.zero_le _, Nat.zero_le _⟩ (fun q7 H locs hw hf => ?_)
        refine lv_if_eq hx hb dX5_began_48 (tgt := 63) rfl (fun hc8 => ?_) (fun hc8 => ?_)
        · replace hf := h_pos hc8 hf
          refine lv_iinc hx hb dX5_began_63 hl (k := 5) rfl (congrArg (HAdd.hAdd _) (show Int32.ofInt (1) = 1 by decide)) (by decide) (lv' := [(5, .int (z28.2.1 + 1)), (0, .ref (gg_o g 0)), (1, .int x1), (2, .int x2), (3, .int x3), (4, .int z28.1)]) rfl (fun ls hl => ?_)
          refine lv_goto hx hb dX5_began_66 (tgt := 28) rfl ?_
          exact ih28 _ _ _ (z28.1, (z28.2.1 + 1), q7.2) (lv_sub hl [1, 2, 3, 4, 5, 0] rfl) hw hf
        replace hf := h_neg hc8 hf
        refine lv_iload hx hb dX5_began_51 (lv_at hl 4 rfl) ?_
        refine lv_iload_n hx hb dX5_began_53 rfl (lv_at hl 3 rfl) ?_
        refine lv_icmp_ne hx hb dX5_began_54 (tgt := 60) rfl (fun hc9 => ?_) (fun hc9 => ?_)
        · replace hf := h_neg hc9 hf
          refine lv_iinc hx hb dX5_began_60 hl (k := 4) rfl (congrArg (HAdd.hAdd _) (show Int32.ofInt (1) = 1 by decide)) (by decide) (lv' := [(4, .int (z28.1 + 1)), (0, .ref (gg_o g 0)), (1, .int x1), (2, .int x2), (3, .int x3), (5, .int z28.2.1)]) rfl (fun ls hl => ?_)
          refine lv_iinc hx hb dX5_began_63 hl (k := 5) rfl (congrArg (HAdd.hAdd _) (show Int32.ofInt (1) = 1 by decide)) (by decide) (lv' := [(5, .int (z28.2.1 + 1)), (4, .int (z28.1 + 1)), (0, .ref (gg_o g 0)), (1, .int x1), (2, .int x2), (3, .int x3)]) rfl (fun ls hl => ?_)
          refine lv_goto hx hb dX5_began_66 (tgt := 28) rfl ?_
          exact ih28 _ _ _ ((z28.1 + 1), (z28.2.1 + 1), q7.2) (lv_sub hl [2, 3, 4, 5, 1, 0] rfl) hw hf
        replace hf := h_pos hc9 hf
        refine lv_iload hx hb dX5_began_57 (lv_at hl 5 rfl) ?_
        replace hf := hR28 (z28.2.1, q7.2) hf
        exact r_iretw cx hw hr hlk hf dX5_began_59
    refine L28 x1 x2 x3 _ (fun ls H locs e10 S11 hl hw hf => ?_) (fun v h => h) FU _ _ _ ((0 : Int32), (0 : Int32), S) (lv_sub hl [2, 3, 4, 5, 1, 0] rfl) hw (h_assoc hf)
    try dsimp only at hf
    refine lv_iload_n hx hb dX5_began_69 rfl (lv_at hl 0 rfl) ?_
    refine lv_iconst (v := -1) hx hb dX5_began_70 (by decide) ?_
    refine lv_icmp_ne hx hb dX5_began_71 (tgt := 79) rfl (fun hc12 => ?_) (fun hc12 => ?_)
    · replace hf := h_neg hc12 hf
      refine lv_iconst (v := -1) hx hb dX5_began_79 (by decide) ?_
      exact r_iretw cx hw hr hlk hf dX5_began_80
    replace hf := h_pos hc12 hf
    refine lv_iload hx hb dX5_began_74 (lv_at hl 1 rfl) ?_
    refine lv_goto hx hb dX5_began_76 (tgt := 80) rfl ?_
    exact r_iretw cx hw hr hlk hf dX5_began_80
  replace hf := h_neg hc4 hf
  refine lv_iconst (v := -1) hx hb dX5_began_20 (by decide) ?_
  exact r_iretw cx hw hr hlk hf dX5_began_21
theorem dX5_hold_0 : decode cX5_hold 0 = .ok (.iload_n 1, 1) := by decide +kernel
theorem dX5_hold_1 : decode cX5_hold 1 = .ok (.iconst 3, 1) := by decide +kernel
theorem dX5_hold_2 : decode cX5_hold 2 = .ok (.invokestatic 112, 3) := by decide +kernel
theorem dX5_hold_5 : decode cX5_hold 5 = .ok (.ifCond .eq 12, 3) := by decide +kernel
theorem dX5_hold_8 : decode cX5_hold 8 = .ok (.aload_n 0, 1) := by decide +kernel
theorem dX5_hold_9 : decode cX5_hold 9 = .ok (.getfield 53, 3) := by decide +kernel
theorem dX5_hold_12 : decode cX5_hold 12 = .ok (.iload_n 1, 1) := by decide +kernel
theorem dX5_hold_13 : decode cX5_hold 13 = .ok (.aaload, 1) := by decide +kernel
theorem dX5_hold_14 : decode cX5_hold 14 = .ok (.ifnonnull 5, 3) := by decide +kernel
theorem dX5_hold_17 : decode cX5_hold 17 = .ok (.iconst 0, 1) := by decide +kernel
theorem dX5_hold_18 : decode cX5_hold 18 = .ok (.ireturn, 1) := by decide +kernel
theorem dX5_hold_19 : decode cX5_hold 19 = .ok (.aload_n 0, 1) := by decide +kernel
theorem dX5_hold_20 : decode cX5_hold 20 = .ok (.getfield 53, 3) := by decide +kernel
theorem dX5_hold_23 : decode cX5_hold 23 = .ok (.iload_n 1, 1) := by decide +kernel
theorem dX5_hold_24 : decode cX5_hold 24 = .ok (.aaload, 1) := by decide +kernel
theorem dX5_hold_25 : decode cX5_hold 25 = .ok (.aload_n 0, 1) := by decide +kernel
theorem dX5_hold_26 : decode cX5_hold 26 = .ok (.getfield 39, 3) := by decide +kernel
theorem dX5_hold_29 : decode cX5_hold 29 = .ok (.invokevirtual 267, 3) := by decide +kernel
theorem dX5_hold_32 : decode cX5_hold 32 = .ok (.aload_n 0, 1) := by decide +kernel
theorem dX5_hold_33 : decode cX5_hold 33 = .ok (.dup, 1) := by decide +kernel
theorem dX5_hold_34 : decode cX5_hold 34 = .ok (.getfield 99, 3) := by decide +kernel
theorem dX5_hold_37 : decode cX5_hold 37 = .ok (.iconst 1, 1) := by decide +kernel
theorem dX5_hold_38 : decode cX5_hold 38 = .ok (.iload_n 1, 1) := by decide +kernel
theorem dX5_hold_39 : decode cX5_hold 39 = .ok (.ishl, 1) := by decide +kernel
theorem dX5_hold_40 : decode cX5_hold 40 = .ok (.ior, 1) := by decide +kernel
theorem dX5_hold_41 : decode cX5_hold 41 = .ok (.putfield 99, 3) := by decide +kernel
theorem dX5_hold_44 : decode cX5_hold 44 = .ok (.iconst 1, 1) := by decide +kernel
theorem dX5_hold_45 : decode cX5_hold 45 = .ok (.ireturn, 1) := by decide +kernel
abbrev rm_X5_hold : Room := { frames := 3, cells := 0, slots := 0, locals := 166 }
def f_X5_hold (S : St) (x1 : Int32) : Option (Int32 × St) :=
  (f_X5_within   x1 (3 : Int32)).bind (fun (q1 : Int32) => if q1 = 0 then (some ((0 : Int32), S)) else (chk (ib x1 3) (chk (ib x1 3) ((f_X0_copyOf (12 + x1.toNatClampNeg) 10 S ).bind (fun (q5 : St) => lt_v (up_I q5 (ky 0 10) ((st_I q5 (ky 0 10)) ||| ((1 : Int32) <<< (x1 &&& 31)))) (fun (S6 : St) => some ((1 : Int32), S6)))))))
set_option maxRecDepth 100000 in
set_option maxHeartbeats 4000000 in
theorem k_X5_hold (l : Launch) (g : GG) (hg : gd wd_C g)  (hL : hAll g) (S : St) (x1 : Int32) (q : Int32 × St) (hf : f_X5_hold  S x1 = some q) : Met l yX5_hold (Cond.code yX5_hold cX5_hold 2 (some .boolean) :: gw_tbl) rm_X5_hold (va_Pc [.ref (gg_o g 0), .int x1] (wI wd_C g S)) (qc_w wd_C g q) 0 0 (aw g) := by
  refine mt_start (own := RX5) hg (by decide) rfl (Nat.le_of_ble_eq_true rfl) (fun p e s m args below meth c ls H locs cx hw hr hlk hl => ?_)
  have hx := cx.1
  have hb := cx.2.1
  have hown := cx.2.2.2.1
  have hts := cx.2.2.2.2.1
  have hl : lv_has ls 2 [(0, .ref (gg_o g 0)), (1, .int x1)] := hl
  replace hf := h_top hf
  unfold f_X5_hold at hf
  refine lv_iload_n hx hb dX5_hold_0 rfl (lv_at hl 1 rfl) ?_
  refine lv_iconst (v := 3) hx hb dX5_hold_1 (by decide) ?_
  refine r_S_i (As := [.int x1, .int (3 : Int32)]) (rest := []) cx hw hf lk_X5_112 (fun q1 hq => k_X5_within l g hg   S x1 (3 : Int32) q1 hq) ⟨⟨rfl, rfl⟩, Nat.le_of_ble_eq_true rfl, Nat.le_of_ble_eq_true rfl⟩ rfl hl.1 rfl (Nat.le_of_ble_eq_true rfl) dX5_hold_2 ⟨Nat.zero_le _, Nat.zero_le _⟩ (fun q1 H locs hw hf => ?_)
  refine lv_if_eq hx hb dX5_hold_5 (tgt := 17) rfl (fun hc2 => ?_) (fun hc2 => ?_)
  · replace hf := h_pos hc2 hf
    refine lv_iconst (v := 0) hx hb dX5_hold_17 (by decide) ?_
    exact r_zretw cx hw hr hlk (Or.inl rfl) hf dX5_hold_18
  replace hf := h_neg hc2 hf
  refine lv_aload_n hx hb dX5_hold_8 rfl (lv_at hl 0 rfl) ?_
  refine gf_X5_53 cx hw hL.1 dX5_hold_9 ?_
  refine lv_iload_n hx hb dX5_hold_12 rfl (lv_at hl 1 rfl) ?_
  have hc3 := (h_chk hf).1
  refine r_aald cx hw (hL.1.2.2.2.2 9 rfl) hf dX5_hold_13 (fun hf => ?_)
  refine lv_ifnonnull hx hb dX5_hold_14 (tgt := 19) rfl ?_
  refine lv_aload_n hx hb dX5_hold_19 rfl (lv_at hl 0 rfl) ?_
  refine gf_X5_53 cx hw hL.1 dX5_hold_20 ?_
  refine lv_iload_n hx hb dX5_hold_23 rfl (lv_at hl 1 rfl) ?_
  have hc4 := (h_chk hf).1
  refine r_aald cx hw (hL.1.2.2.2.2 9 rfl) hf dX5_hold_24 (fun hf => ?_)
  refine lv_aload_n hx hb dX5_hold_25 rfl (lv_at hl 0 rfl) ?_
  refine gf_X5_39 cx hw hL.1 dX5_hold_26 ?_
  refine r_VN_v (As := [.ref (gg_o g 10)]) (rest := []) cx hw hf (nw_at cx) (hAll_q hL hc4).2.1 (by rw [(hAll_q hL hc4).1]; rfl) lk_X5_267 (fun q5 hq => k_X0_copyOf l g hg (12 + x1.toNatClampNeg) 10 (hAll_q hL hc4) hL.2.2.2.2 (hL.2.2.2.1 0 (by decide)) S  q5 hq) ⟨⟨rfl, rfl⟩, Nat.le_of_ble_eq_true rfl, Nat.le_of_ble_eq_true rfl⟩ rfl hl.1 rfl (Nat.le_of_ble_eq_true rfl) dX5_hold_29 ⟨Nat.zero_le _, Nat.zero_le _⟩ (fun q5 H locs hw hf => ?_)
  refine lv_aload_n hx hb dX5_hold_32 rfl (lv_at hl 0 rfl) ?_
  refine lv_dup hx hb dX5_hold_33 rfl ?_
  refine gf_X5_99 cx hw hL.1 dX5_hold_34 ?_
  refine lv_iconst (v := 1) hx hb dX5_hold_37 (by decide) ?_
  refine lv_iload_n hx hb dX5_hold_38 rfl (lv_at hl 1 rfl) ?_
  refine lv_ishl hx hb dX5_hold_39 ?_
  refine lv_ior hx hb dX5_hold_40 ?_
  refine pf_X5_99 cx hw hL.1 hf dX5_hold_41 (fun S6 H locs hw hf => ?_)
  refine lv_iconst (v := 1) hx hb dX5_hold_44 (by decide) ?_
  exact r_zretw cx hw hr hlk (Or.inr rfl) hf dX5_hold_45
theorem dX5_restore_0 : decode cX5_restore 0 = .ok (.iload_n 1, 1) := by decide +kernel
theorem dX5_restore_1 : decode cX5_restore 1 = .ok (.iconst 3, 1) := by decide +kernel
theorem dX5_restore_2 : decode cX5_restore 2 = .ok (.invokestatic 112, 3) := by decide +kernel
theorem dX5_restore_5 : decode cX5_restore 5 = .ok (.ifCond .eq 23, 3) := by decide +kernel
theorem dX5_restore_8 : decode cX5_restore 8 = .ok (.aload_n 0, 1) := by decide +kernel
theorem dX5_restore_9 : decode cX5_restore 9 = .ok (.getfield 53, 3) := by decide +kernel
theorem dX5_restore_12 : decode cX5_restore 12 = .ok (.iload_n 1, 1) := by decide +kernel
theorem dX5_restore_13 : decode cX5_restore 13 = .ok (.aaload, 1) := by decide +kernel
theorem dX5_restore_14 : decode cX5_restore 14 = .ok (.ifnull 14, 3) := by decide +kernel
theorem dX5_restore_17 : decode cX5_restore 17 = .ok (.aload_n 0, 1) := by decide +kernel
theorem dX5_restore_18 : decode cX5_restore 18 = .ok (.getfield 99, 3) := by decide +kernel
theorem dX5_restore_21 : decode cX5_restore 21 = .ok (.iload_n 1, 1) := by decide +kernel
theorem dX5_restore_22 : decode cX5_restore 22 = .ok (.invokestatic 203, 3) := by decide +kernel
theorem dX5_restore_25 : decode cX5_restore 25 = .ok (.ifCond .ne 5, 3) := by decide +kernel
theorem dX5_restore_28 : decode cX5_restore 28 = .ok (.iconst 0, 1) := by decide +kernel
theorem dX5_restore_29 : decode cX5_restore 29 = .ok (.ireturn, 1) := by decide +kernel
theorem dX5_restore_30 : decode cX5_restore 30 = .ok (.aload_n 0, 1) := by decide +kernel
theorem dX5_restore_31 : decode cX5_restore 31 = .ok (.getfield 39, 3) := by decide +kernel
theorem dX5_restore_34 : decode cX5_restore 34 = .ok (.aload_n 0, 1) := by decide +kernel
theorem dX5_restore_35 : decode cX5_restore 35 = .ok (.getfield 53, 3) := by decide +kernel
theorem dX5_restore_38 : decode cX5_restore 38 = .ok (.iload_n 1, 1) := by decide +kernel
theorem dX5_restore_39 : decode cX5_restore 39 = .ok (.aaload, 1) := by decide +kernel
theorem dX5_restore_40 : decode cX5_restore 40 = .ok (.invokevirtual 267, 3) := by decide +kernel
theorem dX5_restore_43 : decode cX5_restore 43 = .ok (.aload_n 0, 1) := by decide +kernel
theorem dX5_restore_44 : decode cX5_restore 44 = .ok (.getfield 49, 3) := by decide +kernel
theorem dX5_restore_47 : decode cX5_restore 47 = .ok (.invokevirtual 96, 3) := by decide +kernel
theorem dX5_restore_50 : decode cX5_restore 50 = .ok (.iconst 1, 1) := by decide +kernel
theorem dX5_restore_51 : decode cX5_restore 51 = .ok (.ireturn, 1) := by decide +kernel
abbrev rm_X5_restore : Room := { frames := 3, cells := 0, slots := 0, locals := 166 }
def f_X5_restore (S : St) (x1 : Int32) : Option (Int32 × St) :=
  (f_X5_within   x1 (3 : Int32)).bind (fun (q1 : Int32) => if q1 = 0 then (some ((0 : Int32), S)) else (chk (ib x1 3) ((f_X5_has   (st_I S (ky 0 10)) x1).bind (fun (q4 : Int32) => if q4 = 0 then (some ((0 : Int32), S)) else (chk (ib x1 3) ((f_X0_copyOf 10 (12 + x1.toNatClampNeg) S ).bind (fun (q7 : St) => (f_X2_clear  q7 ).bind (fun (q8 : St) => some ((1 : Int32), q8)))))))))
set_option maxRecDepth 100000 in
set_option maxHeartbeats 4000000 in
theorem k_X5_restore (l : Launch) (g : GG) (hg : gd wd_C g)  (hL : hAll g) (S : St) (x1 : Int32) (q : Int32 × St) (hf : f_X5_restore  S x1 = some q) : Met l yX5_restore (Cond.code yX5_restore cX5_restore 2 (some .boolean) :: gw_tbl) rm_X5_restore (va_Pc [.ref (gg_o g 0), .int x1] (wI wd_C g S)) (qc_w wd_C g q) 0 0 (aw g) := by
  refine mt_start (own := RX5) hg (by decide) rfl (Nat.le_of_ble_eq_true rfl) (fun p e s m args below meth c ls H locs cx hw hr hlk hl => ?_)
  have hx := cx.1
  have hb := cx.2.1
  have hown := cx.2.2.2.1
  have hts := cx.2.2.2.2.1
  have hl : lv_has ls 2 [(0, .ref (gg_o g 0)), (1, .int x1)] := hl
  replace hf := h_top hf
  unfold f_X5_restore at hf
  refine lv_iload_n hx hb dX5_restore_0 rfl (lv_at hl 1 rfl) ?_
  refine lv_iconst (v := 3) hx hb dX5_restore_1 (by decide) ?_
  refine r_S_i (As := [.int x1, .int (3 : Int32)]) (rest := []) cx hw hf lk_X5_112 (fun q1 hq => k_X5_within l g hg   S x1 (3 : Int32) q1 hq) ⟨⟨rfl, rfl⟩, Nat.le_of_ble_eq_true rfl, Nat.le_of_ble_eq_true rfl⟩ rfl hl.1 rfl (Nat.le_of_ble_eq_true rfl) dX5_restore_2 ⟨Nat.zero_le _, Nat.zero_le _⟩ (fun q1 H locs hw hf => ?_)
  refine lv_if_eq hx hb dX5_restore_5 (tgt := 28) rfl (fun hc2 => ?_) (fun hc2 => ?_)
  · replace hf := h_pos hc2 hf
    refine lv_iconst (v := 0) hx hb dX5_restore_28 (by decide) ?_
    exact r_zretw cx hw hr hlk (Or.inl rfl) hf dX5_restore_29
  replace hf := h_neg hc2 hf
  refine lv_aload_n hx hb dX5_restore_8 rfl (lv_at hl 0 rfl) ?_
  refine gf_X5_53 cx hw hL.1 dX5_restore_9 ?_
  refine lv_iload_n hx hb dX5_restore_12 rfl (lv_at hl 1 rfl) ?_
  have hc3 := (h_chk hf).1
  refine r_aald cx hw (hL.1.2.2.2.2 9 rfl) hf dX5_restore_13 (fun hf => ?_)
  refine lv_ifnull hx hb dX5_restore_14 ?_
  refine lv_aload_n hx hb dX5_restore_17 rfl (lv_at hl 0 rfl) ?_
  refine gf_X5_99 cx hw hL.1 dX5_restore_18 ?_
  refine lv_iload_n hx hb dX5_restore_21 rfl (lv_at hl 1 rfl) ?_
  refine r_S_i (As := [.int (st_I S (ky 0 10)), .int x1]) (rest := []) cx hw hf lk_X5_203 (fun q4 hq => k_X5_has l g hg   S (st_I S (ky 0 10)) x1 q4 hq) ⟨⟨rfl, rfl⟩, Nat.le_of_ble_eq_true rfl, Nat.le_of_ble_eq_true rfl⟩ rfl hl.1 rfl (Nat.le_of_ble_eq_true rfl) dX5_restore_22 ⟨Nat.zero_le _, Nat.zero_le _⟩ (fun q4 H locs hw hf => ?_)
  refine lv_if_ne hx hb dX5_restore_25 (tgt := 30) rfl (fun hc5 => ?_) (fun hc5 => ?_)
  · replace hf := h_neg hc5 hf
    refine lv_aload_n hx hb dX5_restore_30 rfl (lv_at hl 0 rfl) ?_
    refine gf_X5_39 cx hw hL.1 dX5_restore_31 ?_
    refine lv_aload_n hx hb dX5_restore_34 rfl (lv_at hl 0 rfl) ?_
    refine gf_X5_53 cx hw hL.1 dX5_restore_35 ?_
    refine lv_iload_n hx hb dX5_restore_38 rfl (lv_at hl 1 rfl) ?_
    have hc6 := (h_chk hf).1
    refine r_aald cx hw (hL.1.2.2.2.2 9 rfl) hf dX5_restore_39 (fun hf => ?_)
    refine r_VN_v (As := [.ref (gg_o g (12 + x1.toNatClampNeg))]) (rest := []) cx hw hf (nw_at cx) (hL.2.2.2.1 0 (by decide)).2.1 (by rw [(hL.2.2.2.1 0 (by decide)).1]; rfl) lk_X5_267 (fun q7 hq => k_X0_copyOf l g hg 10 (12 + x1.toNatClampNeg) (hL.2.2.2.1 0 (by decide)) hL.2.2.2.2 (hAll_q hL hc6) S  q7 hq) ⟨⟨rfl, rfl⟩, Nat.le_of_ble_eq_true rfl, Nat.le_of_ble_eq_true rfl⟩ rfl hl.1 rfl (Nat.le_of_ble_eq_true rfl) dX5_restore_40 ⟨Nat.zero_le _, Nat.zero_le _⟩ (fun q7 H locs hw hf => ?_)
    refine lv_aload_n hx hb dX5_restore_43 rfl (lv_at hl 0 rfl) ?_
    refine gf_X5_49 cx hw hL.1 dX5_restore_44 ?_
    refine r_VN_v (As := []) (rest := []) cx hw hf (nw_at cx) hL.2.2.1.2.1 (by rw [hL.2.2.1.1]; rfl) lk_X5_96 (fun q8 hq => k_X2_clear l g hg  hL.2.2.1 hL.2.2.2.2 q7  q8 hq) ⟨⟨rfl, rfl⟩, Nat.le_of_ble_eq_true rfl, Nat.le_of_ble_eq_true rfl⟩ rfl hl.1 rfl (Nat.le_of_ble_eq_true rfl) dX5_restore_47 ⟨Nat.zero_le _, Nat.zero_le _⟩ (fun q8 H locs hw hf => ?_)
    refine lv_iconst (v := 1) hx hb dX5_restore_50 (by decide) ?_
    exact r_zretw cx hw hr hlk (Or.inr rfl) hf dX5_restore_51
  replace hf := h_pos hc5 hf
  refine lv_iconst (v := 0) hx hb dX5_restore_28 (by decide) ?_
  exact r_zretw cx hw hr hlk (Or.inl rfl) hf dX5_restore_29
theorem dX5_count_0 : decode cX5_count 0 = .ok (.iload_n 1, 1) := by decide +kernel
theorem dX5_count_1 : decode cX5_count 1 = .ok (.tableswitch 141 0 10 #[59, 67, 75, 83, 91, 99, 107, 115, 120, 128, 133], 59) := by decide +kernel
theorem dX5_count_60 : decode cX5_count 60 = .ok (.aload_n 0, 1) := by decide +kernel
theorem dX5_count_61 : decode cX5_count 61 = .ok (.getfield 27, 3) := by decide +kernel
theorem dX5_count_64 : decode cX5_count 64 = .ok (.getfield 234, 3) := by decide +kernel
theorem dX5_count_67 : decode cX5_count 67 = .ok (.ireturn, 1) := by decide +kernel
theorem dX5_count_68 : decode cX5_count 68 = .ok (.aload_n 0, 1) := by decide +kernel
theorem dX5_count_69 : decode cX5_count 69 = .ok (.getfield 27, 3) := by decide +kernel
theorem dX5_count_72 : decode cX5_count 72 = .ok (.getfield 287, 3) := by decide +kernel
theorem dX5_count_75 : decode cX5_count 75 = .ok (.ireturn, 1) := by decide +kernel
theorem dX5_count_76 : decode cX5_count 76 = .ok (.aload_n 0, 1) := by decide +kernel
theorem dX5_count_77 : decode cX5_count 77 = .ok (.getfield 27, 3) := by decide +kernel
theorem dX5_count_80 : decode cX5_count 80 = .ok (.getfield 231, 3) := by decide +kernel
theorem dX5_count_83 : decode cX5_count 83 = .ok (.ireturn, 1) := by decide +kernel
theorem dX5_count_84 : decode cX5_count 84 = .ok (.aload_n 0, 1) := by decide +kernel
theorem dX5_count_85 : decode cX5_count 85 = .ok (.getfield 27, 3) := by decide +kernel
theorem dX5_count_88 : decode cX5_count 88 = .ok (.getfield 206, 3) := by decide +kernel
theorem dX5_count_91 : decode cX5_count 91 = .ok (.ireturn, 1) := by decide +kernel
theorem dX5_count_92 : decode cX5_count 92 = .ok (.aload_n 0, 1) := by decide +kernel
theorem dX5_count_93 : decode cX5_count 93 = .ok (.getfield 39, 3) := by decide +kernel
theorem dX5_count_96 : decode cX5_count 96 = .ok (.getfield 147, 3) := by decide +kernel
theorem dX5_count_99 : decode cX5_count 99 = .ok (.ireturn, 1) := by decide +kernel
theorem dX5_count_100 : decode cX5_count 100 = .ok (.aload_n 0, 1) := by decide +kernel
theorem dX5_count_101 : decode cX5_count 101 = .ok (.getfield 39, 3) := by decide +kernel
theorem dX5_count_104 : decode cX5_count 104 = .ok (.invokevirtual 302, 3) := by decide +kernel
theorem dX5_count_107 : decode cX5_count 107 = .ok (.ireturn, 1) := by decide +kernel
theorem dX5_count_108 : decode cX5_count 108 = .ok (.aload_n 0, 1) := by decide +kernel
theorem dX5_count_109 : decode cX5_count 109 = .ok (.getfield 39, 3) := by decide +kernel
theorem dX5_count_112 : decode cX5_count 112 = .ok (.invokevirtual 305, 3) := by decide +kernel
theorem dX5_count_115 : decode cX5_count 115 = .ok (.ireturn, 1) := by decide +kernel
theorem dX5_count_116 : decode cX5_count 116 = .ok (.aload_n 0, 1) := by decide +kernel
theorem dX5_count_117 : decode cX5_count 117 = .ok (.getfield 69, 3) := by decide +kernel
theorem dX5_count_120 : decode cX5_count 120 = .ok (.ireturn, 1) := by decide +kernel
theorem dX5_count_121 : decode cX5_count 121 = .ok (.aload_n 0, 1) := by decide +kernel
theorem dX5_count_122 : decode cX5_count 122 = .ok (.getfield 49, 3) := by decide +kernel
theorem dX5_count_125 : decode cX5_count 125 = .ok (.getfield 308, 3) := by decide +kernel
theorem dX5_count_128 : decode cX5_count 128 = .ok (.ireturn, 1) := by decide +kernel
theorem dX5_count_129 : decode cX5_count 129 = .ok (.aload_n 0, 1) := by decide +kernel
theorem dX5_count_130 : decode cX5_count 130 = .ok (.getfield 102, 3) := by decide +kernel
theorem dX5_count_133 : decode cX5_count 133 = .ok (.ireturn, 1) := by decide +kernel
theorem dX5_count_134 : decode cX5_count 134 = .ok (.aload_n 0, 1) := by decide +kernel
theorem dX5_count_135 : decode cX5_count 135 = .ok (.getfield 99, 3) := by decide +kernel
theorem dX5_count_138 : decode cX5_count 138 = .ok (.invokestatic 237, 3) := by decide +kernel
theorem dX5_count_141 : decode cX5_count 141 = .ok (.ireturn, 1) := by decide +kernel
theorem dX5_count_142 : decode cX5_count 142 = .ok (.iconst (-1), 1) := by decide +kernel
theorem dX5_count_143 : decode cX5_count 143 = .ok (.ireturn, 1) := by decide +kernel
abbrev rm_X5_count : Room := { frames := 3, cells := 0, slots := 0, locals := 65 }
def f_X5_count (S : St) (x1 : Int32) : Option (Int32) :=
  if x1 = 0 then (chk (isT (st_P S (ky 0 4))) (some (st_I S (ky (st_P S (ky 0 4)) 0)))) else (if x1 = 1 then (chk (isT (st_P S (ky 0 4))) (some (st_I S (ky (st_P S (ky 0 4)) 1)))) else (if x1 = 2 then (chk (isT (st_P S (ky 0 4))) (some (st_I S (ky (st_P S (ky 0 4)) 2)))) else (if x1 = 3 then (chk (isT (st_P S (ky 0 4))) (some (st_I S (ky (st_P S (ky 0 4)) 3)))) else (if x1 = 4 then (some (st_I S (ky 10 1))) else (if x1 = 5 then ((f_X0_brokenOnes 10 S ).bind (fun (q6 : Int32) => some q6)) else (if x1 = 6 then ((f_X0_turnedOnes 10 S ).bind (fun (q7 : Int32) => some q7)) else (if x1 = 7 then (some (st_I S (ky 0 1))) else (if x1 = 8 then (some (st_I S (ky 6 2))) else (if x1 = 9 then (some (st_I S (ky 0 12))) else (if x1 = 10 then ((f_J6_bitCount_0f7a4   (st_I S (ky 0 10))).bind (fun (q8 : Int32) => some q8)) else (some (-1 : Int32))))))))))))
set_option maxRecDepth 100000 in
set_option maxHeartbeats 4000000 in
theorem k_X5_count (l : Launch) (g : GG) (hg : gd wd_C g)  (hL : hAll g) (S : St) (x1 : Int32) (q : Int32) (hf : f_X5_count  S x1 = some q) : Met l yX5_count (Cond.code yX5_count cX5_count 2 (some .int) :: gw_tbl) rm_X5_count (va_Pc [.ref (gg_o g 0), .int x1] (wI wd_C g S)) (qc_i wd_C g S q) 0 0 (aw g) := by
  refine mt_start (own := RX5) hg (by decide) rfl (Nat.le_of_ble_eq_true rfl) (fun p e s m args below meth c ls H locs cx hw hr hlk hl => ?_)
  have hx := cx.1
  have hb := cx.2.1
  have hown := cx.2.2.2.1
  have hts := cx.2.2.2.2.1
  have hl : lv_has ls 2 [(0, .ref (gg_o g 0)), (1, .int x1)] := hl
  replace hf := h_top hf
  unfold f_X5_count at hf
  refine lv_iload_n hx hb dX5_count_0 rfl (lv_at hl 1 rfl) ?_
  by_cases hc1_0 : x1 = 0
  · replace hf := h_pos hc1_0 hf
    refine lv_tableIn hx hb dX5_count_1 (by rw [hc1_0]; decide) (by rw [hc1_0]; decide) (off := 59) (by rw [hc1_0]; rfl) (tgt := 60) rfl ?_
    refine lv_aload_n hx hb dX5_count_60 rfl (lv_at hl 0 rfl) ?_
    obtain ⟨hc2, hf⟩ := h_chk hf
    refine gf_X5_27 cx hw hL.1 dX5_count_61 ?_
    refine gf_X5_234 cx hw ((allT_at hL.2.2.2.2 hc2).1) dX5_count_64 ?_
    exact r_iret cx hw hr hlk hf dX5_count_67
  replace hf := h_neg hc1_0 hf
  by_cases hc1_1 : x1 = 1
  · replace hf := h_pos hc1_1 hf
    refine lv_tableIn hx hb dX5_count_1 (by rw [hc1_1]; decide) (by rw [hc1_1]; decide) (off := 67) (by rw [hc1_1]; rfl) (tgt := 68) rfl ?_
    refine lv_aload_n hx hb dX5_count_68 rfl (lv_at hl 0 rfl) ?_
    obtain ⟨hc3, hf⟩ := h_chk hf
    refine gf_X5_27 cx hw hL.1 dX5_count_69 ?_
    refine gf_X5_287 cx hw ((allT_at hL.2.2.2.2 hc3).1) dX5_count_72 ?_
    exact r_iret cx hw hr hlk hf dX5_count_75
  replace hf := h_neg hc1_1 hf
  by_cases hc1_2 : x1 = 2
  · replace hf := h_pos hc1_2 hf
    refine lv_tableIn hx hb dX5_count_1 (by rw [hc1_2]; decide) (by rw [hc1_2]; decide) (off := 75) (by rw [hc1_2]; rfl) (tgt := 76) rfl ?_
    refine lv_aload_n hx hb dX5_count_76 rfl (lv_at hl 0 rfl) ?_
    obtain ⟨hc4, hf⟩ := h_chk hf
    refine gf_X5_27 cx hw hL.1 dX5_count_77 ?_
    refine gf_X5_231 cx hw ((allT_at hL.2.2.2.2 hc4).1) dX5_count_80 ?_
    exact r_iret cx hw hr hlk hf dX5_count_83
  replace hf := h_neg hc1_2 hf
  by_cases hc1_3 : x1 = 3
  · replace hf := h_pos hc1_3 hf
    refine lv_tableIn hx hb dX5_count_1 (by rw [hc1_3]; decide) (by rw [hc1_3]; decide) (off := 83) (by rw [hc1_3]; rfl) (tgt := 84) rfl ?_
    refine lv_aload_n hx hb dX5_count_84 rfl (lv_at hl 0 rfl) ?_
    obtain ⟨hc5, hf⟩ := h_chk hf
    refine gf_X5_27 cx hw hL.1 dX5_count_85 ?_
    refine gf_X5_206 cx hw ((allT_at hL.2.2.2.2 hc5).1) dX5_count_88 ?_
    exact r_iret cx hw hr hlk hf dX5_count_91
  replace hf := h_neg hc1_3 hf
  by_cases hc1_4 : x1 = 4
  · replace hf := h_pos hc1_4 hf
    refine lv_tableIn hx hb dX5_count_1 (by rw [hc1_4]; decide) (by rw [hc1_4]; decide) (off := 91) (by rw [hc1_4]; rfl) (tgt := 92) rfl ?_
    refine lv_aload_n hx hb dX5_count_92 rfl (lv_at hl 0 rfl) ?_
    refine gf_X5_39 cx hw hL.1 dX5_count_93 ?_
    refine gf_X5_147 cx hw (hL.2.2.2.1 0 (by decide)) dX5_count_96 ?_
    exact r_iret cx hw hr hlk hf dX5_count_99
  replace hf := h_neg hc1_4 hf
  by_cases hc1_5 : x1 = 5
  · replace hf := h_pos hc1_5 hf
    refine lv_tableIn hx hb dX5_count_1 (by rw [hc1_5]; decide) (by rw [hc1_5]; decide) (off := 99) (by rw [hc1_5]; rfl) (tgt := 100) rfl ?_
    refine lv_aload_n hx hb dX5_count_100 rfl (lv_at hl 0 rfl) ?_
    refine gf_X5_39 cx hw hL.1 dX5_count_101 ?_
    refine r_VN_i (As := []) (rest := []) cx hw hf (nw_at cx) (hL.2.2.2.1 0 (by decide)).2.1 (by rw [(hL.2.2.2.1 0 (by decide)).1]; rfl) lk_X5_302 (fun q6 hq => k_X0_brokenOnes l g hg 10 (hL.2.2.2.1 0 (by decide)) hL.2.2.2.2 S  q6 hq) ⟨⟨rfl, rfl⟩, Nat.le_of_ble_eq_true rfl, Nat.le_of_ble_eq_true rfl⟩ rfl hl.1 rfl (Nat.le_of_ble_eq_true rfl) dX5_count_104 ⟨Nat.zero_le _, Nat.zero_le _⟩ (fun q6 H locs hw hf => ?_)
    exact r_iret cx hw hr hlk hf dX5_count_107
  replace hf := h_neg hc1_5 hf
  by_cases hc1_6 : x1 = 6
  · replace hf := h_pos hc1_6 hf
    refine lv_tableIn hx hb dX5_count_1 (by rw [hc1_6]; decide) (by rw [hc1_6]; decide) (off := 107) (by rw [hc1_6]; rfl) (tgt := 108) rfl ?_
    refine lv_aload_n hx hb dX5_count_108 rfl (lv_at hl 0 rfl) ?_
    refine gf_X5_39 cx hw hL.1 dX5_count_109 ?_
    refine r_VN_i (As := []) (rest := []) cx hw hf (nw_at cx) (hL.2.2.2.1 0 (by decide)).2.1 (by rw [(hL.2.2.2.1 0 (by decide)).1]; rfl) lk_X5_305 (fun q7 hq => k_X0_turnedOnes l g hg 10 (hL.2.2.2.1 0 (by decide)) hL.2.2.2.2 S  q7 hq) ⟨⟨rfl, rfl⟩, Nat.le_of_ble_eq_true rfl, Nat.le_of_ble_eq_true rfl⟩ rfl hl.1 rfl (Nat.le_of_ble_eq_true rfl) dX5_count_112 ⟨Nat.zero_le _, Nat.zero_le _⟩ (fun q7 H locs hw hf => ?_)
    exact r_iret cx hw hr hlk hf dX5_count_115
  replace hf := h_neg hc1_6 hf
  by_cases hc1_7 : x1 = 7
  · replace hf := h_pos hc1_7 hf
    refine lv_tableIn hx hb dX5_count_1 (by rw [hc1_7]; decide) (by rw [hc1_7]; decide) (off := 115) (by rw [hc1_7]; rfl) (tgt := 116) rfl ?_
    refine lv_aload_n hx hb dX5_count_116 rfl (lv_at hl 0 rfl) ?_
    refine gf_X5_69 cx hw hL.1 dX5_count_117 ?_
    exact r_iret cx hw hr hlk hf dX5_count_120
  replace hf := h_neg hc1_7 hf
  by_cases hc1_8 : x1 = 8
  · replace hf := h_pos hc1_8 hf
    refine lv_tableIn hx hb dX5_count_1 (by rw [hc1_8]; decide) (by rw [hc1_8]; decide) (off := 120) (by rw [hc1_8]; rfl) (tgt := 121) rfl ?_
    refine lv_aload_n hx hb dX5_count_121 rfl (lv_at hl 0 rfl) ?_
    refine gf_X5_49 cx hw hL.1 dX5_count_122 ?_
    refine gf_X5_308 cx hw hL.2.2.1 dX5_count_125 ?_
    exact r_iret cx hw hr hlk hf dX5_count_128
  replace hf := h_neg hc1_8 hf
  by_cases hc1_9 : x1 = 9
  · replace hf := h_pos hc1_9 hf
    refine lv_tableIn hx hb dX5_count_1 (by rw [hc1_9]; decide) (by rw [hc1_9]; decide) (off := 128) (by rw [hc1_9]; rfl) (tgt := 129) rfl ?_
    refine lv_aload_n hx hb dX5_count_129 rfl (lv_at hl 0 rfl) ?_
    refine gf_X5_102 cx hw hL.1 dX5_count_130 ?_
    exact r_iret cx hw hr hlk hf dX5_count_133
  replace hf := h_neg hc1_9 hf
  by_cases hc1_10 : x1 = 10
  · replace hf := h_pos hc1_10 hf
    refine lv_tableIn hx hb dX5_count_1 (by rw [hc1_10]; decide) (by rw [hc1_10]; decide) (off := 133) (by rw [hc1_10]; rfl) (tgt := 134) rfl ?_
    refine lv_aload_n hx hb dX5_count_134 rfl (lv_at hl 0 rfl) ?_
    refine gf_X5_99 cx hw hL.1 dX5_count_135 ?_
    refine r_S_i (As := [.int (st_I S (ky 0 10))]) (rest := []) cx hw hf lk_X5_237 (fun q8 hq => k_J6_bitCount_0f7a4 l wd_C g hg   S (st_I S (ky 0 10)) q8 hq) ⟨⟨rfl, rfl⟩, Nat.le_of_ble_eq_true rfl, Nat.le_of_ble_eq_true rfl⟩ rfl hl.1 rfl (Nat.le_of_ble_eq_true rfl) dX5_count_138 ⟨Nat.zero_le _, Nat.zero_le _⟩ (fun q8 H locs hw hf => ?_)
    exact r_iret cx hw hr hlk hf dX5_count_141
  replace hf := h_neg hc1_10 hf
  have hD1 : W p l e rm_X5_count s m args below meth c H locs 0 0 (MQ below (qc_i wd_C g S q) args s 0 0 (aw g)) (F0 m 142 ls []) := by
    refine lv_iconst (v := -1) hx hb dX5_count_142 (by decide) ?_
    exact r_iret cx hw hr hlk hf dX5_count_143
  refine lv_tableOut hx hb dX5_count_1 (ts_out (lo := 0) (hi := 10) (by decide) (by decide) (fun i h1 h2 => ?_)) (tgt := 142) rfl hD1
  rcases (show i = 0 ∨ i = 1 ∨ i = 2 ∨ i = 3 ∨ i = 4 ∨ i = 5 ∨ i = 6 ∨ i = 7 ∨ i = 8 ∨ i = 9 ∨ i = 10 by omega) with rfl | rfl | rfl | rfl | rfl | rfl | rfl | rfl | rfl | rfl | rfl
  · exact hc1_0
  · exact hc1_1
  · exact hc1_2
  · exact hc1_3
  · exact hc1_4
  · exact hc1_5
  · exact hc1_6
  · exact hc1_7
  · exact hc1_8
  · exact hc1_9
  · exact hc1_10
