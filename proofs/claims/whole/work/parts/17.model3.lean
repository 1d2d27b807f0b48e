theorem dX6_isAlone_0 : decode cX6_isAlone 0 = .ok (.aload_n 0, 1) := by decide +kernel
theorem dX6_isAlone_1 : decode cX6_isAlone 1 = .ok (.aload_n 0, 1) := by decide +kernel
theorem dX6_isAlone_2 : decode cX6_isAlone 2 = .ok (.getfield 131, 3) := by decide +kernel
theorem dX6_isAlone_5 : decode cX6_isAlone 5 = .ok (.bipush 36, 2) := by decide +kernel
theorem dX6_isAlone_7 : decode cX6_isAlone 7 = .ok (.iload_n 2, 1) := by decide +kernel
theorem dX6_isAlone_8 : decode cX6_isAlone 8 = .ok (.imul, 1) := by decide +kernel
theorem dX6_isAlone_9 : decode cX6_isAlone 9 = .ok (.iload_n 1, 1) := by decide +kernel
theorem dX6_isAlone_10 : decode cX6_isAlone 10 = .ok (.iadd, 1) := by decide +kernel
theorem dX6_isAlone_11 : decode cX6_isAlone 11 = .ok (.iaload, 1) := by decide +kernel
theorem dX6_isAlone_12 : decode cX6_isAlone 12 = .ok (.iload_n 2, 1) := by decide +kernel
theorem dX6_isAlone_13 : decode cX6_isAlone 13 = .ok (.invokevirtual 366, 3) := by decide +kernel
theorem dX6_isAlone_16 : decode cX6_isAlone 16 = .ok (.invokestatic 369, 3) := by decide +kernel
theorem dX6_isAlone_19 : decode cX6_isAlone 19 = .ok (.iconst 1, 1) := by decide +kernel
theorem dX6_isAlone_20 : decode cX6_isAlone 20 = .ok (.if_icmp .ne 7, 3) := by decide +kernel
theorem dX6_isAlone_23 : decode cX6_isAlone 23 = .ok (.iconst 1, 1) := by decide +kernel
theorem dX6_isAlone_24 : decode cX6_isAlone 24 = .ok (.goto 4, 3) := by decide +kernel
theorem dX6_isAlone_27 : decode cX6_isAlone 27 = .ok (.iconst 0, 1) := by decide +kernel
theorem dX6_isAlone_28 : decode cX6_isAlone 28 = .ok (.ireturn, 1) := by decide +kernel
abbrev rm_X6_isAlone : Room := { frames := 1, cells := 0, slots := 0, locals := 24 }
def f_X6_isAlone (S : St) (x1 : Int32) (x2 : Int32) : Option (Int32) :=
  chk (ib (((36 : Int32) * x2) + x1) 10800) ((f_X6_menIn  S (st_A S (ky 0 56) (((36 : Int32) * x2) + x1).toNatClampNeg) x2).bind (fun (q1 : Int32) => (f_X6_bits   q1).bind (fun (q2 : Int32) => if q2 = (1 : Int32) then (some (1 : Int32)) else (some (0 : Int32)))))
set_option maxRecDepth 100000 in
set_option maxHeartbeats 4000000 in
theorem k_X6_isAlone (l : Launch) (g : GG) (hg : gd wd_M g)  (hM : hs wd_M g 0 6) (S : St) (x1 : Int32) (x2 : Int32) (q : Int32) (hf : f_X6_isAlone  S x1 x2 = some q) : Met l yX6_isAlone (Cond.code yX6_isAlone cX6_isAlone 3 (some .boolean) :: gw_tbl) rm_X6_isAlone (va_Pc [.ref (gg_o g 0), .int x1, .int x2] (wI wd_M g S)) (qc_i wd_M g S q) 0 0 (aw g) := by
  refine mt_start (own := RX6) hg (by decide) rfl (Nat.le_of_ble_eq_true rfl) (fun p e s m args below meth c ls H locs cx hw hr hlk hl => ?_)
  have hx := cx.1
  have hb := cx.2.1
  have hown := cx.2.2.2.1
  have hts := cx.2.2.2.2.1
  have hl : lv_has ls 3 [(0, .ref (gg_o g 0)), (1, .int x1), (2, .int x2)] := hl
  replace hf := h_top hf
  unfold f_X6_isAlone at hf
  refine lv_aload_n hx hb dX6_isAlone_0 rfl (lv_at hl 0 rfl) ?_
  refine lv_aload_n hx hb dX6_isAlone_1 rfl (lv_at hl 0 rfl) ?_
  refine gf_X6_131 cx hw hM dX6_isAlone_2 ?_
  refine lv_bipush (v := 36) hx hb dX6_isAlone_5 (by decide) ?_
  refine lv_iload_n hx hb dX6_isAlone_7 rfl (lv_at hl 2 rfl) ?_
  refine lv_imul hx hb dX6_isAlone_8 ?_
  refine lv_iload_n hx hb dX6_isAlone_9 rfl (lv_at hl 1 rfl) ?_
  refine lv_iadd hx hb dX6_isAlone_10 ?_
  refine r_iald cx hw (hM.2.2.1 56 rfl) rfl rfl hf dX6_isAlone_11 (fun hf => ?_)
  refine lv_iload_n hx hb dX6_isAlone_12 rfl (lv_at hl 2 rfl) ?_
  refine r_V_i (As := [.int (st_A S (ky 0 56) (((36 : Int32) * x2) + x1).toNatClampNeg), .int x2]) (rest := []) cx hw hf hM.2.1 (by rw [hM.1]; rfl) lk_X6_366 (fun q1 hq => k_X6_menIn l g hg  hM S (st_A S (ky 0 56) (((36 : Int32) * x2) + x1).toNatClampNeg) x2 q1 hq) ⟨⟨rfl, rfl⟩, Nat.le_of_ble_eq_true rfl, Nat.le_of_ble_eq_true rfl⟩ rfl hl.1 rfl (Nat.le_of_ble_eq_true rfl) dX6_isAlone_13 ⟨Nat.zero_le _, Nat.zero_le _⟩ (fun q1 H locs hw hf => ?_)
  refine r_S_i (As := [.int q1]) (rest := []) cx hw hf lk_X6_369 (fun q2 hq => k_X6_bits l g hg   S q1 q2 hq) ⟨⟨rfl, rfl⟩, Nat.le_of_ble_eq_true rfl, Nat.le_of_ble_eq_true rfl⟩ rfl hl.1 rfl (Nat.le_of_ble_eq_true rfl) dX6_isAlone_16 ⟨Nat.zero_le _, Nat.zero_le _⟩ (fun q2 H locs hw hf => ?_)
  refine lv_iconst (v := 1) hx hb dX6_isAlone_19 (by decide) ?_
  refine lv_icmp_ne hx hb dX6_isAlone_20 (tgt := 27) rfl (fun hc3 => ?_) (fun hc3 => ?_)
  · replace hf := h_neg hc3 hf
    refine lv_iconst (v := 0) hx hb dX6_isAlone_27 (by decide) ?_
    exact r_zret cx hw hr hlk (Or.inl rfl) hf dX6_isAlone_28
  replace hf := h_pos hc3 hf
  refine lv_iconst (v := 1) hx hb dX6_isAlone_23 (by decide) ?_
  refine lv_goto hx hb dX6_isAlone_24 (tgt := 28) rfl ?_
  exact r_zret cx hw hr hlk (Or.inr rfl) hf dX6_isAlone_28
theorem dX6_aloneOf_0 : decode cX6_aloneOf 0 = .ok (.iconst 0, 1) := by decide +kernel
theorem dX6_aloneOf_1 : decode cX6_aloneOf 1 = .ok (.istore_n 2, 1) := by decide +kernel
theorem dX6_aloneOf_2 : decode cX6_aloneOf 2 = .ok (.iconst 0, 1) := by decide +kernel
theorem dX6_aloneOf_3 : decode cX6_aloneOf 3 = .ok (.istore_n 3, 1) := by decide +kernel
theorem dX6_aloneOf_4 : decode cX6_aloneOf 4 = .ok (.iload_n 3, 1) := by decide +kernel
theorem dX6_aloneOf_5 : decode cX6_aloneOf 5 = .ok (.aload_n 0, 1) := by decide +kernel
theorem dX6_aloneOf_6 : decode cX6_aloneOf 6 = .ok (.getfield 348, 3) := by decide +kernel
theorem dX6_aloneOf_9 : decode cX6_aloneOf 9 = .ok (.if_icmp .gt 21, 3) := by decide +kernel
theorem dX6_aloneOf_12 : decode cX6_aloneOf 12 = .ok (.aload_n 0, 1) := by decide +kernel
theorem dX6_aloneOf_13 : decode cX6_aloneOf 13 = .ok (.iload_n 1, 1) := by decide +kernel
theorem dX6_aloneOf_14 : decode cX6_aloneOf 14 = .ok (.iload_n 3, 1) := by decide +kernel
theorem dX6_aloneOf_15 : decode cX6_aloneOf 15 = .ok (.invokevirtual 443, 3) := by decide +kernel
theorem dX6_aloneOf_18 : decode cX6_aloneOf 18 = .ok (.ifCond .eq 6, 3) := by decide +kernel
theorem dX6_aloneOf_21 : decode cX6_aloneOf 21 = .ok (.iinc 2 1, 3) := by decide +kernel
theorem dX6_aloneOf_24 : decode cX6_aloneOf 24 = .ok (.iinc 3 1, 3) := by decide +kernel
theorem dX6_aloneOf_27 : decode cX6_aloneOf 27 = .ok (.goto (-23), 3) := by decide +kernel
theorem dX6_aloneOf_30 : decode cX6_aloneOf 30 = .ok (.iload_n 2, 1) := by decide +kernel
theorem dX6_aloneOf_31 : decode cX6_aloneOf 31 = .ok (.ireturn, 1) := by decide +kernel
abbrev rm_X6_aloneOf : Room := { frames := 2, cells := 0, slots := 0, locals := 46 }
def f_X6_aloneOf_L4 (S : St) (x1 : Int32) (z4 : Int32 × Int32) : Option ((Int32 × Int32) ⊕ (Int32)) :=
  if (st_I S (ky 0 57)) < z4.2 then (some (.inr z4.1)) else ((f_X6_isAlone  S x1 z4.2).bind (fun (q2 : Int32) => if q2 = 0 then (some (.inl (z4.1, (z4.2 + 1)))) else (some (.inl ((z4.1 + 1), (z4.2 + 1))))))
def f_X6_aloneOf (S : St) (x1 : Int32) : Option (Int32) :=
  iter (f_X6_aloneOf_L4  S x1) FU ((0 : Int32), (0 : Int32))
set_option maxRecDepth 100000 in
set_option maxHeartbeats 4000000 in
theorem k_X6_aloneOf (l : Launch) (g : GG) (hg : gd wd_M g)  (hM : hs wd_M g 0 6) (S : St) (x1 : Int32) (q : Int32) (hf : f_X6_aloneOf  S x1 = some q) : Met l yX6_aloneOf (Cond.code yX6_aloneOf cX6_aloneOf 4 (some .int) :: gw_tbl) rm_X6_aloneOf (va_Pc [.ref (gg_o g 0), .int x1] (wI wd_M g S)) (qc_i wd_M g S q) 0 0 (aw g) := by
  refine mt_start (own := RX6) hg (by decide) rfl (Nat.le_of_ble_eq_true rfl) (fun p e s m args below meth c ls H locs cx hw hr hlk hl => ?_)
  have hx := cx.1
  have hb := cx.2.1
  have hown := cx.2.2.2.1
  have hts := cx.2.2.2.2.1
  have hl : lv_has ls 4 [(0, .ref (gg_o g 0)), (1, .int x1)] := hl
  replace hf := h_top hf
  unfold f_X6_aloneOf at hf
  refine lv_iconst (v := 0) hx hb dX6_aloneOf_0 (by decide) ?_
  refine lv_istore_n hx hb dX6_aloneOf_1 rfl hl (by decide) (lv' := [(2, .int (0 : Int32)), (0, .ref (gg_o g 0)), (1, .int x1)]) rfl (fun ls hl => ?_)
  refine lv_iconst (v := 0) hx hb dX6_aloneOf_2 (by decide) ?_
  refine lv_istore_n hx hb dX6_aloneOf_3 rfl hl (by decide) (lv' := [(3, .int (0 : Int32)), (2, .int (0 : Int32)), (0, .ref (gg_o g 0)), (1, .int x1)]) rfl (fun ls hl => ?_)
  have L4 : ∀ (x1 : Int32) (aft4 : Int32 → Option (Int32)), (∀ v : Int32, aft4 v = some q → (some v : Option (Int32)).bind some = some q) → ∀ (n4 : Nat) (ls : Array Slot) (H : Heap) (locs : List Loc) (z4 : Int32 × Int32), lv_has ls 4 [(0, .ref (gg_o g 0)), (1, .int x1), (2, .int z4.1), (3, .int z4.2)] → HH wd_M g s S H locs → (iter (f_X6_aloneOf_L4  S x1) n4 z4).bind aft4 = some q → W p l e rm_X6_aloneOf s m args below meth c H locs 0 0 (MQ below (qc_i wd_M g S q) args s 0 0 (aw g)) (F0 m 4 ls []) := by
    intro x1 aft4 hR4 n4
    induction n4 with
    | zero => intro ls H locs z4 hl hw hf; exact h_iter0 hf
    | succ n4 ih4 =>
      intro ls H locs z4 hl hw hf
      replace hf := h_iter hf
      unfold f_X6_aloneOf_L4 at hf
      refine lv_iload_n hx hb dX6_aloneOf_4 rfl (lv_at hl 3 rfl) ?_
      refine lv_aload_n hx hb dX6_aloneOf_5 rfl (lv_at hl 0 rfl) ?_
      refine gf_X6_348 cx hw hM dX6_aloneOf_6 ?_
      refine lv_icmp_gt hx hb dX6_aloneOf_9 (tgt := 30) rfl (fun hc1 => ?_) (fun hc1 => ?_)
      · replace hf := h_pos hc1 hf
        refine lv_iload_n hx hb dX6_aloneOf_30 rfl (lv_at hl 2 rfl) ?_
        replace hf := hR4 z4.1 hf
        exact r_iret cx hw hr hlk hf dX6_aloneOf_31
      replace hf := h_neg hc1 hf
      refine lv_aload_n hx hb dX6_aloneOf_12 rfl (lv_at hl 0 rfl) ?_
      refine lv_iload_n hx hb dX6_aloneOf_13 rfl (lv_at hl 1 rfl) ?_
      refine lv_iload_n hx hb dX6_aloneOf_14 rfl (lv_at hl 3 rfl) ?_
      refine r_V_i (As := [.int x1, .int z4.2]) (rest := []) cx hw hf hM.2.1 (by rw [hM.1]; rfl) lk_X6_443 (fun q2 hq => k_X6_isAlone l g hg  hM S x1 z4.2 q2 hq) ⟨⟨rfl, rfl⟩, Nat.le_of_ble_eq_true rfl, Nat.le_of_ble_eq_true rfl⟩ rfl hl.1 rfl (Nat.le_of_ble_eq_true rfl) dX6_aloneOf_15 ⟨Nat.zero_le _, Nat.zero_le _⟩ (fun q2 H locs hw hf => ?_)
      refine lv_if_eq hx hb dX6_aloneOf_18 (tgt := 24) rfl (fun hc3 => ?_) (fun hc3 => ?_)
      · replace hf := h_pos hc3 hf
        refine lv_iinc hx hb dX6_aloneOf_24 hl (k := 3) rfl (congrArg (HAdd.hAdd _) (show Int32.ofInt (1) = 1 by decide)) (by decide) (lv' := [(3, .int (z4.2 + 1)), (0, .ref (gg_o g 0)), (1, .int x1), (2, .int z4.1)]) rfl (fun ls hl => ?_)
        refine lv_goto hx hb dX6_aloneOf_27 (tgt := 4) rfl ?_
        exact ih4 _ _ _ (z4.1, (z4.2 + 1)) (lv_sub hl [1, 2, 3, 0] rfl) hw hf
      replace hf := h_neg hc3 hf
      refine lv_iinc hx hb dX6_aloneOf_21 hl (k := 2) rfl (congrArg (HAdd.hAdd _) (show Int32.ofInt (1) = 1 by decide)) (by decide) (lv' := [(2, .int (z4.1 + 1)), (0, .ref (gg_o g 0)), (1, .int x1), (3, .int z4.2)]) rfl (fun ls hl => ?_)
      refine lv_iinc hx hb dX6_aloneOf_24 hl (k := 3) rfl (congrArg (HAdd.hAdd _) (show Int32.ofInt (1) = 1 by decide)) (by decide) (lv' := [(3, .int (z4.2 + 1)), (2, .int (z4.1 + 1)), (0, .ref (gg_o g 0)), (1, .int x1)]) rfl (fun ls hl => ?_)
      refine lv_goto hx hb dX6_aloneOf_27 (tgt := 4) rfl ?_
      exact ih4 _ _ _ ((z4.1 + 1), (z4.2 + 1)) (lv_sub hl [2, 3, 1, 0] rfl) hw hf
  exact L4 x1 some (fun v h => h) FU _ _ _ ((0 : Int32), (0 : Int32)) (lv_sub hl [2, 3, 1, 0] rfl) hw hf
theorem dX6_alone_0 : decode cX6_alone 0 = .ok (.aload_n 0, 1) := by decide +kernel
theorem dX6_alone_1 : decode cX6_alone 1 = .ok (.iload_n 1, 1) := by decide +kernel
theorem dX6_alone_2 : decode cX6_alone 2 = .ok (.invokevirtual 410, 3) := by decide +kernel
theorem dX6_alone_5 : decode cX6_alone 5 = .ok (.ifCond .ne 5, 3) := by decide +kernel
theorem dX6_alone_8 : decode cX6_alone 8 = .ok (.iconst (-1), 1) := by decide +kernel
theorem dX6_alone_9 : decode cX6_alone 9 = .ok (.ireturn, 1) := by decide +kernel
theorem dX6_alone_10 : decode cX6_alone 10 = .ok (.aload_n 0, 1) := by decide +kernel
theorem dX6_alone_11 : decode cX6_alone 11 = .ok (.invokevirtual 419, 3) := by decide +kernel
theorem dX6_alone_14 : decode cX6_alone 14 = .ok (.iload_n 2, 1) := by decide +kernel
theorem dX6_alone_15 : decode cX6_alone 15 = .ok (.ifCond .ne 9, 3) := by decide +kernel
theorem dX6_alone_18 : decode cX6_alone 18 = .ok (.aload_n 0, 1) := by decide +kernel
theorem dX6_alone_19 : decode cX6_alone 19 = .ok (.iload_n 1, 1) := by decide +kernel
theorem dX6_alone_20 : decode cX6_alone 20 = .ok (.invokevirtual 446, 3) := by decide +kernel
theorem dX6_alone_23 : decode cX6_alone 23 = .ok (.ireturn, 1) := by decide +kernel
theorem dX6_alone_24 : decode cX6_alone 24 = .ok (.iconst 0, 1) := by decide +kernel
theorem dX6_alone_25 : decode cX6_alone 25 = .ok (.istore_n 3, 1) := by decide +kernel
theorem dX6_alone_26 : decode cX6_alone 26 = .ok (.iconst 0, 1) := by decide +kernel
theorem dX6_alone_27 : decode cX6_alone 27 = .ok (.istore 4, 2) := by decide +kernel
theorem dX6_alone_29 : decode cX6_alone 29 = .ok (.iconst 0, 1) := by decide +kernel
theorem dX6_alone_30 : decode cX6_alone 30 = .ok (.istore 5, 2) := by decide +kernel
theorem dX6_alone_32 : decode cX6_alone 32 = .ok (.iload 5, 2) := by decide +kernel
theorem dX6_alone_34 : decode cX6_alone 34 = .ok (.aload_n 0, 1) := by decide +kernel
theorem dX6_alone_35 : decode cX6_alone 35 = .ok (.getfield 348, 3) := by decide +kernel
theorem dX6_alone_38 : decode cX6_alone 38 = .ok (.if_icmp .gt 38, 3) := by decide +kernel
theorem dX6_alone_41 : decode cX6_alone 41 = .ok (.aload_n 0, 1) := by decide +kernel
theorem dX6_alone_42 : decode cX6_alone 42 = .ok (.iload_n 1, 1) := by decide +kernel
theorem dX6_alone_43 : decode cX6_alone 43 = .ok (.iload 5, 2) := by decide +kernel
theorem dX6_alone_45 : decode cX6_alone 45 = .ok (.invokevirtual 443, 3) := by decide +kernel
theorem dX6_alone_48 : decode cX6_alone 48 = .ok (.ifCond .eq 10, 3) := by decide +kernel
theorem dX6_alone_51 : decode cX6_alone 51 = .ok (.iload 4, 2) := by decide +kernel
theorem dX6_alone_53 : decode cX6_alone 53 = .ok (.iconst 1, 1) := by decide +kernel
theorem dX6_alone_54 : decode cX6_alone 54 = .ok (.iadd, 1) := by decide +kernel
theorem dX6_alone_55 : decode cX6_alone 55 = .ok (.goto 4, 3) := by decide +kernel
theorem dX6_alone_58 : decode cX6_alone 58 = .ok (.iconst 0, 1) := by decide +kernel
theorem dX6_alone_59 : decode cX6_alone 59 = .ok (.istore 4, 2) := by decide +kernel
theorem dX6_alone_61 : decode cX6_alone 61 = .ok (.iload 4, 2) := by decide +kernel
theorem dX6_alone_63 : decode cX6_alone 63 = .ok (.iload_n 3, 1) := by decide +kernel
theorem dX6_alone_64 : decode cX6_alone 64 = .ok (.if_icmp .le 6, 3) := by decide +kernel
theorem dX6_alone_67 : decode cX6_alone 67 = .ok (.iload 4, 2) := by decide +kernel
theorem dX6_alone_69 : decode cX6_alone 69 = .ok (.istore_n 3, 1) := by decide +kernel
theorem dX6_alone_70 : decode cX6_alone 70 = .ok (.iinc 5 1, 3) := by decide +kernel
theorem dX6_alone_73 : decode cX6_alone 73 = .ok (.goto (-41), 3) := by decide +kernel
theorem dX6_alone_76 : decode cX6_alone 76 = .ok (.iload_n 3, 1) := by decide +kernel
theorem dX6_alone_77 : decode cX6_alone 77 = .ok (.ireturn, 1) := by decide +kernel
abbrev rm_X6_alone : Room := { frames := 3, cells := 0, slots := 0, locals := 69 }
def f_X6_alone_J59 (S : St) (x1 : Int32) (x3 : Int32) (x5 : Int32) (y0 : Int32) : Option ((Int32 × Int32 × Int32) ⊕ (Int32 × St)) :=
  if y0 ≤ x3 then (some (.inl (x3, y0, (x5 + 1)))) else (some (.inl (y0, y0, (x5 + 1))))
def f_X6_alone_L32 (S : St) (x1 : Int32) (z32 : Int32 × Int32 × Int32) : Option ((Int32 × Int32 × Int32) ⊕ (Int32 × St)) :=
  if (st_I S (ky 0 57)) < z32.2.2 then (some (.inr (z32.1, S))) else ((f_X6_isAlone  S x1 z32.2.2).bind (fun (q6 : Int32) => if q6 = 0 then (f_X6_alone_J59  S x1 z32.1 z32.2.2 (0 : Int32)) else (f_X6_alone_J59  S x1 z32.1 z32.2.2 (z32.2.1 + (1 : Int32)))))
def f_X6_alone (S : St) (x1 : Int32) (x2 : Int32) : Option (Int32 × St) :=
  (f_X6_isMan  S x1).bind (fun (q1 : Int32) => if q1 = 0 then (some ((-1 : Int32), S)) else ((f_X6_copies  S ).bind (fun (q3 : St) => if x2 = 0 then ((f_X6_aloneOf  q3 x1).bind (fun (q9 : Int32) => some (q9, q3))) else (iter (f_X6_alone_L32  q3 x1) FU ((0 : Int32), (0 : Int32), (0 : Int32))))))
set_option maxRecDepth 100000 in
set_option maxHeartbeats 4000000 in
theorem k_X6_alone (l : Launch) (g : GG) (hg : gd wd_M g)  (hM : hs wd_M g 0 6) (S : St) (x1 : Int32) (x2 : Int32) (q : Int32 × St) (hf : f_X6_alone  S x1 x2 = some q) : Met l yX6_alone (Cond.code yX6_alone cX6_alone 6 (some .int) :: gw_tbl) rm_X6_alone (va_Pc [.ref (gg_o g 0), .int x1, .int x2] (wI wd_M g S)) (qc_w wd_M g q) 0 0 (aw g) := by
  refine mt_start (own := RX6) hg (by decide) rfl (Nat.le_of_ble_eq_true rfl) (fun p e s m args below meth c ls H locs cx hw hr hlk hl => ?_)
  have hx := cx.1
  have hb := cx.2.1
  have hown := cx.2.2.2.1
  have hts := cx.2.2.2.2.1
  have hl : lv_has ls 6 [(0, .ref (gg_o g 0)), (1, .int x1), (2, .int x2)] := hl
  replace hf := h_top hf
  unfold f_X6_alone at hf
  refine lv_aload_n hx hb dX6_alone_0 rfl (lv_at hl 0 rfl) ?_
  refine lv_iload_n hx hb dX6_alone_1 rfl (lv_at hl 1 rfl) ?_
  refine r_V_i (As := [.int x1]) (rest := []) cx hw hf hM.2.1 (by rw [hM.1]; rfl) lk_X6_410 (fun q1 hq => k_X6_isMan l g hg  hM S x1 q1 hq) ⟨⟨rfl, rfl⟩, Nat.le_of_ble_eq_true rfl, Nat.le_of_ble_eq_true rfl⟩ rfl hl.1 rfl (Nat.le_of_ble_eq_true rfl) dX6_alone_2 ⟨Nat.zero_le _, Nat.zero_le _⟩ (fun q1 H locs hw hf => ?_)
  refine lv_if_ne hx hb dX6_alone_5 (tgt := 10) rfl (fun hc2 => ?_) (fun hc2 => ?_)
  · replace hf := h_neg hc2 hf
    refine lv_aload_n hx hb dX6_alone_10 rfl (lv_at hl 0 rfl) ?_
    refine r_V_v (As := []) (rest := []) cx hw hf hM.2.1 (by rw [hM.1]; rfl) lk_X6_419 (fun q3 hq => k_X6_copies l g hg  hM S  q3 hq) ⟨⟨rfl, rfl⟩, Nat.le_of_ble_eq_true rfl, Nat.le_of_ble_eq_true rfl⟩ rfl hl.1 rfl (Nat.le_of_ble_eq_true rfl) dX6_alone_11 ⟨Nat.zero_le _, Nat.zero_le _⟩ (fun q3 H locs hw hf => ?_)
    refine lv_iload_n hx hb dX6_alone_14 rfl (lv_at hl 2 rfl) ?_
    refine lv_if_ne hx hb dX6_alone_15 (tgt := 24) rfl (fun hc4 => ?_) (fun hc4 => ?_)
    · replace hf := h_neg hc4 hf
      refine lv_iconst (v := 0) hx hb dX6_alone_24 (by decide) ?_
      refine lv_istore_n hx hb dX6_alone_25 rfl hl (by decide) (lv' := [(3, .int (0 : Int32)), (0, .ref (gg_o g 0)), (1, .int x1), (2, .int x2)]) rfl (fun ls hl => ?_)
      refine lv_iconst (v := 0) hx hb dX6_alone_26 (by decide) ?_
      refine lv_istore hx hb dX6_alone_27 hl (by decide) (lv' := [(4, .int (0 : Int32)), (3, .int (0 : Int32)), (0, .ref (gg_o g 0)), (1, .int x1), (2, .int x2)]) rfl (fun ls hl => ?_)
      refine lv_iconst (v := 0) hx hb dX6_alone_29 (by decide) ?_
      refine lv_istore hx hb dX6_alone_30 hl (by decide) (lv' := [(5, .int (0 : Int32)), (4, .int (0 : Int32)), (3, .int (0 : Int32)), (0, .ref (gg_o g 0)), (1, .int x1), (2, .int x2)]) rfl (fun ls hl => ?_)
      have L32 : ∀ (S : St) (x1 : Int32) (aft32 : (Int32 × St) → Option (Int32 × St)), (∀ v : Int32 × St, aft32 v = some q → (some v : Option (Int32 × St)).bind some = some q) → ∀ (n32 : Nat) (ls : Array Slot) (H : Heap) (locs : List Loc) (z32 : Int32 × Int32 × Int32), lv_has ls 6 [(0, .ref (gg_o g 0)), (1, .int x1), (3, .int z32.1), (4, .int z32.2.1), (5, .int z32.2.2)] → HH wd_M g s S H locs → (iter (f_X6_alone_L32  S x1) n32 z32).bind aft32 = some q → W p l e rm_X6_alone s m args below meth c H locs 0 0 (MQ below (qc_w wd_M g q) args s 0 0 (aw g)) (F0 m 32 ls []) := by
        intro S x1 aft32 hR32 n32
        induction n32 with
        | zero => intro ls H locs z32 hl hw hf; exact h_iter0 hf
        | succ n32 ih32 =>
          intro ls H locs z32 hl hw hf
          replace hf := h_iter hf
          unfold f_X6_alone_L32 at hf
          have J59 : ∀ (ls : Array Slot) (H : Heap) (locs : List Loc) (x3 : Int32) (x5 : Int32) (y0 : Int32), lv_has ls 6 [(0, .ref (gg_o g 0)), (1, .int x1), (3, .int x3), (5, .int x5)] → HH wd_M g s S H locs → (f_X6_alone_J59  S x1 x3 x5 y0).bind (it_K (f_X6_alone_L32  S x1) n32 aft32) = some q → W p l e rm_X6_alone s m args below meth c H locs 0 0 (MQ below (qc_w wd_M g q) args s 0 0 (aw g)) (F0 m 59 ls [.int y0]) := by
            intro ls H locs x3 x5 y0 hl hw hf
            unfold f_X6_alone_J59 at hf
            refine lv_istore hx hb dX6_alone_59 hl (by decide) (lv' := [(4, .int y0), (0, .ref (gg_o g 0)), (1, .int x1), (3, .int x3), (5, .int x5)]) rfl (fun ls hl => ?_)
            refine lv_iload hx hb dX6_alone_61 (lv_at hl 0 rfl) ?_
            refine lv_iload_n hx hb dX6_alone_63 rfl (lv_at hl 3 rfl) ?_
            refine lv_icmp_le hx hb dX6_alone_64 (tgt := 70) rfl (fun hc8 => ?_) (fun hc8 => ?_)
            · replace hf := h_pos hc8 hf
              refine lv_iinc hx hb dX6_alone_70 hl (k := 4) rfl (congrArg (HAdd.hAdd _) (show Int32.ofInt (1) = 1 by decide)) (by decide) (lv' := [(5, .int (x5 + 1)), (4, .int y0), (0, .ref (gg_o g 0)), (1, .int x1), (3, .int x3)]) rfl (fun ls hl => ?_)
              refine lv_goto hx hb dX6_alone_73 (tgt := 32) rfl ?_
              exact ih32 _ _ _ (x3, y0, (x5 + 1)) (lv_sub hl [2, 3, 4, 1, 0] rfl) hw hf
            replace hf := h_neg hc8 hf
            refine lv_iload hx hb dX6_alone_67 (lv_at hl 0 rfl) ?_
            refine lv_istore_n hx hb dX6_alone_69 rfl hl (by decide) (lv' := [(3, .int y0), (4, .int y0), (0, .ref (gg_o g 0)), (1, .int x1), (5, .int x5)]) rfl (fun ls hl => ?_)
            refine lv_iinc hx hb dX6_alone_70 hl (k := 4) rfl (congrArg (HAdd.hAdd _) (show Int32.ofInt (1) = 1 by decide)) (by decide) (lv' := [(5, .int (x5 + 1)), (3, .int y0), (4, .int y0), (0, .ref (gg_o g 0)), (1, .int x1)]) rfl (fun ls hl => ?_)
            refine lv_goto hx hb dX6_alone_73 (tgt := 32) rfl ?_
            exact ih32 _ _ _ (y0, y0, (x5 + 1)) (lv_sub hl [3, 4, 1, 2, 0] rfl) hw hf
          refine lv_iload hx hb dX6_alone_32 (lv_at hl 4 rfl) ?_
          refine lv_aload_n hx hb dX6_alone_34 rfl (lv_at hl 0 rfl) ?_
          refine gf_X6_348 cx hw hM dX6_alone_35 ?_
          refine lv_icmp_gt hx hb dX6_alone_38 (tgt := 76) rfl (fun hc5 => ?_) (fun hc5 => ?_)
          · replace hf := h_pos hc5 hf
            refine lv_iload_n hx hb dX6_alone_76 rfl (lv_at hl 2 rfl) ?_
            replace hf := hR32 (z32.1, S) hf
            exact r_iretw cx hw hr hlk hf dX6_alone_77
          replace hf := h_neg hc5 hf
          refine lv_aload_n hx hb dX6_alone_41 rfl (lv_at hl 0 rfl) ?_
          refine lv_iload_n hx hb dX6_alone_42 rfl (lv_at hl 1 rfl) ?_
          refine lv_iload hx hb dX6_alone_43 (lv_at hl 4 rfl) ?_
          refine r_V_i (As := [.int x1, .int z32.2.2]) (rest := []) cx hw hf hM.2.1 (by rw [hM.1]; rfl) lk_X6_443 (fun q6 hq => k_X6_isAlone l g hg  hM S x1 z32.2.2 q6 hq) ⟨⟨rfl, rfl⟩, Nat.le_of_ble_eq_true rfl, Nat.le_of_ble_eq_true rfl⟩ rfl hl.1 rfl (Nat.le_of_ble_eq_true rfl) dX6_alone_45 ⟨Nat.zero_le _, Nat.zero_le _⟩ (fun q6 H locs hw hf => ?_)
          refine lv_if_eq hx hb dX6_alone_48 (tgt := 58) rfl (fun hc7 => ?_) (fun hc7 => ?_)
          · replace hf := h_pos hc7 hf
            refine lv_iconst (v := 0) hx hb dX6_alone_58 (by decide) ?_
            exact J59 _ _ _ z32.1 z32.2.2 (0 : Int32) (lv_sub hl [0, 1, 2, 4] rfl) hw hf
          replace hf := h_neg hc7 hf
          refine lv_iload hx hb dX6_alone_51 (lv_at hl 3 rfl) ?_
          refine lv_iconst (v := 1) hx hb dX6_alone_53 (by decide) ?_
          refine lv_iadd hx hb dX6_alone_54 ?_
          refine lv_goto hx hb dX6_alone_55 (tgt := 59) rfl ?_
          exact J59 _ _ _ z32.1 z32.2.2 (z32.2.1 + (1 : Int32)) (lv_sub hl [0, 1, 2, 4] rfl) hw hf
      exact L32 q3 x1 some (fun v h => h) FU _ _ _ ((0 : Int32), (0 : Int32), (0 : Int32)) (lv_sub hl [3, 4, 2, 1, 0] rfl) hw hf
    replace hf := h_pos hc4 hf
    refine lv_aload_n hx hb dX6_alone_18 rfl (lv_at hl 0 rfl) ?_
    refine lv_iload_n hx hb dX6_alone_19 rfl (lv_at hl 1 rfl) ?_
    refine r_V_i (As := [.int x1]) (rest := []) cx hw hf hM.2.1 (by rw [hM.1]; rfl) lk_X6_446 (fun q9 hq => k_X6_aloneOf l g hg  hM q3 x1 q9 hq) ⟨⟨rfl, rfl⟩, Nat.le_of_ble_eq_true rfl, Nat.le_of_ble_eq_true rfl⟩ rfl hl.1 rfl (Nat.le_of_ble_eq_true rfl) dX6_alone_20 ⟨Nat.zero_le _, Nat.zero_le _⟩ (fun q9 H locs hw hf => ?_)
    exact r_iretw cx hw hr hlk hf dX6_alone_23
  replace hf := h_pos hc2 hf
  refine lv_iconst (v := -1) hx hb dX6_alone_8 (by decide) ?_
  exact r_iretw cx hw hr hlk hf dX6_alone_9
theorem dX6_lonely_0 : decode cX6_lonely 0 = .ok (.aload_n 0, 1) := by decide +kernel
theorem dX6_lonely_1 : decode cX6_lonely 1 = .ok (.getfield 61, 3) := by decide +kernel
theorem dX6_lonely_4 : decode cX6_lonely 4 = .ok (.aload_n 0, 1) := by decide +kernel
theorem dX6_lonely_5 : decode cX6_lonely 5 = .ok (.getfield 257, 3) := by decide +kernel
theorem dX6_lonely_8 : decode cX6_lonely 8 = .ok (.iaload, 1) := by decide +kernel
theorem dX6_lonely_9 : decode cX6_lonely 9 = .ok (.ifCond .ne 6, 3) := by decide +kernel
theorem dX6_lonely_12 : decode cX6_lonely 12 = .ok (.bipush (-2), 2) := by decide +kernel
theorem dX6_lonely_14 : decode cX6_lonely 14 = .ok (.ireturn, 1) := by decide +kernel
theorem dX6_lonely_15 : decode cX6_lonely 15 = .ok (.aload_n 0, 1) := by decide +kernel
theorem dX6_lonely_16 : decode cX6_lonely 16 = .ok (.invokevirtual 419, 3) := by decide +kernel
theorem dX6_lonely_19 : decode cX6_lonely 19 = .ok (.iconst 0, 1) := by decide +kernel
theorem dX6_lonely_20 : decode cX6_lonely 20 = .ok (.istore_n 1, 1) := by decide +kernel
theorem dX6_lonely_21 : decode cX6_lonely 21 = .ok (.iconst 1, 1) := by decide +kernel
theorem dX6_lonely_22 : decode cX6_lonely 22 = .ok (.istore_n 2, 1) := by decide +kernel
theorem dX6_lonely_23 : decode cX6_lonely 23 = .ok (.iload_n 2, 1) := by decide +kernel
theorem dX6_lonely_24 : decode cX6_lonely 24 = .ok (.aload_n 0, 1) := by decide +kernel
theorem dX6_lonely_25 : decode cX6_lonely 25 = .ok (.getfield 61, 3) := by decide +kernel
theorem dX6_lonely_28 : decode cX6_lonely 28 = .ok (.aload_n 0, 1) := by decide +kernel
theorem dX6_lonely_29 : decode cX6_lonely 29 = .ok (.getfield 257, 3) := by decide +kernel
theorem dX6_lonely_32 : decode cX6_lonely 32 = .ok (.iaload, 1) := by decide +kernel
theorem dX6_lonely_33 : decode cX6_lonely 33 = .ok (.if_icmp .ge 24, 3) := by decide +kernel
theorem dX6_lonely_36 : decode cX6_lonely 36 = .ok (.aload_n 0, 1) := by decide +kernel
theorem dX6_lonely_37 : decode cX6_lonely 37 = .ok (.iload_n 2, 1) := by decide +kernel
theorem dX6_lonely_38 : decode cX6_lonely 38 = .ok (.invokevirtual 446, 3) := by decide +kernel
theorem dX6_lonely_41 : decode cX6_lonely 41 = .ok (.aload_n 0, 1) := by decide +kernel
theorem dX6_lonely_42 : decode cX6_lonely 42 = .ok (.iload_n 1, 1) := by decide +kernel
theorem dX6_lonely_43 : decode cX6_lonely 43 = .ok (.invokevirtual 446, 3) := by decide +kernel
theorem dX6_lonely_46 : decode cX6_lonely 46 = .ok (.if_icmp .le 5, 3) := by decide +kernel
theorem dX6_lonely_49 : decode cX6_lonely 49 = .ok (.iload_n 2, 1) := by decide +kernel
theorem dX6_lonely_50 : decode cX6_lonely 50 = .ok (.istore_n 1, 1) := by decide +kernel
theorem dX6_lonely_51 : decode cX6_lonely 51 = .ok (.iinc 2 1, 3) := by decide +kernel
theorem dX6_lonely_54 : decode cX6_lonely 54 = .ok (.goto (-31), 3) := by decide +kernel
theorem dX6_lonely_57 : decode cX6_lonely 57 = .ok (.iload_n 1, 1) := by decide +kernel
theorem dX6_lonely_58 : decode cX6_lonely 58 = .ok (.ireturn, 1) := by decide +kernel
abbrev rm_X6_lonely : Room := { frames := 3, cells := 0, slots := 0, locals := 69 }
def f_X6_lonely_L23 (S : St)  (z23 : Int32 × Int32) : Option ((Int32 × Int32) ⊕ (Int32 × St)) :=
  chk (ib (st_I S (ky 0 18)) 2) (if (st_A S (ky 0 28) (st_I S (ky 0 18)).toNatClampNeg) ≤ z23.2 then (some (.inr (z23.1, S))) else ((f_X6_aloneOf  S z23.2).bind (fun (q4 : Int32) => (f_X6_aloneOf  S z23.1).bind (fun (q5 : Int32) => if q4 ≤ q5 then (some (.inl (z23.1, (z23.2 + 1)))) else (some (.inl (z23.2, (z23.2 + 1))))))))
def f_X6_lonely (S : St)  : Option (Int32 × St) :=
  chk (ib (st_I S (ky 0 18)) 2) (if (st_A S (ky 0 28) (st_I S (ky 0 18)).toNatClampNeg) = 0 then (some ((-2 : Int32), S)) else ((f_X6_copies  S ).bind (fun (q2 : St) => iter (f_X6_lonely_L23  q2 ) FU ((0 : Int32), (1 : Int32)))))
set_option maxRecDepth 100000 in
set_option maxHeartbeats 4000000 in
theorem k_X6_lonely (l : Launch) (g : GG) (hg : gd wd_M g)  (hM : hs wd_M g 0 6) (S : St)  (q : Int32 × St) (hf : f_X6_lonely  S  = some q) : Met l yX6_lonely (Cond.code yX6_lonely cX6_lonely 3 (some .int) :: gw_tbl) rm_X6_lonely (va_Pc [.ref (gg_o g 0)] (wI wd_M g S)) (qc_w wd_M g q) 0 0 (aw g) := by
  refine mt_start (own := RX6) hg (by decide) rfl (Nat.le_of_ble_eq_true rfl) (fun p e s m args below meth c ls H locs cx hw hr hlk hl => ?_)
  have hx := cx.1
  have hb := cx.2.1
  have hown := cx.2.2.2.1
  have hts := cx.2.2.2.2.1
  have hl : lv_has ls 3 [(0, .ref (gg_o g 0))] := hl
  replace hf := h_top hf
  unfold f_X6_lonely at hf
  refine lv_aload_n hx hb dX6_lonely_0 rfl (lv_at hl 0 rfl) ?_
  refine gf_X6_61 cx hw hM dX6_lonely_1 ?_
  refine lv_aload_n hx hb dX6_lonely_4 rfl (lv_at hl 0 rfl) ?_
  refine gf_X6_257 cx hw hM dX6_lonely_5 ?_
  refine r_iald cx hw (hM.2.2.1 28 rfl) rfl rfl hf dX6_lonely_8 (fun hf => ?_)
  refine lv_if_ne hx hb dX6_lonely_9 (tgt := 15) rfl (fun hc1 => ?_) (fun hc1 => ?_)
  · replace hf := h_neg hc1 hf
    refine lv_aload_n hx hb dX6_lonely_15 rfl (lv_at hl 0 rfl) ?_
    refine r_V_v (As := []) (rest := []) cx hw hf hM.2.1 (by rw [hM.1]; rfl) lk_X6_419 (fun q2 hq => k_X6_copies l g hg  hM S  q2 hq) ⟨⟨rfl, rfl⟩, Nat.le_of_ble_eq_true rfl, Nat.le_of_ble_eq_true rfl⟩ rfl hl.1 rfl (Nat.le_of_ble_eq_true rfl) dX6_lonely_16 ⟨Nat.zero_le _, Nat.zero_le _⟩ (fun q2 H locs hw hf => ?_)
    refine lv_iconst (v := 0) hx hb dX6_lonely_19 (by decide) ?_
    refine lv_istore_n hx hb dX6_lonely_20 rfl hl (by decide) (lv' := [(1, .int (0 : Int32)), (0, .ref (gg_o g 0))]) rfl (fun ls hl => ?_)
    refine lv_iconst (v := 1) hx hb dX6_lonely_21 (by decide) ?_
    refine lv_istore_n hx hb dX6_lonely_22 rfl hl (by decide) (lv' := [(2, .int (1 : Int32)), (1, .int (0 : Int32)), (0, .ref (gg_o g 0))]) rfl (fun ls hl => ?_)
    have L23 : ∀ (S : St)  (aft23 : (Int32 × St) → Option (Int32 × St)), (∀ v : Int32 × St, aft23 v = some q → (some v : Option (Int32 × St)).bind some = some q) → ∀ (n23 : Nat) (ls : Array Slot) (H : Heap) (locs : List Loc) (z23 : Int32 × Int32), lv_has ls 3 [(0, .ref (gg_o g 0)), (1, .int z23.1), (2, .int z23.2)] → HH wd_M g s S H locs → (iter (f_X6_lonely_L23  S ) n23 z23).bind aft23 = some q → W p l e rm_X6_lonely s m args below meth c H locs 0 0 (MQ below (qc_w wd_M g q) args s 0 0 (aw g)) (F0 m 23 ls []) := by
      intro S aft23 hR23 n23
      induction n23 with
      | zero => intro ls H locs z23 hl hw hf; exact h_iter0 hf
      | succ n23 ih23 =>
        intro ls H locs z23 hl hw hf
        replace hf := h_iter hf
        unfold f_X6_lonely_L23 at hf
        refine lv_iload_n hx hb dX6_lonely_23 rfl (lv_at hl 2 rfl) ?_
        refine lv_aload_n hx hb dX6_lonely_24 rfl (lv_at hl 0 rfl) ?_
        refine gf_X6_61 cx hw hM dX6_lonely_25 ?_
        refine lv_aload_n hx hb dX6_lonely_28 rfl (lv_at hl 0 rfl) ?_
        refine gf_X6_257 cx hw hM dX6_lonely_29 ?_
        refine r_iald cx hw (hM.2.2.1 28 rfl) rfl rfl hf dX6_lonely_32 (fun hf => ?_)
        refine lv_icmp_ge hx hb dX6_lonely_33 (tgt := 57) rfl (fun hc3 => ?_) (fun hc3 => ?_)
        · replace hf := h_pos hc3 hf
          refine lv_iload_n hx hb dX6_lonely_57 rfl (lv_at hl 1 rfl) ?_
          replace hf := hR23 (z23.1, S) hf
          exact r_iretw cx hw hr hlk hf dX6_lonely_58
        replace hf := h_neg hc3 hf
        refine lv_aload_n hx hb dX6_lonely_36 rfl (lv_at hl 0 rfl) ?_
        refine lv_iload_n hx hb dX6_lonely_37 rfl (lv_at hl 2 rfl) ?_
        refine r_V_i (As := [.int z23.2]) (rest := []) cx hw hf hM.2.1 (by rw [hM.1]; rfl) lk_X6_446 (fun q4 hq => k_X6_aloneOf l g hg  hM S z23.2 q4 hq) ⟨⟨rfl, rfl⟩, Nat.le_of_ble_eq_true rfl, Nat.le_of_ble_eq_true rfl⟩ rfl hl.1 rfl (Nat.le_of_ble_eq_true rfl) dX6_lonely_38 ⟨Nat.zero_le _, Nat.zero_le _⟩ (fun q4 H locs hw hf => ?_)
        refine lv_aload_n hx hb dX6_lonely_41 rfl (lv_at hl 0 rfl) ?_
        refine lv_iload_n hx hb dX6_lonely_42 rfl (lv_at hl 1 rfl) ?_
        refine r_V_i (As := [.int z23.1]) (rest := [.int q4]) cx hw hf hM.2.1 (by rw [hM.1]; rfl) lk_X6_446 (fun q5 hq => k_X6_aloneOf l g hg  hM S z23.1 q5 hq) ⟨⟨rfl, rfl⟩, Nat.le_of_ble_eq_true rfl, Nat.le_of_ble_eq_true rfl⟩ rfl hl.1 rfl (Nat.le_of_ble_eq_true rfl) dX6_lonely_43 ⟨Nat.zero_le _, Nat.zero_le _⟩ (fun q5 H locs hw hf => ?_)
        refine lv_icmp_le hx hb dX6_lonely_46 (tgt := 51) rfl (fun hc6 => ?_) (fun hc6 => ?_)
        · replace hf := h_pos hc6 hf
          refine lv_iinc hx hb dX6_lonely_51 hl (k := 2) rfl (congrArg (HAdd.hAdd _) (show Int32.ofInt (1) = 1 by decide)) (by decide) (lv' := [(2, .int (z23.2 + 1)), (0, .ref (gg_o g 0)), (1, .int z23.1)]) rfl (fun ls hl => ?_)
          refine lv_goto hx hb dX6_lonely_54 (tgt := 23) rfl ?_
          exact ih23 _ _ _ (z23.1, (z23.2 + 1)) (lv_sub hl [1, 2, 0] rfl) hw hf
        replace hf := h_neg hc6 hf
        refine lv_iload_n hx hb dX6_lonely_49 rfl (lv_at hl 2 rfl) ?_
        refine lv_istore_n hx hb dX6_lonely_50 rfl hl (by decide) (lv' := [(1, .int z23.2), (0, .ref (gg_o g 0)), (2, .int z23.2)]) rfl (fun ls hl => ?_)
        refine lv_iinc hx hb dX6_lonely_51 hl (k := 2) rfl (congrArg (HAdd.hAdd _) (show Int32.ofInt (1) = 1 by decide)) (by decide) (lv' := [(2, .int (z23.2 + 1)), (1, .int z23.2), (0, .ref (gg_o g 0))]) rfl (fun ls hl => ?_)
        refine lv_goto hx hb dX6_lonely_54 (tgt := 23) rfl ?_
        exact ih23 _ _ _ (z23.2, (z23.2 + 1)) (lv_sub hl [2, 1, 0] rfl) hw hf
    exact L23 q2 some (fun v h => h) FU _ _ _ ((0 : Int32), (1 : Int32)) (lv_sub hl [2, 1, 0] rfl) hw hf
  replace hf := h_pos hc1 hf
  refine lv_bipush (v := -2) hx hb dX6_lonely_12 (by decide) ?_
  exact r_iretw cx hw hr hlk hf dX6_lonely_14
theorem dX6_together_0 : decode cX6_together 0 = .ok (.aload_n 0, 1) := by decide +kernel
theorem dX6_together_1 : decode cX6_together 1 = .ok (.iload_n 1, 1) := by decide +kernel
theorem dX6_together_2 : decode cX6_together 2 = .ok (.invokevirtual 410, 3) := by decide +kernel
theorem dX6_together_5 : decode cX6_together 5 = .ok (.ifCond .eq 25, 3) := by decide +kernel
theorem dX6_together_8 : decode cX6_together 8 = .ok (.aload_n 0, 1) := by decide +kernel
theorem dX6_together_9 : decode cX6_together 9 = .ok (.iload_n 2, 1) := by decide +kernel
theorem dX6_together_10 : decode cX6_together 10 = .ok (.invokevirtual 410, 3) := by decide +kernel
theorem dX6_together_13 : decode cX6_together 13 = .ok (.ifCond .eq 17, 3) := by decide +kernel
theorem dX6_together_16 : decode cX6_together 16 = .ok (.iload_n 1, 1) := by decide +kernel
theorem dX6_together_17 : decode cX6_together 17 = .ok (.iload_n 2, 1) := by decide +kernel
theorem dX6_together_18 : decode cX6_together 18 = .ok (.if_icmp .eq 12, 3) := by decide +kernel
theorem dX6_together_21 : decode cX6_together 21 = .ok (.iload_n 3, 1) := by decide +kernel
theorem dX6_together_22 : decode cX6_together 22 = .ok (.iconst 0, 1) := by decide +kernel
theorem dX6_together_23 : decode cX6_together 23 = .ok (.iconst 1, 1) := by decide +kernel
theorem dX6_together_24 : decode cX6_together 24 = .ok (.invokestatic 341, 3) := by decide +kernel
theorem dX6_together_27 : decode cX6_together 27 = .ok (.ifCond .ne 5, 3) := by decide +kernel
theorem dX6_together_30 : decode cX6_together 30 = .ok (.iconst (-1), 1) := by decide +kernel
theorem dX6_together_31 : decode cX6_together 31 = .ok (.ireturn, 1) := by decide +kernel
theorem dX6_together_32 : decode cX6_together 32 = .ok (.iconst 0, 1) := by decide +kernel
theorem dX6_together_33 : decode cX6_together 33 = .ok (.istore 4, 2) := by decide +kernel
theorem dX6_together_35 : decode cX6_together 35 = .ok (.bipush (-2), 2) := by decide +kernel
theorem dX6_together_37 : decode cX6_together 37 = .ok (.istore 5, 2) := by decide +kernel
theorem dX6_together_39 : decode cX6_together 39 = .ok (.iconst 0, 1) := by decide +kernel
theorem dX6_together_40 : decode cX6_together 40 = .ok (.istore 6, 2) := by decide +kernel
theorem dX6_together_42 : decode cX6_together 42 = .ok (.iload 6, 2) := by decide +kernel
theorem dX6_together_44 : decode cX6_together 44 = .ok (.aload_n 0, 1) := by decide +kernel
theorem dX6_together_45 : decode cX6_together 45 = .ok (.getfield 345, 3) := by decide +kernel
theorem dX6_together_48 : decode cX6_together 48 = .ok (.if_icmp .gt 46, 3) := by decide +kernel
theorem dX6_together_51 : decode cX6_together 51 = .ok (.aload_n 0, 1) := by decide +kernel
theorem dX6_together_52 : decode cX6_together 52 = .ok (.getfield 122, 3) := by decide +kernel
theorem dX6_together_55 : decode cX6_together 55 = .ok (.bipush 36, 2) := by decide +kernel
theorem dX6_together_57 : decode cX6_together 57 = .ok (.iload 6, 2) := by decide +kernel
theorem dX6_together_59 : decode cX6_together 59 = .ok (.imul, 1) := by decide +kernel
theorem dX6_together_60 : decode cX6_together 60 = .ok (.iload_n 1, 1) := by decide +kernel
theorem dX6_together_61 : decode cX6_together 61 = .ok (.iadd, 1) := by decide +kernel
theorem dX6_together_62 : decode cX6_together 62 = .ok (.iaload, 1) := by decide +kernel
theorem dX6_together_63 : decode cX6_together 63 = .ok (.aload_n 0, 1) := by decide +kernel
theorem dX6_together_64 : decode cX6_together 64 = .ok (.getfield 122, 3) := by decide +kernel
theorem dX6_together_67 : decode cX6_together 67 = .ok (.bipush 36, 2) := by decide +kernel
theorem dX6_together_69 : decode cX6_together 69 = .ok (.iload 6, 2) := by decide +kernel
theorem dX6_together_71 : decode cX6_together 71 = .ok (.imul, 1) := by decide +kernel
theorem dX6_together_72 : decode cX6_together 72 = .ok (.iload_n 2, 1) := by decide +kernel
theorem dX6_together_73 : decode cX6_together 73 = .ok (.iadd, 1) := by decide +kernel
theorem dX6_together_74 : decode cX6_together 74 = .ok (.iaload, 1) := by decide +kernel
theorem dX6_together_75 : decode cX6_together 75 = .ok (.if_icmp .eq 6, 3) := by decide +kernel
theorem dX6_together_78 : decode cX6_together 78 = .ok (.goto 10, 3) := by decide +kernel
theorem dX6_together_81 : decode cX6_together 81 = .ok (.iinc 4 1, 3) := by decide +kernel
theorem dX6_together_84 : decode cX6_together 84 = .ok (.iload 6, 2) := by decide +kernel
theorem dX6_together_86 : decode cX6_together 86 = .ok (.istore 5, 2) := by decide +kernel
theorem dX6_together_88 : decode cX6_together 88 = .ok (.iinc 6 1, 3) := by decide +kernel
theorem dX6_together_91 : decode cX6_together 91 = .ok (.goto (-49), 3) := by decide +kernel
theorem dX6_together_94 : decode cX6_together 94 = .ok (.iload_n 3, 1) := by decide +kernel
theorem dX6_together_95 : decode cX6_together 95 = .ok (.ifCond .ne 8, 3) := by decide +kernel
theorem dX6_together_98 : decode cX6_together 98 = .ok (.iload 4, 2) := by decide +kernel
theorem dX6_together_100 : decode cX6_together 100 = .ok (.goto 5, 3) := by decide +kernel
theorem dX6_together_103 : decode cX6_together 103 = .ok (.iload 5, 2) := by decide +kernel
theorem dX6_together_105 : decode cX6_together 105 = .ok (.ireturn, 1) := by decide +kernel
abbrev rm_X6_together : Room := { frames := 2, cells := 0, slots := 0, locals := 43 }
def f_X6_together_L42 (S : St) (x1 : Int32) (x2 : Int32) (x3 : Int32) (z42 : Int32 × Int32 × Int32) : Option ((Int32 × Int32 × Int32) ⊕ (Int32 × Int32)) :=
  if (st_I S (ky 0 53)) < z42.2.2 then (some (.inr (z42.1, z42.2.1))) else (chk (ib (((36 : Int32) * z42.2.2) + x1) 10800) (chk (ib (((36 : Int32) * z42.2.2) + x2) 10800) (if (st_A S (ky 0 52) (((36 : Int32) * z42.2.2) + x1).toNatClampNeg) = (st_A S (ky 0 52) (((36 : Int32) * z42.2.2) + x2).toNatClampNeg) then (some (.inl ((z42.1 + 1), z42.2.2, (z42.2.2 + 1)))) else (some (.inl (z42.1, z42.2.1, (z42.2.2 + 1)))))))
def f_X6_together (S : St) (x1 : Int32) (x2 : Int32) (x3 : Int32) : Option (Int32) :=
  (f_X6_isMan  S x1).bind (fun (q1 : Int32) => if q1 = 0 then (some (-1 : Int32)) else ((f_X6_isMan  S x2).bind (fun (q3 : Int32) => if q3 = 0 then (some (-1 : Int32)) else (if x1 = x2 then (some (-1 : Int32)) else ((f_X6_in   x3 (0 : Int32) (1 : Int32)).bind (fun (q6 : Int32) => if q6 = 0 then (some (-1 : Int32)) else ((iter (f_X6_together_L42  S x1 x2 x3) FU ((0 : Int32), (-2 : Int32), (0 : Int32))).bind (fun (u13 : Int32 × Int32) => (fun (e10 : Int32) (e11 : Int32) => if x3 = 0 then (some e10) else (some e11)) u13.1 u13.2))))))))
set_option maxRecDepth 100000 in
set_option maxHeartbeats 4000000 in
theorem k_X6_together (l : Launch) (g : GG) (hg : gd wd_M g)  (hM : hs wd_M g 0 6) (S : St) (x1 : Int32) (x2 : Int32) (x3 : Int32) (q : Int32) (hf : f_X6_together  S x1 x2 x3 = some q) : Met l yX6_together (Cond.code yX6_together cX6_together 7 (some .int) :: gw_tbl) rm_X6_together (va_Pc [.ref (gg_o g 0), .int x1, .int x2, .int x3] (wI wd_M g S)) (qc_i wd_M g S q) 0 0 (aw g) := by
  refine mt_start (own := RX6) hg (by decide) rfl (Nat.le_of_ble_eq_true rfl) (fun p e s m args below meth c ls H locs cx hw hr hlk hl => ?_)
  have hx := cx.1
  have hb := cx.2.1
  have hown := cx.2.2.2.1
  have hts := cx.2.2.2.2.1
  have hl : lv_has ls 7 [(0, .ref (gg_o g 0)), (1, .int x1), (2, .int x2), (3, .int x3)] := hl
  replace hf := h_top hf
  unfold f_X6_together at hf
  refine lv_aload_n hx hb dX6_together_0 rfl (lv_at hl 0 rfl) ?_
  refine lv_iload_n hx hb dX6_together_1 rfl (lv_at hl 1 rfl) ?_
  refine r_V_i (As := [.int x1]) (rest := []) cx hw hf hM.2.1 (by rw [hM.1]; rfl) lk_X6_410 (fun q1 hq => k_X6_isMan l g hg  hM S x1 q1 hq) ⟨⟨rfl, rfl⟩, Nat.le_of_ble_eq_true rfl, Nat.le_of_ble_eq_true rfl⟩ rfl hl.1 rfl (Nat.le_of_ble_eq_true rfl) dX6_together_2 ⟨Nat.zero_le _, Nat.zero_le _⟩ (fun q1 H locs hw hf => ?_)
  refine lv_if_eq hx hb dX6_together_5 (tgt := 30) rfl (fun hc2 => ?_) (fun hc2 => ?_)
  · replace hf := h_pos hc2 hf
    refine lv_iconst (v := -1) hx hb dX6_together_30 (by decide) ?_
    exact r_iret cx hw hr hlk hf dX6_together_31
  replace hf := h_neg hc2 hf
  refine lv_aload_n hx hb dX6_together_8 rfl (lv_at hl 0 rfl) ?_
  refine lv_iload_n hx hb dX6_together_9 rfl (lv_at hl 2 rfl) ?_
  refine r_V_i (As := [.int x2]) (rest := []) cx hw hf hM.2.1 (by rw [hM.1]; rfl) lk_X6_410 (fun q3 hq => k_X6_isMan l g hg  hM S x2 q3 hq) ⟨⟨rfl, rfl⟩, Nat.le_of_ble_eq_true rfl, Nat.le_of_ble_eq_true rfl⟩ rfl hl.1 rfl (Nat.le_of_ble_eq_true rfl) dX6_together_10 ⟨Nat.zero_le _, Nat.zero_le _⟩ (fun q3 H locs hw hf => ?_)
  refine lv_if_eq hx hb dX6_together_13 (tgt := 30) rfl (fun hc4 => ?_) (fun hc4 => ?_)
  · replace hf := h_pos hc4 hf
    refine lv_iconst (v := -1) hx hb dX6_together_30 (by decide) ?_
    exact r_iret cx hw hr hlk hf dX6_together_31
  replace hf := h_neg hc4 hf
  refine lv_iload_n hx hb dX6_together_16 rfl (lv_at hl 1 rfl) ?_
  refine lv_iload_n hx hb dX6_together_17 rfl (lv_at hl 2 rfl) ?_
  refine lv_icmp_eq hx hb dX6_together_18 (tgt := 30) rfl (fun hc5 => ?_) (fun hc5 => ?_)
  · replace hf := h_pos hc5 hf
    refine lv_iconst (v := -1) hx hb dX6_together_30 (by decide) ?_
    exact r_iret cx hw hr hlk hf dX6_together_31
  replace hf := h_neg hc5 hf
  refine lv_iload_n hx hb dX6_together_21 rfl (lv_at hl 3 rfl) ?_
  refine lv_iconst (v := 0) hx hb dX6_together_22 (by decide) ?_
  refine lv_iconst (v := 1) hx hb dX6_together_23 (by decide) ?_
  refine r_S_i (As := [.int x3, .int (0 : Int32), .int (1 : Int32)]) (rest := []) cx hw hf lk_X6_341 (fun q6 hq => k_X6_in l g hg   S x3 (0 : Int32) (1 : Int32) q6 hq) ⟨⟨rfl, rfl⟩, Nat.le_of_ble_eq_true rfl, Nat.le_of_ble_eq_true rfl⟩ rfl hl.1 rfl (Nat.le_of_ble_eq_true rfl) dX6_together_24 ⟨Nat.zero_le _, Nat.zero_le _⟩ (fun q6 H locs hw hf => ?_)
  refine lv_if_ne hx hb dX6_together_27 (tgt := 32) rfl (fun hc7 => ?_) (fun hc7 => ?_)
  · replace hf := h_neg hc7 hf
    refine lv_iconst (v := 0) hx hb dX6_together_32 (by decide) ?_
    refine lv_istore hx hb dX6_together_33 hl (by decide) (lv' := [(4, .int (0 : Int32)), (0, .ref (gg_o g 0)), (1, .int x1), (2, .int x2), (3, .int x3)]) rfl (fun ls hl => ?_)
    refine lv_bipush (v := -2) hx hb dX6_together_35 (by decide) ?_
    refine lv_istore hx hb dX6_together_37 hl (by decide) (lv' := [(5, .int (-2 : Int32)), (4, .int (0 : Int32)), (0, .ref (gg_o g 0)), (1, .int x1), (2, .int x2), (3, .int x3)]) rfl (fun ls hl => ?_)
    refine lv_iconst (v := 0) hx hb dX6_together_39 (by decide) ?_
    refine lv_istore hx hb dX6_together_40 hl (by decide) (lv' := [(6, .int (0 : Int32)), (5, .int (-2 : Int32)), (4, .int (0 : Int32)), (0, .ref (gg_o g 0)), (1, .int x1), (2, .int x2), (3, .int x3)]) rfl (fun ls hl => ?_)
    have L42 : ∀ (x1 : Int32) (x2 : Int32) (x3 : Int32) (aft42 : (Int32 × Int32) → Option (Int32)), (∀ (ls : Array Slot) (H : Heap) (locs : List Loc) (e4 : Int32) (e5 : Int32), lv_has ls 7 [(3, .int x3), (4, .int e4), (5, .int e5)] → HH wd_M g s S H locs → aft42 (e4, e5) = some q → W p l e rm_X6_together s m args below meth c H locs 0 0 (MQ below (qc_i wd_M g S q) args s 0 0 (aw g)) (F0 m 94 ls [])) → ∀ (n42 : Nat) (ls : Array Slot) (H : Heap) (locs : List Loc) (z42 : Int32 × Int32 × Int32), lv_has ls 7 [(0, .ref (gg_o g 0)), (1, .int x1), (2, .int x2), (3, .int x3), (4, .int z42.1), (5, .int z42.2.1), (6, .int z42.2.2)] → HH wd_M g s S H locs → (iter (f_X6_together_L42  S x1 x2 x3) n42 z42).bind aft42 = some q → W p l e rm_X6_together s m args below meth c H locs 0 0 (MQ below (qc_i wd_M g S q) args s 0 0 (aw g)) (F0 m 42 ls []) := by
      intro x1 x2 x3 aft42 hX42 n42
      induction n42 with
      | zero => intro ls H locs z42 hl hw hf; exact h_iter0 hf
      | succ n42 ih42 =>
        intro ls H locs z42 hl hw hf
        replace hf := h_iter hf
        unfold f_X6_together_L42 at hf
        refine lv_iload hx hb dX6_together_42 (lv_at hl 6 rfl) ?_
        refine lv_aload_n hx hb dX6_together_44 rfl (lv_at hl 0 rfl) ?_
        refine gf_X6_345 cx hw hM dX6_together_45 ?_
        refine lv_icmp_gt hx hb dX6_together_48 (tgt := 94) rfl (fun hc8 => ?_) (fun hc8 => ?_)
        · replace hf := h_pos hc8 hf
          exact hX42 _ _ _ z42.1 z42.2.1 (lv_sub hl [3, 4, 5] rfl) hw hf
        replace hf := h_neg hc8 hf
        refine lv_aload_n hx hb dX6_together_51 rfl (lv_at hl 0 rfl) ?_
        refine gf_X6_122 cx hw hM dX6_together_52 ?_
        refine lv_bipush (v := 36) hx hb dX6_together_55 (by decide) ?_
        refine lv_iload hx hb dX6_together_57 (lv_at hl 6 rfl) ?_
        refine lv_imul hx hb dX6_together_59 ?_
        refine lv_iload_n hx hb dX6_together_60 rfl (lv_at hl 1 rfl) ?_
        refine lv_iadd hx hb dX6_together_61 ?_
        refine r_iald cx hw (hM.2.2.1 52 rfl) rfl rfl hf dX6_together_62 (fun hf => ?_)
        refine lv_aload_n hx hb dX6_together_63 rfl (lv_at hl 0 rfl) ?_
        refine gf_X6_122 cx hw hM dX6_together_64 ?_
        refine lv_bipush (v := 36) hx hb dX6_together_67 (by decide) ?_
        refine lv_iload hx hb dX6_together_69 (lv_at hl 6 rfl) ?_
        refine lv_imul hx hb dX6_together_71 ?_
        refine lv_iload_n hx hb dX6_together_72 rfl (lv_at hl 2 rfl) ?_
        refine lv_iadd hx hb dX6_together_73 ?_
        refine r_iald cx hw (hM.2.2.1 52 rfl) rfl rfl hf dX6_together_74 (fun hf => ?_)
        refine lv_icmp_eq hx hb dX6_together_75 (tgt := 81) rfl (fun hc9 => ?_) (fun hc9 => ?_)
        · replace hf := h_pos hc9 hf
          refine lv_iinc hx hb dX6_together_81 hl (k := 4) rfl (congrArg (HAdd.hAdd _) (show Int32.ofInt (1) = 1 by decide)) (by decide) (lv' := [(4, .int (z42.1 + 1)), (0, .ref (gg_o g 0)), (1, .int x1), (2, .int x2), (3, .int x3), (5, .int z42.2.1), (6, .int z42.2.2)]) rfl (fun ls hl => ?_)
          refine lv_iload hx hb dX6_together_84 (lv_at hl 6 rfl) ?_
          refine lv_istore hx hb dX6_together_86 hl (by decide) (lv' := [(5, .int z42.2.2), (4, .int (z42.1 + 1)), (0, .ref (gg_o g 0)), (1, .int x1), (2, .int x2), (3, .int x3), (6, .int z42.2.2)]) rfl (fun ls hl => ?_)
          refine lv_iinc hx hb dX6_together_88 hl (k := 6) rfl (congrArg (HAdd.hAdd _) (show Int32.ofInt (1) = 1 by decide)) (by decide) (lv' := [(6, .int (z42.2.2 + 1)), (5, .int z42.2.2), (4, .int (z42.1 + 1)), (0, .ref (gg_o g 0)), (1, .int x1), (2, .int x2), (3, .int x3)]) rfl (fun ls hl => ?_)
          refine lv_goto hx hb dX6_together_91 (tgt := 42) rfl ?_
          exact ih42 _ _ _ ((z42.1 + 1), z42.2.2, (z42.2.2 + 1)) (lv_sub hl [3, 4, 5, 6, 2, 1, 0] rfl) hw hf
        replace hf := h_neg hc9 hf
        refine lv_goto hx hb dX6_together_78 (tgt := 88) rfl ?_
        refine lv_iinc hx hb dX6_together_88 hl (k := 6) rfl (congrArg (HAdd.hAdd _) (show Int32.ofInt (1) = 1 by decide)) (by decide) (lv' := [(6, .int (z42.2.2 + 1)), (0, .ref (gg_o g 0)), (1, .int x1), (2, .int x2), (3, .int x3), (4, .int z42.1), (5, .int z42.2.1)]) rfl (fun ls hl => ?_)
        refine lv_goto hx hb dX6_together_91 (tgt := 42) rfl ?_
        exact ih42 _ _ _ (z42.1, z42.2.1, (z42.2.2 + 1)) (lv_sub hl [1, 2, 3, 4, 5, 6, 0] rfl) hw hf
    refine L42 x1 x2 x3 _ (fun ls H locs e10 e11 hl hw hf => ?_) FU _ _ _ ((0 : Int32), (-2 : Int32), (0 : Int32)) (lv_sub hl [3, 4, 5, 6, 2, 1, 0] rfl) hw (h_assoc hf)
    try dsimp only at hf
    refine lv_iload_n hx hb dX6_together_94 rfl (lv_at hl 0 rfl) ?_
    refine lv_if_ne hx hb dX6_together_95 (tgt := 103) rfl (fun hc12 => ?_) (fun hc12 => ?_)
    · replace hf := h_neg hc12 hf
      refine lv_iload hx hb dX6_together_103 (lv_at hl 2 rfl) ?_
      exact r_iret cx hw hr hlk hf dX6_together_105
    replace hf := h_pos hc12 hf
    refine lv_iload hx hb dX6_together_98 (lv_at hl 1 rfl) ?_
    refine lv_goto hx hb dX6_together_100 (tgt := 105) rfl ?_
    exact r_iret cx hw hr hlk hf dX6_together_105
  replace hf := h_pos hc7 hf
  refine lv_iconst (v := -1) hx hb dX6_together_30 (by decide) ?_
  exact r_iret cx hw hr hlk hf dX6_together_31
theorem dX6_isGlimpsed_0 : decode cX6_isGlimpsed 0 = .ok (.iconst 0, 1) := by decide +kernel
theorem dX6_isGlimpsed_1 : decode cX6_isGlimpsed 1 = .ok (.istore 4, 2) := by decide +kernel
theorem dX6_isGlimpsed_3 : decode cX6_isGlimpsed 3 = .ok (.iload 4, 2) := by decide +kernel
theorem dX6_isGlimpsed_5 : decode cX6_isGlimpsed 5 = .ok (.aload_n 0, 1) := by decide +kernel
theorem dX6_isGlimpsed_6 : decode cX6_isGlimpsed 6 = .ok (.getfield 70, 3) := by decide +kernel
theorem dX6_isGlimpsed_9 : decode cX6_isGlimpsed 9 = .ok (.aload_n 0, 1) := by decide +kernel
theorem dX6_isGlimpsed_10 : decode cX6_isGlimpsed 10 = .ok (.getfield 257, 3) := by decide +kernel
theorem dX6_isGlimpsed_13 : decode cX6_isGlimpsed 13 = .ok (.iaload, 1) := by decide +kernel
theorem dX6_isGlimpsed_14 : decode cX6_isGlimpsed 14 = .ok (.if_icmp .ge 53, 3) := by decide +kernel
theorem dX6_isGlimpsed_17 : decode cX6_isGlimpsed 17 = .ok (.aload_n 0, 1) := by decide +kernel
theorem dX6_isGlimpsed_18 : decode cX6_isGlimpsed 18 = .ok (.iload 4, 2) := by decide +kernel
theorem dX6_isGlimpsed_20 : decode cX6_isGlimpsed 20 = .ok (.iload_n 3, 1) := by decide +kernel
theorem dX6_isGlimpsed_21 : decode cX6_isGlimpsed 21 = .ok (.invokevirtual 392, 3) := by decide +kernel
theorem dX6_isGlimpsed_24 : decode cX6_isGlimpsed 24 = .ok (.aload_n 0, 1) := by decide +kernel
theorem dX6_isGlimpsed_25 : decode cX6_isGlimpsed 25 = .ok (.getfield 131, 3) := by decide +kernel
theorem dX6_isGlimpsed_28 : decode cX6_isGlimpsed 28 = .ok (.bipush 36, 2) := by decide +kernel
theorem dX6_isGlimpsed_30 : decode cX6_isGlimpsed 30 = .ok (.iload_n 3, 1) := by decide +kernel
theorem dX6_isGlimpsed_31 : decode cX6_isGlimpsed 31 = .ok (.imul, 1) := by decide +kernel
theorem dX6_isGlimpsed_32 : decode cX6_isGlimpsed 32 = .ok (.iload_n 1, 1) := by decide +kernel
theorem dX6_isGlimpsed_33 : decode cX6_isGlimpsed 33 = .ok (.iadd, 1) := by decide +kernel
theorem dX6_isGlimpsed_34 : decode cX6_isGlimpsed 34 = .ok (.iaload, 1) := by decide +kernel
theorem dX6_isGlimpsed_35 : decode cX6_isGlimpsed 35 = .ok (.if_icmp .ne 26, 3) := by decide +kernel
theorem dX6_isGlimpsed_38 : decode cX6_isGlimpsed 38 = .ok (.aload_n 0, 1) := by decide +kernel
theorem dX6_isGlimpsed_39 : decode cX6_isGlimpsed 39 = .ok (.iload 4, 2) := by decide +kernel
theorem dX6_isGlimpsed_41 : decode cX6_isGlimpsed 41 = .ok (.aload_n 0, 1) := by decide +kernel
theorem dX6_isGlimpsed_42 : decode cX6_isGlimpsed 42 = .ok (.iload 4, 2) := by decide +kernel
theorem dX6_isGlimpsed_44 : decode cX6_isGlimpsed 44 = .ok (.iload_n 3, 1) := by decide +kernel
theorem dX6_isGlimpsed_45 : decode cX6_isGlimpsed 45 = .ok (.invokevirtual 395, 3) := by decide +kernel
theorem dX6_isGlimpsed_48 : decode cX6_isGlimpsed 48 = .ok (.invokevirtual 422, 3) := by decide +kernel
theorem dX6_isGlimpsed_51 : decode cX6_isGlimpsed 51 = .ok (.iload_n 2, 1) := by decide +kernel
theorem dX6_isGlimpsed_52 : decode cX6_isGlimpsed 52 = .ok (.ishr, 1) := by decide +kernel
theorem dX6_isGlimpsed_53 : decode cX6_isGlimpsed 53 = .ok (.iconst 1, 1) := by decide +kernel
theorem dX6_isGlimpsed_54 : decode cX6_isGlimpsed 54 = .ok (.iand, 1) := by decide +kernel
theorem dX6_isGlimpsed_55 : decode cX6_isGlimpsed 55 = .ok (.iconst 1, 1) := by decide +kernel
theorem dX6_isGlimpsed_56 : decode cX6_isGlimpsed 56 = .ok (.if_icmp .ne 5, 3) := by decide +kernel
theorem dX6_isGlimpsed_59 : decode cX6_isGlimpsed 59 = .ok (.iconst 1, 1) := by decide +kernel
theorem dX6_isGlimpsed_60 : decode cX6_isGlimpsed 60 = .ok (.ireturn, 1) := by decide +kernel
theorem dX6_isGlimpsed_61 : decode cX6_isGlimpsed 61 = .ok (.iinc 4 1, 3) := by decide +kernel
theorem dX6_isGlimpsed_64 : decode cX6_isGlimpsed 64 = .ok (.goto (-61), 3) := by decide +kernel
theorem dX6_isGlimpsed_67 : decode cX6_isGlimpsed 67 = .ok (.iconst 0, 1) := by decide +kernel
theorem dX6_isGlimpsed_68 : decode cX6_isGlimpsed 68 = .ok (.ireturn, 1) := by decide +kernel
abbrev rm_X6_isGlimpsed : Room := { frames := 2, cells := 0, slots := 0, locals := 46 }
def f_X6_isGlimpsed_L3 (S : St) (x1 : Int32) (x2 : Int32) (x3 : Int32) (z3 : Int32) : Option ((Int32) ⊕ (Int32)) :=
  chk (ib (st_I S (ky 0 18)) 2) (if (st_A S (ky 0 31) (st_I S (ky 0 18)).toNatClampNeg) ≤ z3 then (some (.inr (0 : Int32))) else ((f_X6_hungIn  S z3 x3).bind (fun (q2 : Int32) => chk (ib (((36 : Int32) * x3) + x1) 10800) (if q2 = (st_A S (ky 0 56) (((36 : Int32) * x3) + x1).toNatClampNeg) then ((f_X6_showsAt  S z3 x3).bind (fun (q4 : Int32) => (f_X6_menShown  S z3 q4).bind (fun (q5 : Int32) => if ((q5 >>> (x2 &&& 31)) &&& (1 : Int32)) = (1 : Int32) then (some (.inr (1 : Int32))) else (some (.inl (z3 + 1)))))) else (some (.inl (z3 + 1)))))))
def f_X6_isGlimpsed (S : St) (x1 : Int32) (x2 : Int32) (x3 : Int32) : Option (Int32) :=
  iter (f_X6_isGlimpsed_L3  S x1 x2 x3) FU (0 : Int32)
set_option maxRecDepth 100000 in
set_option maxHeartbeats 4000000 in
theorem k_X6_isGlimpsed (l : Launch) (g : GG) (hg : gd wd_M g)  (hM : hs wd_M g 0 6) (S : St) (x1 : Int32) (x2 : Int32) (x3 : Int32) (q : Int32) (hf : f_X6_isGlimpsed  S x1 x2 x3 = some q) : Met l yX6_isGlimpsed (Cond.code yX6_isGlimpsed cX6_isGlimpsed 5 (some .boolean) :: gw_tbl) rm_X6_isGlimpsed (va_Pc [.ref (gg_o g 0), .int x1, .int x2, .int x3] (wI wd_M g S)) (qc_i wd_M g S q) 0 0 (aw g) := by
  refine mt_start (own := RX6) hg (by decide) rfl (Nat.le_of_ble_eq_true rfl) (fun p e s m args below meth c ls H locs cx hw hr hlk hl => ?_)
  have hx := cx.1
  have hb := cx.2.1
  have hown := cx.2.2.2.1
  have hts := cx.2.2.2.2.1
  have hl : lv_has ls 5 [(0, .ref (gg_o g 0)), (1, .int x1), (2, .int x2), (3, .int x3)] := hl
  replace hf := h_top hf
  unfold f_X6_isGlimpsed at hf
  refine lv_iconst (v := 0) hx hb dX6_isGlimpsed_0 (by decide) ?_
  refine lv_istore hx hb dX6_isGlimpsed_1 hl (by decide) (lv' := [(4, .int (0 : Int32)), (0, .ref (gg_o g 0)), (1, .int x1), (2, .int x2), (3, .int x3)]) rfl (fun ls hl => ?_)
  have L3 : ∀ (x1 : Int32) (x2 : Int32) (x3 : Int32) (aft3 : Int32 → Option (Int32)), (∀ v : Int32, aft3 v = some q → (some v : Option (Int32)).bind some = some q) → ∀ (n3 : Nat) (ls : Array Slot) (H : Heap) (locs : List Loc) (z3 : Int32), lv_has ls 5 [(0, .ref (gg_o g 0)), (1, .int x1), (2, .int x2), (3, .int x3), (4, .int z3)] → HH wd_M g s S H locs → (iter (f_X6_isGlimpsed_L3  S x1 x2 x3) n3 z3).bind aft3 = some q → W p l e rm_X6_isGlimpsed s m args below meth c H locs 0 0 (MQ below (qc_i wd_M g S q) args s 0 0 (aw g)) (F0 m 3 ls []) := by
    intro x1 x2 x3 aft3 hR3 n3
    induction n3 with
    | zero => intro ls H locs z3 hl hw hf; exact h_iter0 hf
    | succ n3 ih3 =>
      intro ls H locs z3 hl hw hf
      replace hf := h_iter hf
      unfold f_X6_isGlimpsed_L3 at hf
      refine lv_iload hx hb dX6_isGlimpsed_3 (lv_at hl 4 rfl) ?_
      refine lv_aload_n hx hb dX6_isGlimpsed_5 rfl (lv_at hl 0 rfl) ?_
      refine gf_X6_70 cx hw hM dX6_isGlimpsed_6 ?_
      refine lv_aload_n hx hb dX6_isGlimpsed_9 rfl (lv_at hl 0 rfl) ?_
      refine gf_X6_257 cx hw hM dX6_isGlimpsed_10 ?_
      refine r_iald cx hw (hM.2.2.1 31 rfl) rfl rfl hf dX6_isGlimpsed_13 (fun hf => ?_)
      refine lv_icmp_ge hx hb dX6_isGlimpsed_14 (tgt := 67) rfl (fun hc1 => ?_) (fun hc1 => ?_)
      · replace hf := h_pos hc1 hf
        refine lv_iconst (v := 0) hx hb dX6_isGlimpsed_67 (by decide) ?_
        replace hf := hR3 (0 : Int32) hf
        exact r_zret cx hw hr hlk (Or.inl rfl) hf dX6_isGlimpsed_68
      replace hf := h_neg hc1 hf
      refine lv_aload_n hx hb dX6_isGlimpsed_17 rfl (lv_at hl 0 rfl) ?_
      refine lv_iload hx hb dX6_isGlimpsed_18 (lv_at hl 4 rfl) ?_
      refine lv_iload_n hx hb dX6_isGlimpsed_20 rfl (lv_at hl 3 rfl) ?_
      refine r_V_i (As := [.int z3, .int x3]) (rest := []) cx hw hf hM.2.1 (by rw [hM.1]; rfl) lk_X6_392 (fun q2 hq => k_X6_hungIn l g hg  hM S z3 x3 q2 hq) ⟨⟨rfl, rfl⟩, Nat.le_of_ble_eq_true rfl, Nat.le_of_ble_eq_true rfl⟩ rfl hl.1 rfl (Nat.le_of_ble_eq_true rfl) dX6_isGlimpsed_21 ⟨Nat.zero_le _, Nat.zero_le _⟩ (fun q2 H locs hw hf => ?_)
      refine lv_aload_n hx hb dX6_isGlimpsed_24 rfl (lv_at hl 0 rfl) ?_
      refine gf_X6_131 cx hw hM dX6_isGlimpsed_25 ?_
      refine lv_bipush (v := 36) hx hb dX6_isGlimpsed_28 (by decide) ?_
      refine lv_iload_n hx hb dX6_isGlimpsed_30 rfl (lv_at hl 3 rfl) ?_
      refine lv_imul hx hb dX6_isGlimpsed_31 ?_
      refine lv_iload_n hx hb dX6_isGlimpsed_32 rfl (lv_at hl 1 rfl) ?_
      refine lv_iadd hx hb dX6_isGlimpsed_33 ?_
      refine r_iald cx hw (hM.2.2.1 56 rfl) rfl rfl hf dX6_isGlimpsed_34 (fun hf => ?_)
      refine lv_icmp_ne hx hb dX6_isGlimpsed_35 (tgt := 61) rfl (fun hc3 => ?_) (fun hc3 => ?_)
      · replace hf := h_neg hc3 hf
        refine lv_iinc hx hb dX6_isGlimpsed_61 hl (k := 4) rfl (congrArg (HAdd.hAdd _) (show Int32.ofInt (1) = 1 by decide)) (by decide) (lv' := [(4, .int (z3 + 1)), (0, .ref (gg_o g 0)), (1, .int x1), (2, .int x2), (3, .int x3)]) rfl (fun ls hl => ?_)
        refine lv_goto hx hb dX6_isGlimpsed_64 (tgt := 3) rfl ?_
        exact ih3 _ _ _ (z3 + 1) (lv_sub hl [1, 2, 3, 4, 0] rfl) hw hf
      replace hf := h_pos hc3 hf
      refine lv_aload_n hx hb dX6_isGlimpsed_38 rfl (lv_at hl 0 rfl) ?_
      refine lv_iload hx hb dX6_isGlimpsed_39 (lv_at hl 4 rfl) ?_
      refine lv_aload_n hx hb dX6_isGlimpsed_41 rfl (lv_at hl 0 rfl) ?_
      refine lv_iload hx hb dX6_isGlimpsed_42 (lv_at hl 4 rfl) ?_
      refine lv_iload_n hx hb dX6_isGlimpsed_44 rfl (lv_at hl 3 rfl) ?_
      refine r_V_i (As := [.int z3, .int x3]) (rest := [.int z3, .ref (gg_o g 0)]) cx hw hf hM.2.1 (by rw [hM.1]; rfl) lk_X6_395 (fun q4 hq => k_X6_showsAt l g hg  hM S z3 x3 q4 hq) ⟨⟨rfl, rfl⟩, Nat.le_of_ble_eq_true rfl, Nat.le_of_ble_eq_true rfl⟩ rfl hl.1 rfl (Nat.le_of_ble_eq_true rfl) dX6_isGlimpsed_45 ⟨Nat.zero_le _, Nat.zero_le _⟩ (fun q4 H locs hw hf => ?_)
      refine r_V_i (As := [.int z3, .int q4]) (rest := []) cx hw hf hM.2.1 (by rw [hM.1]; rfl) lk_X6_422 (fun q5 hq => k_X6_menShown l g hg  hM S z3 q4 q5 hq) ⟨⟨rfl, rfl⟩, Nat.le_of_ble_eq_true rfl, Nat.le_of_ble_eq_true rfl⟩ rfl hl.1 rfl (Nat.le_of_ble_eq_true rfl) dX6_isGlimpsed_48 ⟨Nat.zero_le _, Nat.zero_le _⟩ (fun q5 H locs hw hf => ?_)
      refine lv_iload_n hx hb dX6_isGlimpsed_51 rfl (lv_at hl 2 rfl) ?_
      refine lv_ishr hx hb dX6_isGlimpsed_52 ?_
      refine lv_iconst (v := 1) hx hb dX6_isGlimpsed_53 (by decide) ?_
      refine lv_iand hx hb dX6_isGlimpsed_54 ?_
      refine lv_iconst (v := 1) hx hb dX6_isGlimpsed_55 (by decide) ?_
      refine lv_icmp_ne hx hb dX6_isGlimpsed_56 (tgt := 61) rfl (fun hc6 => ?_) (fun hc6 => ?_)
      · replace hf := h_neg hc6 hf
        refine lv_iinc hx hb dX6_isGlimpsed_61 hl (k := 4) rfl (congrArg (HAdd.hAdd _) (show Int32.ofInt (1) = 1 by decide)) (by decide) (lv' := [(4, .int (z3 + 1)), (0, .ref (gg_o g 0)), (1, .int x1), (2, .int x2), (3, .int x3)]) rfl (fun ls hl => ?_)
        refine lv_goto hx hb dX6_isGlimpsed_64 (tgt := 3) rfl ?_
        exact ih3 _ _ _ (z3 + 1) (lv_sub hl [1, 2, 3, 4, 0] rfl) hw hf
      replace hf := h_pos hc6 hf
      refine lv_iconst (v := 1) hx hb dX6_isGlimpsed_59 (by decide) ?_
      replace hf := hR3 (1 : Int32) hf
      exact r_zret cx hw hr hlk (Or.inr rfl) hf dX6_isGlimpsed_60
  exact L3 x1 x2 x3 some (fun v h => h) FU _ _ _ (0 : Int32) (lv_sub hl [1, 2, 3, 4, 0] rfl) hw hf
theorem dX6_glimpses_0 : decode cX6_glimpses 0 = .ok (.aload_n 0, 1) := by decide +kernel
theorem dX6_glimpses_1 : decode cX6_glimpses 1 = .ok (.iload_n 1, 1) := by decide +kernel
theorem dX6_glimpses_2 : decode cX6_glimpses 2 = .ok (.invokevirtual 410, 3) := by decide +kernel
theorem dX6_glimpses_5 : decode cX6_glimpses 5 = .ok (.ifCond .eq 25, 3) := by decide +kernel
theorem dX6_glimpses_8 : decode cX6_glimpses 8 = .ok (.aload_n 0, 1) := by decide +kernel
theorem dX6_glimpses_9 : decode cX6_glimpses 9 = .ok (.iload_n 2, 1) := by decide +kernel
theorem dX6_glimpses_10 : decode cX6_glimpses 10 = .ok (.invokevirtual 410, 3) := by decide +kernel
theorem dX6_glimpses_13 : decode cX6_glimpses 13 = .ok (.ifCond .eq 17, 3) := by decide +kernel
theorem dX6_glimpses_16 : decode cX6_glimpses 16 = .ok (.iload_n 1, 1) := by decide +kernel
theorem dX6_glimpses_17 : decode cX6_glimpses 17 = .ok (.iload_n 2, 1) := by decide +kernel
theorem dX6_glimpses_18 : decode cX6_glimpses 18 = .ok (.if_icmp .eq 12, 3) := by decide +kernel
theorem dX6_glimpses_21 : decode cX6_glimpses 21 = .ok (.iload_n 3, 1) := by decide +kernel
theorem dX6_glimpses_22 : decode cX6_glimpses 22 = .ok (.iconst 0, 1) := by decide +kernel
theorem dX6_glimpses_23 : decode cX6_glimpses 23 = .ok (.iconst 1, 1) := by decide +kernel
theorem dX6_glimpses_24 : decode cX6_glimpses 24 = .ok (.invokestatic 341, 3) := by decide +kernel
theorem dX6_glimpses_27 : decode cX6_glimpses 27 = .ok (.ifCond .ne 5, 3) := by decide +kernel
theorem dX6_glimpses_30 : decode cX6_glimpses 30 = .ok (.iconst (-1), 1) := by decide +kernel
theorem dX6_glimpses_31 : decode cX6_glimpses 31 = .ok (.ireturn, 1) := by decide +kernel
theorem dX6_glimpses_32 : decode cX6_glimpses 32 = .ok (.aload_n 0, 1) := by decide +kernel
theorem dX6_glimpses_33 : decode cX6_glimpses 33 = .ok (.invokevirtual 419, 3) := by decide +kernel
theorem dX6_glimpses_36 : decode cX6_glimpses 36 = .ok (.iconst 0, 1) := by decide +kernel
theorem dX6_glimpses_37 : decode cX6_glimpses 37 = .ok (.istore 4, 2) := by decide +kernel
theorem dX6_glimpses_39 : decode cX6_glimpses 39 = .ok (.bipush (-2), 2) := by decide +kernel
theorem dX6_glimpses_41 : decode cX6_glimpses 41 = .ok (.istore 5, 2) := by decide +kernel
theorem dX6_glimpses_43 : decode cX6_glimpses 43 = .ok (.iconst 0, 1) := by decide +kernel
theorem dX6_glimpses_44 : decode cX6_glimpses 44 = .ok (.istore 6, 2) := by decide +kernel
theorem dX6_glimpses_46 : decode cX6_glimpses 46 = .ok (.iload 6, 2) := by decide +kernel
theorem dX6_glimpses_48 : decode cX6_glimpses 48 = .ok (.aload_n 0, 1) := by decide +kernel
theorem dX6_glimpses_49 : decode cX6_glimpses 49 = .ok (.getfield 348, 3) := by decide +kernel
theorem dX6_glimpses_52 : decode cX6_glimpses 52 = .ok (.if_icmp .gt 35, 3) := by decide +kernel
theorem dX6_glimpses_55 : decode cX6_glimpses 55 = .ok (.aload_n 0, 1) := by decide +kernel
theorem dX6_glimpses_56 : decode cX6_glimpses 56 = .ok (.iload_n 1, 1) := by decide +kernel
theorem dX6_glimpses_57 : decode cX6_glimpses 57 = .ok (.iload_n 2, 1) := by decide +kernel
theorem dX6_glimpses_58 : decode cX6_glimpses 58 = .ok (.iload 6, 2) := by decide +kernel
theorem dX6_glimpses_60 : decode cX6_glimpses 60 = .ok (.invokevirtual 449, 3) := by decide +kernel
theorem dX6_glimpses_63 : decode cX6_glimpses 63 = .ok (.ifCond .ne 6, 3) := by decide +kernel
theorem dX6_glimpses_66 : decode cX6_glimpses 66 = .ok (.goto 15, 3) := by decide +kernel
theorem dX6_glimpses_69 : decode cX6_glimpses 69 = .ok (.iload 4, 2) := by decide +kernel
theorem dX6_glimpses_71 : decode cX6_glimpses 71 = .ok (.ifCond .ne 7, 3) := by decide +kernel
theorem dX6_glimpses_74 : decode cX6_glimpses 74 = .ok (.iload 6, 2) := by decide +kernel
theorem dX6_glimpses_76 : decode cX6_glimpses 76 = .ok (.istore 5, 2) := by decide +kernel
theorem dX6_glimpses_78 : decode cX6_glimpses 78 = .ok (.iinc 4 1, 3) := by decide +kernel
theorem dX6_glimpses_81 : decode cX6_glimpses 81 = .ok (.iinc 6 1, 3) := by decide +kernel
theorem dX6_glimpses_84 : decode cX6_glimpses 84 = .ok (.goto (-38), 3) := by decide +kernel
theorem dX6_glimpses_87 : decode cX6_glimpses 87 = .ok (.iload_n 3, 1) := by decide +kernel
theorem dX6_glimpses_88 : decode cX6_glimpses 88 = .ok (.ifCond .ne 8, 3) := by decide +kernel
theorem dX6_glimpses_91 : decode cX6_glimpses 91 = .ok (.iload 4, 2) := by decide +kernel
theorem dX6_glimpses_93 : decode cX6_glimpses 93 = .ok (.goto 5, 3) := by decide +kernel
theorem dX6_glimpses_96 : decode cX6_glimpses 96 = .ok (.iload 5, 2) := by decide +kernel
theorem dX6_glimpses_98 : decode cX6_glimpses 98 = .ok (.ireturn, 1) := by decide +kernel
abbrev rm_X6_glimpses : Room := { frames := 3, cells := 0, slots := 0, locals := 70 }
def f_X6_glimpses_L46 (S : St) (x1 : Int32) (x2 : Int32) (x3 : Int32) (z46 : Int32 × Int32 × Int32) : Option ((Int32 × Int32 × Int32) ⊕ (Int32 × Int32)) :=
  if (st_I S (ky 0 57)) < z46.2.2 then (some (.inr (z46.1, z46.2.1))) else ((f_X6_isGlimpsed  S x1 x2 z46.2.2).bind (fun (q10 : Int32) => if q10 = 0 then (some (.inl (z46.1, z46.2.1, (z46.2.2 + 1)))) else (if z46.1 = 0 then (some (.inl ((z46.1 + 1), z46.2.2, (z46.2.2 + 1)))) else (some (.inl ((z46.1 + 1), z46.2.1, (z46.2.2 + 1)))))))
def f_X6_glimpses (S : St) (x1 : Int32) (x2 : Int32) (x3 : Int32) : Option (Int32 × St) :=
  (f_X6_isMan  S x1).bind (fun (q1 : Int32) => if q1 = 0 then (some ((-1 : Int32), S)) else ((f_X6_isMan  S x2).bind (fun (q3 : Int32) => if q3 = 0 then (some ((-1 : Int32), S)) else (if x1 = x2 then (some ((-1 : Int32), S)) else ((f_X6_in   x3 (0 : Int32) (1 : Int32)).bind (fun (q6 : Int32) => if q6 = 0 then (some ((-1 : Int32), S)) else ((f_X6_copies  S ).bind (fun (q8 : St) => (iter (f_X6_glimpses_L46  q8 x1 x2 x3) FU ((0 : Int32), (-2 : Int32), (0 : Int32))).bind (fun (u16 : Int32 × Int32) => (fun (e13 : Int32) (e14 : Int32) => if x3 = 0 then (some (e13, q8)) else (some (e14, q8))) u16.1 u16.2)))))))))
set_option maxRecDepth 100000 in
set_option maxHeartbeats 4000000 in
theorem k_X6_glimpses (l : Launch) (g : GG) (hg : gd wd_M g)  (hM : hs wd_M g 0 6) (S : St) (x1 : Int32) (x2 : Int32) (x3 : Int32) (q : Int32 × St) (hf : f_X6_glimpses  S x1 x2 x3 = some q) : Met l yX6_glimpses (Cond.code yX6_glimpses cX6_glimpses 7 (some .int) :: gw_tbl) rm_X6_glimpses (va_Pc [.ref (gg_o g 0), .int x1, .int x2, .int x3] (wI wd_M g S)) (qc_w wd_M g q) 0 0 (aw g) := by
  refine mt_start (own := RX6) hg (by decide) rfl (Nat.le_of_ble_eq_true rfl) (fun p e s m args below meth c ls H locs cx hw hr hlk hl => ?_)
  have hx := cx.1
  have hb := cx.2.1
  have hown := cx.2.2.2.1
  have hts := cx.2.2.2.2.1
  have hl : lv_has ls 7 [(0, .ref (gg_o g 0)), (1, .int x1), (2, .int x2), (3, .int x3)] := hl
  replace hf := h_top hf
  unfold f_X6_glimpses at hf
  refine lv_aload_n hx hb dX6_glimpses_0 rfl (lv_at hl 0 rfl) ?_
  refine lv_iload_n hx hb dX6_glimpses_1 rfl (lv_at hl 1 rfl) ?_
  refine r_V_i (As := [.int x1]) (rest := []) cx hw hf hM.2.1 (by rw [hM.1]; rfl) lk_X6_410 (fun q1 hq => k_X6_isMan l g hg  hM S x1 q1 hq) ⟨⟨rfl, rfl⟩, Nat.le_of_ble_eq_true rfl, Nat.le_of_ble_eq_true rfl⟩ rfl hl.1 rfl (Nat.le_of_ble_eq_true rfl) dX6_glimpses_2 ⟨Nat.zero_le _, Nat.zero_le _⟩ (fun q1 H locs hw hf => ?_)
  refine lv_if_eq hx hb dX6_glimpses_5 (tgt := 30) rfl (fun hc2 => ?_) (fun hc2 => ?_)
  · replace hf := h_pos hc2 hf
    refine lv_iconst (v := -1) hx hb dX6_glimpses_30 (by decide) ?_
    exact r_iretw cx hw hr hlk hf dX6_glimpses_31
  replace hf := h_neg hc2 hf
  refine lv_aload_n hx hb dX6_glimpses_8 rfl (lv_at hl 0 rfl) ?_
  refine lv_iload_n hx hb dX6_glimpses_9 rfl (lv_at hl 2 rfl) ?_
  refine r_V_i (As := [.int x2]) (rest := []) cx hw hf hM.2.1 (by rw [hM.1]; rfl) lk_X6_410 (fun q3 hq => k_X6_isMan l g hg  hM S x2 q3 hq) ⟨⟨rfl, rfl⟩, Nat.le_of_ble_eq_true rfl, Nat.le_of_ble_eq_true rfl⟩ rfl hl.1 rfl (Nat.le_of_ble_eq_true rfl) dX6_glimpses_10 ⟨Nat.zero_le _, Nat.zero_le _⟩ (fun q3 H locs hw hf => ?_)
  refine lv_if_eq hx hb dX6_glimpses_13 (tgt := 30) rfl (fun hc4 => ?_) (fun hc4 => ?_)
  · replace hf := h_pos hc4 hf
    refine lv_iconst (v := -1) hx hb dX6_glimpses_30 (by decide) ?_
    exact r_iretw cx hw hr hlk hf dX6_glimpses_31
  replace hf := h_neg hc4 hf
  refine lv_iload_n hx hb dX6_glimpses_16 rfl (lv_at hl 1 rfl) ?_
  refine lv_iload_n hx hb dX6_glimpses_17 rfl (lv_at hl 2 rfl) ?_
  refine lv_icmp_eq hx hb dX6_glimpses_18 (tgt := 30) rfl (fun hc5 => ?_) (fun hc5 => ?_)
  · replace hf := h_pos hc5 hf
    refine lv_iconst (v := -1) hx hb dX6_glimpses_30 (by decide) ?_
    exact r_iretw cx hw hr hlk hf dX6_glimpses_31
  replace hf := h_neg hc5 hf
  refine lv_iload_n hx hb dX6_glimpses_21 rfl (lv_at hl 3 rfl) ?_
  refine lv_iconst (v := 0) hx hb dX6_glimpses_22 (by decide) ?_
  refine lv_iconst (v := 1) hx hb dX6_glimpses_23 (by decide) ?_
  refine r_S_i (As := [.int x3, .int (0 : Int32), .int (1 : Int32)]) (rest := []) cx hw hf lk_X6_341 (fun q6 hq => k_X6_in l g hg   S x3 (0 : Int32) (1 : Int32) q6 hq) ⟨⟨rfl, rfl⟩, Nat.le_of_ble_eq_true rfl, Nat.le_of_ble_eq_true rfl⟩ rfl hl.1 rfl (Nat.le_of_ble_eq_true rfl) dX6_glimpses_24 ⟨Nat.zero_le _, Nat.zero_le _⟩ (fun q6 H locs hw hf => ?_)
  refine lv_if_ne hx hb dX6_glimpses_27 (tgt := 32) rfl (fun hc7 => ?_) (fun hc7 => ?_)
  · replace hf := h_neg hc7 hf
    refine lv_aload_n hx hb dX6_glimpses_32 rfl (lv_at hl 0 rfl) ?_
    refine r_V_v (As := []) (rest := []) cx hw hf hM.2.1 (by rw [hM.1]; rfl) lk_X6_419 (fun q8 hq => k_X6_copies l g hg  hM S  q8 hq) ⟨⟨rfl, rfl⟩, Nat.le_of_ble_eq_true rfl, Nat.le_of_ble_eq_true rfl⟩ rfl hl.1 rfl (Nat.le_of_ble_eq_true rfl) dX6_glimpses_33 ⟨Nat.zero_le _, Nat.zero_le _⟩ (fun q8 H locs hw hf => ?_)
    refine lv_iconst (v := 0) hx hb dX6_glimpses_36 (by decide) ?_
    refine lv_istore hx hb dX6_glimpses_37 hl (by decide) (lv' := [(4, .int (0 : Int32)), (0, .ref (gg_o g 0)), (1, .int x1), (2, .int x2), (3, .int x3)]) rfl (fun ls hl => ?_)
    refine lv_bipush (v := -2) hx hb dX6_glimpses_39 (by decide) ?_
    refine lv_istore hx hb dX6_glimpses_41 hl (by decide) (lv' := [(5, .int (-2 : Int32)), (4, .int (0 : Int32)), (0, .ref (gg_o g 0)), (1, .int x1), (2, .int x2), (3, .int x3)]) rfl (fun ls hl => ?_)
    refine lv_iconst (v := 0) hx hb dX6_glimpses_43 (by decide) ?_
    refine lv_istore hx hb dX6_glimpses_44 hl (by decide) (lv' := [(6, .int (0 : Int32)), (5, .int (-2 : Int32)), (4, .int (0 : Int32)), (0, .ref (gg_o g 0)), (1, .int x1), (2, .int x2), (3, .int x3)]) rfl (fun ls hl => ?_)
    have L46 : ∀ (S : St) (x1 : Int32) (x2 : Int32) (x3 : Int32) (aft46 : (Int32 × Int32) → Option (Int32 × St)), (∀ (ls : Array Slot) (H : Heap) (locs : List Loc) (e4 : Int32) (e5 : Int32), lv_has ls 7 [(3, .int x3), (4, .int e4), (5, .int e5)] → HH wd_M g s S H locs → aft46 (e4, e5) = some q → W p l e rm_X6_glimpses s m args below meth c H locs 0 0 (MQ below (qc_w wd_M g q) args s 0 0 (aw g)) (F0 m 87 ls [])) → ∀ (n46 : Nat) (ls : Array Slot) (H : Heap) (locs : List Loc) (z46 : Int32 × Int32 × Int32), lv_has ls 7 [(0, .ref (gg_o g 0)), (1, .int x1), (2, .int x2), (3, .int x3), (4, .int z46.1), (5, .int z46.2.1), (6, .int z46.2.2)] → HH wd_M g s S H locs → (iter (f_X6_glimpses_L46  S x1 x2 x3) n46 z46).bind aft46 = some q → W p l e rm_X6_glimpses s m args below meth c H locs 0 0 (MQ below (qc_w wd_M g q) args s 0 0 (aw g)) (F0 m 46 ls []) := by
      intro S x1 x2 x3 aft46 hX46 n46
      induction n46 with
      | zero => intro ls H locs z46 hl hw hf; exact h_iter0 hf
      | succ n46 ih46 =>
        intro ls H locs z46 hl hw hf
        replace hf := h_iter hf
        unfold f_X6_glimpses_L46 at hf
        refine lv_iload hx hb dX6_glimpses_46 (lv_at hl 6 rfl) ?_
        refine lv_aload_n hx hb dX6_glimpses_48 rfl (lv_at hl 0 rfl) ?_
        refine gf_X6_348 cx hw hM dX6_glimpses_49 ?_
        refine lv_icmp_gt hx hb dX6_glimpses_52 (tgt := 87) rfl (fun hc9 => ?_) (fun hc9 => ?_)
        · replace hf := h_pos hc9 hf
          exact hX46 _ _ _ z46.1 z46.2.1 (lv_sub hl [3, 4, 5] rfl) hw hf
        replace hf := h_neg hc9 hf
        refine lv_aload_n hx hb dX6_glimpses_55 rfl (lv_at hl 0 rfl) ?_
        refine lv_iload_n hx hb dX6_glimpses_56 rfl (lv_at hl 1 rfl) ?_
        refine lv_iload_n hx hb dX6_glimpses_57 rfl (lv_at hl 2 rfl) ?_
        refine lv_iload hx hb dX6_glimpses_58 (lv_at hl 6 rfl) ?_
        refine r_V_i (As := [.int x1, .int x2, .int z46.2.2]) (rest := []) cx hw hf hM.2.1 (by rw [hM.1]; rfl) lk_X6_449 (fun q10 hq => k_X6_isGlimpsed l g hg  hM S x1 x2 z46.2.2 q10 hq) ⟨⟨rfl, rfl⟩, Nat.le_of_ble_eq_true rfl, Nat.le_of_ble_eq_true rfl⟩ rfl hl.1 rfl (Nat.le_of_ble_eq_true rfl) dX6_glimpses_60 ⟨Nat.zero_le _, Nat.zero_le _⟩ (fun q10 H locs hw hf => ?_)
        refine lv_if_ne hx hb dX6_glimpses_63 (tgt := 69) rfl (fun hc11 => ?_) (fun hc11 => ?_)
        · replace hf := h_neg hc11 hf
          refine lv_iload hx hb dX6_glimpses_69 (lv_at hl 4 rfl) ?_
          refine lv_if_ne hx hb dX6_glimpses_71 (tgt := 78) rfl (fun hc12 => ?_) (fun hc12 => ?_)
          · replace hf := h_neg hc12 hf
            refine lv_iinc hx hb dX6_glimpses_78 hl (k := 4) rfl (congrArg (HAdd.hAdd _) (show Int32.ofInt (1) = 1 by decide)) (by decide) (lv' := [(4, .int (z46.1 + 1)), (0, .ref (gg_o g 0)), (1, .int x1), (2, .int x2), (3, .int x3), (5, .int z46.2.1), (6, .int z46.2.2)]) rfl (fun ls hl => ?_)
            refine lv_iinc hx hb dX6_glimpses_81 hl (k := 6) rfl (congrArg (HAdd.hAdd _) (show Int32.ofInt (1) = 1 by decide)) (by decide) (lv' := [(6, .int (z46.2.2 + 1)), (4, .int (z46.1 + 1)), (0, .ref (gg_o g 0)), (1, .int x1), (2, .int x2), (3, .int x3), (5, .int z46.2.1)]) rfl (fun ls hl => ?_)
            refine lv_goto hx hb dX6_glimpses_84 (tgt := 46) rfl ?_
            exact ih46 _ _ _ ((z46.1 + 1), z46.2.1, (z46.2.2 + 1)) (lv_sub hl [2, 3, 4, 5, 1, 6, 0] rfl) hw hf
          replace hf := h_pos hc12 hf
          refine lv_iload hx hb dX6_glimpses_74 (lv_at hl 6 rfl) ?_
          refine lv_istore hx hb dX6_glimpses_76 hl (by decide) (lv' := [(5, .int z46.2.2), (0, .ref (gg_o g 0)), (1, .int x1), (2, .int x2), (3, .int x3), (4, .int z46.1), (6, .int z46.2.2)]) rfl (fun ls hl => ?_)
          refine lv_iinc hx hb dX6_glimpses_78 hl (k := 5) rfl (congrArg (HAdd.hAdd _) (show Int32.ofInt (1) = 1 by decide)) (by decide) (lv' := [(4, .int (z46.1 + 1)), (5, .int z46.2.2), (0, .ref (gg_o g 0)), (1, .int x1), (2, .int x2), (3, .int x3), (6, .int z46.2.2)]) rfl (fun ls hl => ?_)
          refine lv_iinc hx hb dX6_glimpses_81 hl (k := 6) rfl (congrArg (HAdd.hAdd _) (show Int32.ofInt (1) = 1 by decide)) (by decide) (lv' := [(6, .int (z46.2.2 + 1)), (4, .int (z46.1 + 1)), (5, .int z46.2.2), (0, .ref (gg_o g 0)), (1, .int x1), (2, .int x2), (3, .int x3)]) rfl (fun ls hl => ?_)
          refine lv_goto hx hb dX6_glimpses_84 (tgt := 46) rfl ?_
          exact ih46 _ _ _ ((z46.1 + 1), z46.2.2, (z46.2.2 + 1)) (lv_sub hl [3, 4, 5, 6, 1, 2, 0] rfl) hw hf
        replace hf := h_pos hc11 hf
        refine lv_goto hx hb dX6_glimpses_66 (tgt := 81) rfl ?_
        refine lv_iinc hx hb dX6_glimpses_81 hl (k := 6) rfl (congrArg (HAdd.hAdd _) (show Int32.ofInt (1) = 1 by decide)) (by decide) (lv' := [(6, .int (z46.2.2 + 1)), (0, .ref (gg_o g 0)), (1, .int x1), (2, .int x2), (3, .int x3), (4, .int z46.1), (5, .int z46.2.1)]) rfl (fun ls hl => ?_)
        refine lv_goto hx hb dX6_glimpses_84 (tgt := 46) rfl ?_
        exact ih46 _ _ _ (z46.1, z46.2.1, (z46.2.2 + 1)) (lv_sub hl [1, 2, 3, 4, 5, 6, 0] rfl) hw hf
    refine L46 q8 x1 x2 x3 _ (fun ls H locs e13 e14 hl hw hf => ?_) FU _ _ _ ((0 : Int32), (-2 : Int32), (0 : Int32)) (lv_sub hl [3, 4, 5, 6, 2, 1, 0] rfl) hw (h_assoc hf)
    try dsimp only at hf
    refine lv_iload_n hx hb dX6_glimpses_87 rfl (lv_at hl 0 rfl) ?_
    refine lv_if_ne hx hb dX6_glimpses_88 (tgt := 96) rfl (fun hc15 => ?_) (fun hc15 => ?_)
    · replace hf := h_neg hc15 hf
      refine lv_iload hx hb dX6_glimpses_96 (lv_at hl 2 rfl) ?_
      exact r_iretw cx hw hr hlk hf dX6_glimpses_98
    replace hf := h_pos hc15 hf
    refine lv_iload hx hb dX6_glimpses_91 (lv_at hl 1 rfl) ?_
    refine lv_goto hx hb dX6_glimpses_93 (tgt := 98) rfl ?_
    exact r_iretw cx hw hr hlk hf dX6_glimpses_98
  replace hf := h_pos hc7 hf
  refine lv_iconst (v := -1) hx hb dX6_glimpses_30 (by decide) ?_
  exact r_iretw cx hw hr hlk hf dX6_glimpses_31
theorem dX6_crowd_0 : decode cX6_crowd 0 = .ok (.aload_n 0, 1) := by decide +kernel
theorem dX6_crowd_1 : decode cX6_crowd 1 = .ok (.iload_n 1, 1) := by decide +kernel
theorem dX6_crowd_2 : decode cX6_crowd 2 = .ok (.invokevirtual 413, 3) := by decide +kernel
theorem dX6_crowd_5 : decode cX6_crowd 5 = .ok (.ifCond .eq 12, 3) := by decide +kernel
theorem dX6_crowd_8 : decode cX6_crowd 8 = .ok (.iload_n 2, 1) := by decide +kernel
theorem dX6_crowd_9 : decode cX6_crowd 9 = .ok (.iconst 0, 1) := by decide +kernel
theorem dX6_crowd_10 : decode cX6_crowd 10 = .ok (.iconst 1, 1) := by decide +kernel
theorem dX6_crowd_11 : decode cX6_crowd 11 = .ok (.invokestatic 341, 3) := by decide +kernel
theorem dX6_crowd_14 : decode cX6_crowd 14 = .ok (.ifCond .ne 5, 3) := by decide +kernel
theorem dX6_crowd_17 : decode cX6_crowd 17 = .ok (.iconst (-1), 1) := by decide +kernel
theorem dX6_crowd_18 : decode cX6_crowd 18 = .ok (.ireturn, 1) := by decide +kernel
theorem dX6_crowd_19 : decode cX6_crowd 19 = .ok (.aload_n 0, 1) := by decide +kernel
theorem dX6_crowd_20 : decode cX6_crowd 20 = .ok (.getfield 49, 3) := by decide +kernel
theorem dX6_crowd_23 : decode cX6_crowd 23 = .ok (.aload_n 0, 1) := by decide +kernel
theorem dX6_crowd_24 : decode cX6_crowd 24 = .ok (.getfield 257, 3) := by decide +kernel
theorem dX6_crowd_27 : decode cX6_crowd 27 = .ok (.iaload, 1) := by decide +kernel
theorem dX6_crowd_28 : decode cX6_crowd 28 = .ok (.ifCond .ne 6, 3) := by decide +kernel
theorem dX6_crowd_31 : decode cX6_crowd 31 = .ok (.bipush (-2), 2) := by decide +kernel
theorem dX6_crowd_33 : decode cX6_crowd 33 = .ok (.ireturn, 1) := by decide +kernel
theorem dX6_crowd_34 : decode cX6_crowd 34 = .ok (.aload_n 0, 1) := by decide +kernel
theorem dX6_crowd_35 : decode cX6_crowd 35 = .ok (.invokevirtual 419, 3) := by decide +kernel
theorem dX6_crowd_38 : decode cX6_crowd 38 = .ok (.iconst 0, 1) := by decide +kernel
theorem dX6_crowd_39 : decode cX6_crowd 39 = .ok (.istore_n 3, 1) := by decide +kernel
theorem dX6_crowd_40 : decode cX6_crowd 40 = .ok (.iconst 1, 1) := by decide +kernel
theorem dX6_crowd_41 : decode cX6_crowd 41 = .ok (.istore 4, 2) := by decide +kernel
theorem dX6_crowd_43 : decode cX6_crowd 43 = .ok (.iload 4, 2) := by decide +kernel
theorem dX6_crowd_45 : decode cX6_crowd 45 = .ok (.aload_n 0, 1) := by decide +kernel
theorem dX6_crowd_46 : decode cX6_crowd 46 = .ok (.getfield 49, 3) := by decide +kernel
theorem dX6_crowd_49 : decode cX6_crowd 49 = .ok (.aload_n 0, 1) := by decide +kernel
theorem dX6_crowd_50 : decode cX6_crowd 50 = .ok (.getfield 257, 3) := by decide +kernel
theorem dX6_crowd_53 : decode cX6_crowd 53 = .ok (.iaload, 1) := by decide +kernel
theorem dX6_crowd_54 : decode cX6_crowd 54 = .ok (.if_icmp .ge 34, 3) := by decide +kernel
theorem dX6_crowd_57 : decode cX6_crowd 57 = .ok (.aload_n 0, 1) := by decide +kernel
theorem dX6_crowd_58 : decode cX6_crowd 58 = .ok (.iload 4, 2) := by decide +kernel
theorem dX6_crowd_60 : decode cX6_crowd 60 = .ok (.iload_n 1, 1) := by decide +kernel
theorem dX6_crowd_61 : decode cX6_crowd 61 = .ok (.invokevirtual 366, 3) := by decide +kernel
theorem dX6_crowd_64 : decode cX6_crowd 64 = .ok (.invokestatic 369, 3) := by decide +kernel
theorem dX6_crowd_67 : decode cX6_crowd 67 = .ok (.aload_n 0, 1) := by decide +kernel
theorem dX6_crowd_68 : decode cX6_crowd 68 = .ok (.iload_n 3, 1) := by decide +kernel
theorem dX6_crowd_69 : decode cX6_crowd 69 = .ok (.iload_n 1, 1) := by decide +kernel
theorem dX6_crowd_70 : decode cX6_crowd 70 = .ok (.invokevirtual 366, 3) := by decide +kernel
theorem dX6_crowd_73 : decode cX6_crowd 73 = .ok (.invokestatic 369, 3) := by decide +kernel
theorem dX6_crowd_76 : decode cX6_crowd 76 = .ok (.if_icmp .le 6, 3) := by decide +kernel
theorem dX6_crowd_79 : decode cX6_crowd 79 = .ok (.iload 4, 2) := by decide +kernel
theorem dX6_crowd_81 : decode cX6_crowd 81 = .ok (.istore_n 3, 1) := by decide +kernel
theorem dX6_crowd_82 : decode cX6_crowd 82 = .ok (.iinc 4 1, 3) := by decide +kernel
theorem dX6_crowd_85 : decode cX6_crowd 85 = .ok (.goto (-42), 3) := by decide +kernel
theorem dX6_crowd_88 : decode cX6_crowd 88 = .ok (.iload_n 2, 1) := by decide +kernel
theorem dX6_crowd_89 : decode cX6_crowd 89 = .ok (.ifCond .ne 7, 3) := by decide +kernel
theorem dX6_crowd_92 : decode cX6_crowd 92 = .ok (.iload_n 3, 1) := by decide +kernel
theorem dX6_crowd_93 : decode cX6_crowd 93 = .ok (.goto 12, 3) := by decide +kernel
theorem dX6_crowd_96 : decode cX6_crowd 96 = .ok (.aload_n 0, 1) := by decide +kernel
theorem dX6_crowd_97 : decode cX6_crowd 97 = .ok (.iload_n 3, 1) := by decide +kernel
theorem dX6_crowd_98 : decode cX6_crowd 98 = .ok (.iload_n 1, 1) := by decide +kernel
theorem dX6_crowd_99 : decode cX6_crowd 99 = .ok (.invokevirtual 366, 3) := by decide +kernel
theorem dX6_crowd_102 : decode cX6_crowd 102 = .ok (.invokestatic 369, 3) := by decide +kernel
theorem dX6_crowd_105 : decode cX6_crowd 105 = .ok (.ireturn, 1) := by decide +kernel
abbrev rm_X6_crowd : Room := { frames := 2, cells := 0, slots := 0, locals := 43 }
def f_X6_crowd_L43 (S : St) (x1 : Int32) (x2 : Int32) (z43 : Int32 × Int32) : Option ((Int32 × Int32) ⊕ (Int32)) :=
  chk (ib (st_I S (ky 0 18)) 2) (if (st_A S (ky 0 24) (st_I S (ky 0 18)).toNatClampNeg) ≤ z43.2 then (some (.inr z43.1)) else ((f_X6_menIn  S z43.2 x1).bind (fun (q8 : Int32) => (f_X6_bits   q8).bind (fun (q9 : Int32) => (f_X6_menIn  S z43.1 x1).bind (fun (q10 : Int32) => (f_X6_bits   q10).bind (fun (q11 : Int32) => if q9 ≤ q11 then (some (.inl (z43.1, (z43.2 + 1)))) else (some (.inl (z43.2, (z43.2 + 1))))))))))
def f_X6_crowd (S : St) (x1 : Int32) (x2 : Int32) : Option (Int32 × St) :=
  (f_X6_isPast  S x1).bind (fun (q1 : Int32) => if q1 = 0 then (some ((-1 : Int32), S)) else ((f_X6_in   x2 (0 : Int32) (1 : Int32)).bind (fun (q3 : Int32) => if q3 = 0 then (some ((-1 : Int32), S)) else (chk (ib (st_I S (ky 0 18)) 2) (if (st_A S (ky 0 24) (st_I S (ky 0 18)).toNatClampNeg) = 0 then (some ((-2 : Int32), S)) else ((f_X6_copies  S ).bind (fun (q6 : St) => (iter (f_X6_crowd_L43  q6 x1 x2) FU ((0 : Int32), (1 : Int32))).bind (fun (e13 : Int32) => if x2 = 0 then (some (e13, q6)) else ((f_X6_menIn  q6 e13 x1).bind (fun (q15 : Int32) => (f_X6_bits   q15).bind (fun (q16 : Int32) => some (q16, q6))))))))))))
set_option maxRecDepth 100000 in
set_option maxHeartbeats 4000000 in
theorem k_X6_crowd (l : Launch) (g : GG) (hg : gd wd_M g)  (hM : hs wd_M g 0 6) (S : St) (x1 : Int32) (x2 : Int32) (q : Int32 × St) (hf : f_X6_crowd  S x1 x2 = some q) : Met l yX6_crowd (Cond.code yX6_crowd cX6_crowd 5 (some .int) :: gw_tbl) rm_X6_crowd (va_Pc [.ref (gg_o g 0), .int x1, .int x2] (wI wd_M g S)) (qc_w wd_M g q) 0 0 (aw g) := by
  refine mt_start (own := RX6) hg (by decide) rfl (Nat.le_of_ble_eq_true rfl) (fun p e s m args below meth c ls H locs cx hw hr hlk hl => ?_)
  have hx := cx.1
  have hb := cx.2.1
  have hown := cx.2.2.2.1
  have hts := cx.2.2.2.2.1
  have hl : lv_has ls 5 [(0, .ref (gg_o g 0)), (1, .int x1), (2, .int x2)] := hl
  replace hf := h_top hf
  unfold f_X6_crowd at hf
  refine lv_aload_n hx hb dX6_crowd_0 rfl (lv_at hl 0 rfl) ?_
  refine lv_iload_n hx hb dX6_crowd_1 rfl (lv_at hl 1 rfl) ?_
  refine r_V_i (As := [.int x1]) (rest := []) cx hw hf hM.2.1 (by rw [hM.1]; rfl) lk_X6_413 (fun q1 hq => k_X6_isPast l g hg  hM S x1 q1 hq) ⟨⟨rfl, rfl⟩, Nat.le_of_ble_eq_true rfl, Nat.le_of_ble_eq_true rfl⟩ rfl hl.1 rfl (Nat.le_of_ble_eq_true rfl) dX6_crowd_2 ⟨Nat.zero_le _, Nat.zero_le _⟩ (fun q1 H locs hw hf => ?_)
  refine lv_if_eq hx hb dX6_crowd_5 (tgt := 17) rfl (fun hc2 => ?_) (fun hc2 => ?_)
  · replace hf := h_pos hc2 hf
    refine lv_iconst (v := -1) hx hb dX6_crowd_17 (by decide) ?_
    exact r_iretw cx hw hr hlk hf dX6_crowd_18
  replace hf := h_neg hc2 hf
  refine lv_iload_n hx hb dX6_crowd_8 rfl (lv_at hl 2 rfl) ?_
  refine lv_iconst (v := 0) hx hb dX6_crowd_9 (by decide) ?_
  refine lv_iconst (v := 1) hx hb dX6_crowd_10 (by decide) ?_
  refine r_S_i (As := [.int x2, .int (0 : Int32), .int (1 : Int32)]) (rest := []) cx hw hf lk_X6_341 (fun q3 hq => k_X6_in l g hg   S x2 (0 : Int32) (1 : Int32) q3 hq) ⟨⟨rfl, rfl⟩, Nat.le_of_ble_eq_true rfl, Nat.le_of_ble_eq_true rfl⟩ rfl hl.1 rfl (Nat.le_of_ble_eq_true rfl) dX6_crowd_11 ⟨Nat.zero_le _, Nat.zero_le _⟩ (fun q3 H locs hw hf => ?_)
  refine lv_if_ne hx hb dX6_crowd_14 (tgt := 19) rfl (fun hc4 => ?_) (fun hc4 => ?_)
  · replace hf := h_neg hc4 hf
    refine lv_aload_n hx hb dX6_crowd_19 rfl (lv_at hl 0 rfl) ?_
    refine gf_X6_49 cx hw hM dX6_crowd_20 ?_
    refine lv_aload_n hx hb dX6_crowd_23 rfl (lv_at hl 0 rfl) ?_
    refine gf_X6_257 cx hw hM dX6_crowd_24 ?_
    refine r_iald cx hw (hM.2.2.1 24 rfl) rfl rfl hf dX6_crowd_27 (fun hf => ?_)
    refine lv_if_ne hx hb dX6_crowd_28 (tgt := 34) rfl (fun hc5 => ?_) (fun hc5 => ?_)
    · replace hf := h_neg hc5 hf
      refine lv_aload_n hx hb dX6_crowd_34 rfl (lv_at hl 0 rfl) ?_
      refine r_V_v (As := []) (rest := []) cx hw hf hM.2.1 (by rw [hM.1]; rfl) lk_X6_419 (fun q6 hq => k_X6_copies l g hg  hM S  q6 hq) ⟨⟨rfl, rfl⟩, Nat.le_of_ble_eq_true rfl, Nat.le_of_ble_eq_true rfl⟩ rfl hl.1 rfl (Nat.le_of_ble_eq_true rfl) dX6_crowd_35 ⟨Nat.zero_le _, Nat.zero_le _⟩ (fun q6 H locs hw hf => ?_)
      refine lv_iconst (v := 0) hx hb dX6_crowd_38 (by decide) ?_
      refine lv_istore_n hx hb dX6_crowd_39 rfl hl (by decide) (lv' := [(3, .int (0 : Int32)), (0, .ref (gg_o g 0)), (1, .int x1), (2, .int x2)]) rfl (fun ls hl => ?_)
      refine lv_iconst (v := 1) hx hb dX6_crowd_40 (by decide) ?_
      refine lv_istore hx hb dX6_crowd_41 hl (by decide) (lv' := [(4, .int (1 : Int32)), (3, .int (0 : Int32)), (0, .ref (gg_o g 0)), (1, .int x1), (2, .int x2)]) rfl (fun ls hl => ?_)
      have L43 : ∀ (S : St) (x1 : Int32) (x2 : Int32) (aft43 : Int32 → Option (Int32 × St)), (∀ (ls : Array Slot) (H : Heap) (locs : List Loc) (e3 : Int32), lv_has ls 5 [(0, .ref (gg_o g 0)), (1, .int x1), (2, .int x2), (3, .int e3)] → HH wd_M g s S H locs → aft43 e3 = some q → W p l e rm_X6_crowd s m args below meth c H locs 0 0 (MQ below (qc_w wd_M g q) args s 0 0 (aw g)) (F0 m 88 ls [])) → ∀ (n43 : Nat) (ls : Array Slot) (H : Heap) (locs : List Loc) (z43 : Int32 × Int32), lv_has ls 5 [(0, .ref (gg_o g 0)), (1, .int x1), (2, .int x2), (3, .int z43.1), (4, .int z43.2)] → HH wd_M g s S H locs → (iter (f_X6_crowd_L43  S x1 x2) n43 z43).bind aft43 = some q → W p l e rm_X6_crowd s m args below meth c H locs 0 0 (MQ below (qc_w wd_M g q) args s 0 0 (aw g)) (F0 m 43 ls []) := by
        intro S x1 x2 aft43 hX43 n43
        induction n43 with
        | zero => intro ls H locs z43 hl hw hf; exact h_iter0 hf
        | succ n43 ih43 =>
          intro ls H locs z43 hl hw hf
          replace hf := h_iter hf
          unfold f_X6_crowd_L43 at hf
          refine lv_iload hx hb dX6_crowd_43 (lv_at hl 4 rfl) ?_
          refine lv_aload_n hx hb dX6_crowd_45 rfl (lv_at hl 0 rfl) ?_
          refine gf_X6_49 cx hw hM dX6_crowd_46 ?_
          refine lv_aload_n hx hb dX6_crowd_49 rfl (lv_at hl 0 rfl) ?_
          refine gf_X6_257 cx hw hM dX6_crowd_50 ?_
          refine r_iald cx hw (hM.2.2.1 24 rfl) rfl rfl hf dX6_crowd_53 (fun hf => ?_)
          refine lv_icmp_ge hx hb dX6_crowd_54 (tgt := 88) rfl (fun hc7 => ?_) (fun hc7 => ?_)
          · replace hf := h_pos hc7 hf
            exact hX43 _ _ _ z43.1 (lv_sub hl [0, 1, 2, 3] rfl) hw hf
          replace hf := h_neg hc7 hf
          refine lv_aload_n hx hb dX6_crowd_57 rfl (lv_at hl 0 rfl) ?_
          refine lv_iload hx hb dX6_crowd_58 (lv_at hl 4 rfl) ?_
          refine lv_iload_n hx hb dX6_crowd_60 rfl (lv_at hl 1 rfl) ?_
          refine r_V_i (As := [.int z43.2, .int x1]) (rest := []) cx hw hf hM.2.1 (by rw [hM.1]; rfl) lk_X6_366 (fun q8 hq => k_X6_menIn l g hg  hM S z43.2 x1 q8 hq) ⟨⟨rfl, rfl⟩, Nat.le_of_ble_eq_true rfl, Nat.le_of_ble_eq_true rfl⟩ rfl hl.1 rfl (Nat.le_of_ble_eq_true rfl) dX6_crowd_61 ⟨Nat.zero_le _, Nat.zero_le _⟩ (fun q8 H locs hw hf => ?_)
          refine r_S_i (As := [.int q8]) (rest := []) cx hw hf lk_X6_369 (fun q9 hq => k_X6_bits l g hg   S q8 q9 hq) ⟨⟨rfl, rfl⟩, Nat.le_of_ble_eq_true rfl, Nat.le_of_ble_eq_true rfl⟩ rfl hl.1 rfl (Nat.le_of_ble_eq_true rfl) dX6_crowd_64 ⟨Nat.zero_le _, Nat.zero_le _⟩ (fun q9 H locs hw hf => ?_)
          refine lv_aload_n hx hb dX6_crowd_67 rfl (lv_at hl 0 rfl) ?_
          refine lv_iload_n hx hb dX6_crowd_68 rfl (lv_at hl 3 rfl) ?_
          refine lv_iload_n hx hb dX6_crowd_69 rfl (lv_at hl 1 rfl) ?_
          refine r_V_i (As := [.int z43.1, .int x1]) (rest := [.int q9]) cx hw hf hM.2.1 (by rw [hM.1]; rfl) lk_X6_366 (fun q10 hq => k_X6_menIn l g hg  hM S z43.1 x1 q10 hq) ⟨⟨rfl, rfl⟩, Nat.le_of_ble_eq_true rfl, Nat.le_of_ble_eq_true rfl⟩ rfl hl.1 rfl (Nat.le_of_ble_eq_true rfl) dX6_crowd_70 ⟨Nat.zero_le _, Nat.zero_le _⟩ (fun q10 H locs hw hf => ?_)
          refine r_S_i (As := [.int q10]) (rest := [.int q9]) cx hw hf lk_X6_369 (fun q11 hq => k_X6_bits l g hg   S q10 q11 hq) ⟨⟨rfl, rfl⟩, Nat.le_of_ble_eq_true rfl, Nat.le_of_ble_eq_true rfl⟩ rfl hl.1 rfl (Nat.le_of_ble_eq_true rfl) dX6_crowd_73 ⟨Nat.zero_le _, Nat.zero_le _⟩ (fun q11 H locs hw hf => ?_)
          refine lv_icmp_le hx hb dX6_crowd_76 (tgt := 82) rfl (fun hc12 => ?_) (fun hc12 => ?_)
          · replace hf := h_pos hc12 hf
            refine lv_iinc hx hb dX6_crowd_82 hl (k := 4) rfl (congrArg (HAdd.hAdd _) (show Int32.ofInt (1) = 1 by decide)) (by decide) (lv' := [(4, .int (z43.2 + 1)), (0, .ref (gg_o g 0)), (1, .int x1), (2, .int x2), (3, .int z43.1)]) rfl (fun ls hl => ?_)
            refine lv_goto hx hb dX6_crowd_85 (tgt := 43) rfl ?_
            exact ih43 _ _ _ (z43.1, (z43.2 + 1)) (lv_sub hl [1, 2, 3, 4, 0] rfl) hw hf
          replace hf := h_neg hc12 hf
          refine lv_iload hx hb dX6_crowd_79 (lv_at hl 4 rfl) ?_
          refine lv_istore_n hx hb dX6_crowd_81 rfl hl (by decide) (lv' := [(3, .int z43.2), (0, .ref (gg_o g 0)), (1, .int x1), (2, .int x2), (4, .int z43.2)]) rfl (fun ls hl => ?_)
          refine lv_iinc hx hb dX6_crowd_82 hl (k := 4) rfl (congrArg (HAdd.hAdd _) (show Int32.ofInt (1) = 1 by decide)) (by decide) (lv' := [(4, .int (z43.2 + 1)), (3, .int z43.2), (0, .ref (gg_o g 0)), (1, .int x1), (2, .int x2)]) rfl (fun ls hl => ?_)
          refine lv_goto hx hb dX6_crowd_85 (tgt := 43) rfl ?_
          exact ih43 _ _ _ (z43.2, (z43.2 + 1)) (lv_sub hl [2, 3, 4, 1, 0] rfl) hw hf
      refine L43 q6 x1 x2 _ (fun ls H locs e13 hl hw hf => ?_) FU _ _ _ ((0 : Int32), (1 : Int32)) (lv_sub hl [2, 3, 4, 1, 0] rfl) hw (h_assoc hf)
      try dsimp only at hf
      refine lv_iload_n hx hb dX6_crowd_88 rfl (lv_at hl 2 rfl) ?_
      refine lv_if_ne hx hb dX6_crowd_89 (tgt := 96) rfl (fun hc14 => ?_) (fun hc14 => ?_)
      · replace hf := h_neg hc14 hf
        refine lv_aload_n hx hb dX6_crowd_96 rfl (lv_at hl 0 rfl) ?_
        refine lv_iload_n hx hb dX6_crowd_97 rfl (lv_at hl 3 rfl) ?_
        refine lv_iload_n hx hb dX6_crowd_98 rfl (lv_at hl 1 rfl) ?_
        refine r_V_i (As := [.int e13, .int x1]) (rest := []) cx hw hf hM.2.1 (by rw [hM.1]; rfl) lk_X6_366 (fun q15 hq => k_X6_menIn l g hg  hM q6 e13 x1 q15 hq) ⟨⟨rfl, rfl⟩, Nat.le_of_ble_eq_true rfl, Nat.le_of_ble_eq_true rfl⟩ rfl hl.1 rfl (Nat.le_of_ble_eq_true rfl) dX6_crowd_99 ⟨Nat.zero_le _, Nat.zero_le _⟩ (fun q15 H locs hw hf => ?_)
        refine r_S_i (As := [.int q15]) (rest := []) cx hw hf lk_X6_369 (fun q16 hq => k_X6_bits l g hg   q6 q15 q16 hq) ⟨⟨rfl, rfl⟩, Nat.le_of_ble_eq_true rfl, Nat.le_of_ble_eq_true rfl⟩ rfl hl.1 rfl (Nat.le_of_ble_eq_true rfl) dX6_crowd_102 ⟨Nat.zero_le _, Nat.zero_le _⟩ (fun q16 H locs hw hf => ?_)
        exact r_iretw cx hw hr hlk hf dX6_crowd_105
      replace hf := h_pos hc14 hf
      refine lv_iload_n hx hb dX6_crowd_92 rfl (lv_at hl 3 rfl) ?_
      refine lv_goto hx hb dX6_crowd_93 (tgt := 105) rfl ?_
      exact r_iretw cx hw hr hlk hf dX6_crowd_105
    replace hf := h_pos hc5 hf
    refine lv_bipush (v := -2) hx hb dX6_crowd_31 (by decide) ?_
    exact r_iretw cx hw hr hlk hf dX6_crowd_33
  replace hf := h_pos hc4 hf
  refine lv_iconst (v := -1) hx hb dX6_crowd_17 (by decide) ?_
  exact r_iretw cx hw hr hlk hf dX6_crowd_18
theorem dX6_ghosts_0 : decode cX6_ghosts 0 = .ok (.aload_n 0, 1) := by decide +kernel
theorem dX6_ghosts_1 : decode cX6_ghosts 1 = .ok (.iload_n 1, 1) := by decide +kernel
theorem dX6_ghosts_2 : decode cX6_ghosts 2 = .ok (.invokevirtual 437, 3) := by decide +kernel
theorem dX6_ghosts_5 : decode cX6_ghosts 5 = .ok (.ifCond .ne 5, 3) := by decide +kernel
theorem dX6_ghosts_8 : decode cX6_ghosts 8 = .ok (.iconst (-1), 1) := by decide +kernel
theorem dX6_ghosts_9 : decode cX6_ghosts 9 = .ok (.ireturn, 1) := by decide +kernel
theorem dX6_ghosts_10 : decode cX6_ghosts 10 = .ok (.aload_n 0, 1) := by decide +kernel
theorem dX6_ghosts_11 : decode cX6_ghosts 11 = .ok (.invokevirtual 419, 3) := by decide +kernel
theorem dX6_ghosts_14 : decode cX6_ghosts 14 = .ok (.iconst 0, 1) := by decide +kernel
theorem dX6_ghosts_15 : decode cX6_ghosts 15 = .ok (.istore_n 2, 1) := by decide +kernel
theorem dX6_ghosts_16 : decode cX6_ghosts 16 = .ok (.iconst 0, 1) := by decide +kernel
theorem dX6_ghosts_17 : decode cX6_ghosts 17 = .ok (.istore_n 3, 1) := by decide +kernel
theorem dX6_ghosts_18 : decode cX6_ghosts 18 = .ok (.iload_n 3, 1) := by decide +kernel
theorem dX6_ghosts_19 : decode cX6_ghosts 19 = .ok (.aload_n 0, 1) := by decide +kernel
theorem dX6_ghosts_20 : decode cX6_ghosts 20 = .ok (.getfield 70, 3) := by decide +kernel
theorem dX6_ghosts_23 : decode cX6_ghosts 23 = .ok (.aload_n 0, 1) := by decide +kernel
theorem dX6_ghosts_24 : decode cX6_ghosts 24 = .ok (.getfield 257, 3) := by decide +kernel
theorem dX6_ghosts_27 : decode cX6_ghosts 27 = .ok (.iaload, 1) := by decide +kernel
theorem dX6_ghosts_28 : decode cX6_ghosts 28 = .ok (.if_icmp .ge 69, 3) := by decide +kernel
theorem dX6_ghosts_31 : decode cX6_ghosts 31 = .ok (.aload_n 0, 1) := by decide +kernel
theorem dX6_ghosts_32 : decode cX6_ghosts 32 = .ok (.iload_n 3, 1) := by decide +kernel
theorem dX6_ghosts_33 : decode cX6_ghosts 33 = .ok (.aload_n 0, 1) := by decide +kernel
theorem dX6_ghosts_34 : decode cX6_ghosts 34 = .ok (.getfield 348, 3) := by decide +kernel
theorem dX6_ghosts_37 : decode cX6_ghosts 37 = .ok (.invokevirtual 392, 3) := by decide +kernel
theorem dX6_ghosts_40 : decode cX6_ghosts 40 = .ok (.iload_n 1, 1) := by decide +kernel
theorem dX6_ghosts_41 : decode cX6_ghosts 41 = .ok (.if_icmp .eq 6, 3) := by decide +kernel
theorem dX6_ghosts_44 : decode cX6_ghosts 44 = .ok (.goto 47, 3) := by decide +kernel
theorem dX6_ghosts_47 : decode cX6_ghosts 47 = .ok (.aload_n 0, 1) := by decide +kernel
theorem dX6_ghosts_48 : decode cX6_ghosts 48 = .ok (.iload_n 3, 1) := by decide +kernel
theorem dX6_ghosts_49 : decode cX6_ghosts 49 = .ok (.aload_n 0, 1) := by decide +kernel
theorem dX6_ghosts_50 : decode cX6_ghosts 50 = .ok (.getfield 348, 3) := by decide +kernel
theorem dX6_ghosts_53 : decode cX6_ghosts 53 = .ok (.invokevirtual 395, 3) := by decide +kernel
theorem dX6_ghosts_56 : decode cX6_ghosts 56 = .ok (.istore 4, 2) := by decide +kernel
theorem dX6_ghosts_58 : decode cX6_ghosts 58 = .ok (.iload 4, 2) := by decide +kernel
theorem dX6_ghosts_60 : decode cX6_ghosts 60 = .ok (.ifCond .lt 31, 3) := by decide +kernel
theorem dX6_ghosts_63 : decode cX6_ghosts 63 = .ok (.iload_n 2, 1) := by decide +kernel
theorem dX6_ghosts_64 : decode cX6_ghosts 64 = .ok (.aload_n 0, 1) := by decide +kernel
theorem dX6_ghosts_65 : decode cX6_ghosts 65 = .ok (.iload_n 3, 1) := by decide +kernel
theorem dX6_ghosts_66 : decode cX6_ghosts 66 = .ok (.iload 4, 2) := by decide +kernel
theorem dX6_ghosts_68 : decode cX6_ghosts 68 = .ok (.invokevirtual 422, 3) := by decide +kernel
theorem dX6_ghosts_71 : decode cX6_ghosts 71 = .ok (.aload_n 0, 1) := by decide +kernel
theorem dX6_ghosts_72 : decode cX6_ghosts 72 = .ok (.aload_n 0, 1) := by decide +kernel
theorem dX6_ghosts_73 : decode cX6_ghosts 73 = .ok (.iload_n 3, 1) := by decide +kernel
theorem dX6_ghosts_74 : decode cX6_ghosts 74 = .ok (.iload 4, 2) := by decide +kernel
theorem dX6_ghosts_76 : decode cX6_ghosts 76 = .ok (.invokevirtual 392, 3) := by decide +kernel
theorem dX6_ghosts_79 : decode cX6_ghosts 79 = .ok (.aload_n 0, 1) := by decide +kernel
theorem dX6_ghosts_80 : decode cX6_ghosts 80 = .ok (.getfield 348, 3) := by decide +kernel
theorem dX6_ghosts_83 : decode cX6_ghosts 83 = .ok (.invokevirtual 366, 3) := by decide +kernel
theorem dX6_ghosts_86 : decode cX6_ghosts 86 = .ok (.iconst (-1), 1) := by decide +kernel
theorem dX6_ghosts_87 : decode cX6_ghosts 87 = .ok (.ixor, 1) := by decide +kernel
theorem dX6_ghosts_88 : decode cX6_ghosts 88 = .ok (.iand, 1) := by decide +kernel
theorem dX6_ghosts_89 : decode cX6_ghosts 89 = .ok (.ior, 1) := by decide +kernel
theorem dX6_ghosts_90 : decode cX6_ghosts 90 = .ok (.istore_n 2, 1) := by decide +kernel
theorem dX6_ghosts_91 : decode cX6_ghosts 91 = .ok (.iinc 3 1, 3) := by decide +kernel
theorem dX6_ghosts_94 : decode cX6_ghosts 94 = .ok (.goto (-76), 3) := by decide +kernel
theorem dX6_ghosts_97 : decode cX6_ghosts 97 = .ok (.iload_n 2, 1) := by decide +kernel
theorem dX6_ghosts_98 : decode cX6_ghosts 98 = .ok (.ireturn, 1) := by decide +kernel
abbrev rm_X6_ghosts : Room := { frames := 2, cells := 0, slots := 0, locals := 46 }
def f_X6_ghosts_L18 (S : St) (x1 : Int32) (z18 : Int32 × Int32) : Option ((Int32 × Int32) ⊕ (Int32 × St)) :=
  chk (ib (st_I S (ky 0 18)) 2) (if (st_A S (ky 0 31) (st_I S (ky 0 18)).toNatClampNeg) ≤ z18.2 then (some (.inr (z18.1, S))) else ((f_X6_hungIn  S z18.2 (st_I S (ky 0 57))).bind (fun (q5 : Int32) => if q5 = x1 then ((f_X6_showsAt  S z18.2 (st_I S (ky 0 57))).bind (fun (q7 : Int32) => if q7 < 0 then (some (.inl (z18.1, (z18.2 + 1)))) else ((f_X6_menShown  S z18.2 q7).bind (fun (q9 : Int32) => (f_X6_hungIn  S z18.2 q7).bind (fun (q10 : Int32) => (f_X6_menIn  S q10 (st_I S (ky 0 57))).bind (fun (q11 : Int32) => lt_v (z18.1 ||| (q9 &&& (q11 ^^^ (-1 : Int32)))) (fun (u12 : Int32) => some (.inl (u12, (z18.2 + 1)))))))))) else (some (.inl (z18.1, (z18.2 + 1)))))))
def f_X6_ghosts (S : St) (x1 : Int32) : Option (Int32 × St) :=
  (f_X6_isRoom  S x1).bind (fun (q1 : Int32) => if q1 = 0 then (some ((-1 : Int32), S)) else ((f_X6_copies  S ).bind (fun (q3 : St) => iter (f_X6_ghosts_L18  q3 x1) FU ((0 : Int32), (0 : Int32)))))
set_option maxRecDepth 100000 in
set_option maxHeartbeats 4000000 in
theorem k_X6_ghosts (l : Launch) (g : GG) (hg : gd wd_M g)  (hM : hs wd_M g 0 6) (S : St) (x1 : Int32) (q : Int32 × St) (hf : f_X6_ghosts  S x1 = some q) : Met l yX6_ghosts (Cond.code yX6_ghosts cX6_ghosts 5 (some .int) :: gw_tbl) rm_X6_ghosts (va_Pc [.ref (gg_o g 0), .int x1] (wI wd_M g S)) (qc_w wd_M g q) 0 0 (aw g) := by
  refine mt_start (own := RX6) hg (by decide) rfl (Nat.le_of_ble_eq_true rfl) (fun p e s m args below meth c ls H locs cx hw hr hlk hl => ?_)
  have hx := cx.1
  have hb := cx.2.1
  have hown := cx.2.2.2.1
  have hts := cx.2.2.2.2.1
  have hl : lv_has ls 5 [(0, .ref (gg_o g 0)), (1, .int x1)] := hl
  replace hf := h_top hf
  unfold f_X6_ghosts at hf
  refine lv_aload_n hx hb dX6_ghosts_0 rfl (lv_at hl 0 rfl) ?_
  refine lv_iload_n hx hb dX6_ghosts_1 rfl (lv_at hl 1 rfl) ?_
  refine r_V_i (As := [.int x1]) (rest := []) cx hw hf hM.2.1 (by rw [hM.1]; rfl) lk_X6_437 (fun q1 hq => k_X6_isRoom l g hg  hM S x1 q1 hq) ⟨⟨rfl, rfl⟩, Nat.le_of_ble_eq_true rfl, Nat.le_of_ble_eq_true rfl⟩ rfl hl.1 rfl (Nat.le_of_ble_eq_true rfl) dX6_ghosts_2 ⟨Nat.zero_le _, Nat.zero_le _⟩ (fun q1 H locs hw hf => ?_)
  refine lv_if_ne hx hb dX6_ghosts_5 (tgt := 10) rfl (fun hc2 => ?_) (fun hc2 => ?_)
  · replace hf := h_neg hc2 hf
    refine lv_aload_n hx hb dX6_ghosts_10 rfl (lv_at hl 0 rfl) ?_
    refine r_V_v (As := []) (rest := []) cx hw hf hM.2.1 (by rw [hM.1]; rfl) lk_X6_419 (fun q3 hq => k_X6_copies l g hg  hM S  q3 hq) ⟨⟨rfl, rfl⟩, Nat.le_of_ble_eq_true rfl, Nat.le_of_ble_eq_true rfl⟩ rfl hl.1 rfl (Nat.le_of_ble_eq_true rfl) dX6_ghosts_11 ⟨Nat.zero_le _, Nat.zero_le _⟩ (fun q3 H locs hw hf => ?_)
    refine lv_iconst (v := 0) hx hb dX6_ghosts_14 (by decide) ?_
    refine lv_istore_n hx hb dX6_ghosts_15 rfl hl (by decide) (lv' := [(2, .int (0 : Int32)), (0, .ref (gg_o g 0)), (1, .int x1)]) rfl (fun ls hl => ?_)
    refine lv_iconst (v := 0) hx hb dX6_ghosts_16 (by decide) ?_
    refine lv_istore_n hx hb dX6_ghosts_17 rfl hl (by decide) (lv' := [(3, .int (0 : Int32)), (2, .int (0 : Int32)), (0, .ref (gg_o g 0)), (1, .int x1)]) rfl (fun ls hl => ?_)
    have L18 : ∀ (S : St) (x1 : Int32) (aft18 : (Int32 × St) → Option (Int32 × St)), (∀ v : Int32 × St, aft18 v = some q → (some v : Option (Int32 × St)).bind some = some q) → ∀ (n18 : Nat) (ls : Array Slot) (H : Heap) (locs : List Loc) (z18 : Int32 × Int32), lv_has ls 5 [(0, .ref (gg_o g 0)), (1, .int x1), (2, .int z18.1), (3, .int z18.2)] → HH wd_M g s S H locs → (iter (f_X6_ghosts_L18  S x1) n18 z18).bind aft18 = some q → W p l e rm_X6_ghosts s m args below meth c H locs 0 0 (MQ below (qc_w wd_M g q) args s 0 0 (aw g)) (F0 m 18 ls []) := by
      intro S x1 aft18 hR18 n18
      induction n18 with
      | zero => intro ls H locs z18 hl hw hf; exact h_iter0 hf
      | succ n18 ih18 =>
        intro ls H locs z18 hl hw hf
        replace hf := h_iter hf
        unfold f_X6_ghosts_L18 at hf
        refine lv_iload_n hx hb dX6_ghosts_18 rfl (lv_at hl 3 rfl) ?_
        refine lv_aload_n hx hb dX6_ghosts_19 rfl (lv_at hl 0 rfl) ?_
        refine gf_X6_70 cx hw hM dX6_ghosts_20 ?_
        refine lv_aload_n hx hb dX6_ghosts_23 rfl (lv_at hl 0 rfl) ?_
        refine gf_X6_257 cx hw hM dX6_ghosts_24 ?_
        refine r_iald cx hw (hM.2.2.1 31 rfl) rfl rfl hf dX6_ghosts_27 (fun hf => ?_)
        refine lv_icmp_ge hx hb dX6_ghosts_28 (tgt := 97) rfl (fun hc4 => ?_) (fun hc4 => ?_)
        · replace hf := h_pos hc4 hf
          refine lv_iload_n hx hb dX6_ghosts_97 rfl (lv_at hl 2 rfl) ?_
          replace hf := hR18 (z18.1, S) hf
          exact r_iretw cx hw hr hlk hf dX6_ghosts_98
        replace hf := h_neg hc4 hf
        refine lv_aload_n hx hb dX6_ghosts_31 rfl (lv_at hl 0 rfl) ?_
        refine lv_iload_n hx hb dX6_ghosts_32 rfl (lv_at hl 3 rfl) ?_
        refine lv_aload_n hx hb dX6_ghosts_33 rfl (lv_at hl 0 rfl) ?_
        refine gf_X6_348 cx hw hM dX6_ghosts_34 ?_
        refine r_V_i (As := [.int z18.2, .int (st_I S (ky 0 57))]) (rest := []) cx hw hf hM.2.1 (by rw [hM.1]; rfl) lk_X6_392 (fun q5 hq => k_X6_hungIn l g hg  hM S z18.2 (st_I S (ky 0 57)) q5 hq) ⟨⟨rfl, rfl⟩, Nat.le_of_ble_eq_true rfl, Nat.le_of_ble_eq_true rfl⟩ rfl hl.1 rfl (Nat.le_of_ble_eq_true rfl) dX6_ghosts_37 ⟨Nat.zero_le _, Nat.zero_le _⟩ (fun q5 H locs hw hf => ?_)
        refine lv_iload_n hx hb dX6_ghosts_40 rfl (lv_at hl 1 rfl) ?_
        refine lv_icmp_eq hx hb dX6_ghosts_41 (tgt := 47) rfl (fun hc6 => ?_) (fun hc6 => ?_)
        · replace hf := h_pos hc6 hf
          refine lv_aload_n hx hb dX6_ghosts_47 rfl (lv_at hl 0 rfl) ?_
          refine lv_iload_n hx hb dX6_ghosts_48 rfl (lv_at hl 3 rfl) ?_
          refine lv_aload_n hx hb dX6_ghosts_49 rfl (lv_at hl 0 rfl) ?_
          refine gf_X6_348 cx hw hM dX6_ghosts_50 ?_
          refine r_V_i (As := [.int z18.2, .int (st_I S (ky 0 57))]) (rest := []) cx hw hf hM.2.1 (by rw [hM.1]; rfl) lk_X6_395 (fun q7 hq => k_X6_showsAt l g hg  hM S z18.2 (st_I S (ky 0 57)) q7 hq) ⟨⟨rfl, rfl⟩, Nat.le_of_ble_eq_true rfl, Nat.le_of_ble_eq_true rfl⟩ rfl hl.1 rfl (Nat.le_of_ble_eq_true rfl) dX6_ghosts_53 ⟨Nat.zero_le _, Nat.zero_le _⟩ (fun q7 H locs hw hf => ?_)
          refine lv_istore hx hb dX6_ghosts_56 hl (by decide) (lv' := [(4, .int q7), (0, .ref (gg_o g 0)), (1, .int x1), (2, .int z18.1), (3, .int z18.2)]) rfl (fun ls hl => ?_)
          refine lv_iload hx hb dX6_ghosts_58 (lv_at hl 0 rfl) ?_
          refine lv_if_lt hx hb dX6_ghosts_60 (tgt := 91) rfl (fun hc8 => ?_) (fun hc8 => ?_)
          · replace hf := h_pos hc8 hf
            refine lv_iinc hx hb dX6_ghosts_91 hl (k := 4) rfl (congrArg (HAdd.hAdd _) (show Int32.ofInt (1) = 1 by decide)) (by decide) (lv' := [(3, .int (z18.2 + 1)), (4, .int q7), (0, .ref (gg_o g 0)), (1, .int x1), (2, .int z18.1)]) rfl (fun ls hl => ?_)
            refine lv_goto hx hb dX6_ghosts_94 (tgt := 18) rfl ?_
            exact ih18 _ _ _ (z18.1, (z18.2 + 1)) (lv_sub hl [2, 3, 4, 0] rfl) hw hf
          replace hf := h_neg hc8 hf
          refine lv_iload_n hx hb dX6_ghosts_63 rfl (lv_at hl 3 rfl) ?_
          refine lv_aload_n hx hb dX6_ghosts_64 rfl (lv_at hl 1 rfl) ?_
          refine lv_iload_n hx hb dX6_ghosts_65 rfl (lv_at hl 4 rfl) ?_
          refine lv_iload hx hb dX6_ghosts_66 (lv_at hl 0 rfl) ?_
          refine r_V_i (As := [.int z18.2, .int q7]) (rest := [.int z18.1]) cx hw hf hM.2.1 (by rw [hM.1]; rfl) lk_X6_422 (fun q9 hq => k_X6_menShown l g hg  hM S z18.2 q7 q9 hq) ⟨⟨rfl, rfl⟩, Nat.le_of_ble_eq_true rfl, Nat.le_of_ble_eq_true rfl⟩ rfl hl.1 rfl (Nat.le_of_ble_eq_true rfl) dX6_ghosts_68 ⟨Nat.zero_le _, Nat.zero_le _⟩ (fun q9 H locs hw hf => ?_)
          refine lv_aload_n hx hb dX6_ghosts_71 rfl (lv_at hl 1 rfl) ?_
          refine lv_aload_n hx hb dX6_ghosts_72 rfl (lv_at hl 1 rfl) ?_
          refine lv_iload_n hx hb dX6_ghosts_73 rfl (lv_at hl 4 rfl) ?_
          refine lv_iload hx hb dX6_ghosts_74 (lv_at hl 0 rfl) ?_
          refine r_V_i (As := [.int z18.2, .int q7]) (rest := [.ref (gg_o g 0), .int q9, .int z18.1]) cx hw hf hM.2.1 (by rw [hM.1]; rfl) lk_X6_392 (fun q10 hq => k_X6_hungIn l g hg  hM S z18.2 q7 q10 hq) ⟨⟨rfl, rfl⟩, Nat.le_of_ble_eq_true rfl, Nat.le_of_ble_eq_true rfl⟩ rfl hl.1 rfl (Nat.le_of_ble_eq_true rfl) dX6_ghosts_76 ⟨Nat.zero_le _, Nat.zero_le _⟩ (fun q10 H locs hw hf => ?_)
          refine lv_aload_n hx hb dX6_ghosts_79 rfl (lv_at hl 1 rfl) ?_
          refine gf_X6_348 cx hw hM dX6_ghosts_80 ?_
          refine r_V_i (As := [.int q10, .int (st_I S (ky 0 57))]) (rest := [.int q9, .int z18.1]) cx hw hf hM.2.1 (by rw [hM.1]; rfl) lk_X6_366 (fun q11 hq => k_X6_menIn l g hg  hM S q10 (st_I S (ky 0 57)) q11 hq) ⟨⟨rfl, rfl⟩, Nat.le_of_ble_eq_true rfl, Nat.le_of_ble_eq_true rfl⟩ rfl hl.1 rfl (Nat.le_of_ble_eq_true rfl) dX6_ghosts_83 ⟨Nat.zero_le _, Nat.zero_le _⟩ (fun q11 H locs hw hf => ?_)
          refine lv_iconst (v := -1) hx hb dX6_ghosts_86 (by decide) ?_
          refine lv_ixor hx hb dX6_ghosts_87 ?_
          refine lv_iand hx hb dX6_ghosts_88 ?_
          refine lv_ior hx hb dX6_ghosts_89 ?_
          refine r_leti hf (fun u12 hf => ?_)
          refine lv_istore_n hx hb dX6_ghosts_90 rfl hl (by decide) (lv' := [(2, .int u12), (4, .int q7), (0, .ref (gg_o g 0)), (1, .int x1), (3, .int z18.2)]) rfl (fun ls hl => ?_)
          refine lv_iinc hx hb dX6_ghosts_91 hl (k := 4) rfl (congrArg (HAdd.hAdd _) (show Int32.ofInt (1) = 1 by decide)) (by decide) (lv' := [(3, .int (z18.2 + 1)), (2, .int u12), (4, .int q7), (0, .ref (gg_o g 0)), (1, .int x1)]) rfl (fun ls hl => ?_)
          refine lv_goto hx hb dX6_ghosts_94 (tgt := 18) rfl ?_
          exact ih18 _ _ _ (u12, (z18.2 + 1)) (lv_sub hl [3, 4, 1, 0] rfl) hw hf
        replace hf := h_neg hc6 hf
        refine lv_goto hx hb dX6_ghosts_44 (tgt := 91) rfl ?_
        refine lv_iinc hx hb dX6_ghosts_91 hl (k := 3) rfl (congrArg (HAdd.hAdd _) (show Int32.ofInt (1) = 1 by decide)) (by decide) (lv' := [(3, .int (z18.2 + 1)), (0, .ref (gg_o g 0)), (1, .int x1), (2, .int z18.1)]) rfl (fun ls hl => ?_)
        refine lv_goto hx hb dX6_ghosts_94 (tgt := 18) rfl ?_
        exact ih18 _ _ _ (z18.1, (z18.2 + 1)) (lv_sub hl [1, 2, 3, 0] rfl) hw hf
    exact L18 q3 x1 some (fun v h => h) FU _ _ _ ((0 : Int32), (0 : Int32)) (lv_sub hl [2, 3, 1, 0] rfl) hw hf
  replace hf := h_pos hc2 hf
  refine lv_iconst (v := -1) hx hb dX6_ghosts_8 (by decide) ?_
  exact r_iretw cx hw hr hlk hf dX6_ghosts_9
theorem dX6_oldest_0 : decode cX6_oldest 0 = .ok (.iload_n 1, 1) := by decide +kernel
theorem dX6_oldest_1 : decode cX6_oldest 1 = .ok (.iconst 0, 1) := by decide +kernel
theorem dX6_oldest_2 : decode cX6_oldest 2 = .ok (.iconst 1, 1) := by decide +kernel
theorem dX6_oldest_3 : decode cX6_oldest 3 = .ok (.invokestatic 341, 3) := by decide +kernel
theorem dX6_oldest_6 : decode cX6_oldest 6 = .ok (.ifCond .ne 5, 3) := by decide +kernel
theorem dX6_oldest_9 : decode cX6_oldest 9 = .ok (.iconst (-1), 1) := by decide +kernel
theorem dX6_oldest_10 : decode cX6_oldest 10 = .ok (.ireturn, 1) := by decide +kernel
theorem dX6_oldest_11 : decode cX6_oldest 11 = .ok (.aload_n 0, 1) := by decide +kernel
theorem dX6_oldest_12 : decode cX6_oldest 12 = .ok (.invokevirtual 419, 3) := by decide +kernel
theorem dX6_oldest_15 : decode cX6_oldest 15 = .ok (.bipush (-2), 2) := by decide +kernel
theorem dX6_oldest_17 : decode cX6_oldest 17 = .ok (.istore_n 2, 1) := by decide +kernel
theorem dX6_oldest_18 : decode cX6_oldest 18 = .ok (.bipush (-2), 2) := by decide +kernel
theorem dX6_oldest_20 : decode cX6_oldest 20 = .ok (.istore_n 3, 1) := by decide +kernel
theorem dX6_oldest_21 : decode cX6_oldest 21 = .ok (.iconst 0, 1) := by decide +kernel
theorem dX6_oldest_22 : decode cX6_oldest 22 = .ok (.istore 4, 2) := by decide +kernel
theorem dX6_oldest_24 : decode cX6_oldest 24 = .ok (.iload 4, 2) := by decide +kernel
theorem dX6_oldest_26 : decode cX6_oldest 26 = .ok (.aload_n 0, 1) := by decide +kernel
theorem dX6_oldest_27 : decode cX6_oldest 27 = .ok (.getfield 70, 3) := by decide +kernel
theorem dX6_oldest_30 : decode cX6_oldest 30 = .ok (.aload_n 0, 1) := by decide +kernel
theorem dX6_oldest_31 : decode cX6_oldest 31 = .ok (.getfield 257, 3) := by decide +kernel
theorem dX6_oldest_34 : decode cX6_oldest 34 = .ok (.iaload, 1) := by decide +kernel
theorem dX6_oldest_35 : decode cX6_oldest 35 = .ok (.if_icmp .ge 45, 3) := by decide +kernel
theorem dX6_oldest_38 : decode cX6_oldest 38 = .ok (.aload_n 0, 1) := by decide +kernel
theorem dX6_oldest_39 : decode cX6_oldest 39 = .ok (.iload 4, 2) := by decide +kernel
theorem dX6_oldest_41 : decode cX6_oldest 41 = .ok (.aload_n 0, 1) := by decide +kernel
theorem dX6_oldest_42 : decode cX6_oldest 42 = .ok (.getfield 348, 3) := by decide +kernel
theorem dX6_oldest_45 : decode cX6_oldest 45 = .ok (.invokevirtual 395, 3) := by decide +kernel
theorem dX6_oldest_48 : decode cX6_oldest 48 = .ok (.istore 5, 2) := by decide +kernel
theorem dX6_oldest_50 : decode cX6_oldest 50 = .ok (.iload 5, 2) := by decide +kernel
theorem dX6_oldest_52 : decode cX6_oldest 52 = .ok (.ifCond .lt 22, 3) := by decide +kernel
theorem dX6_oldest_55 : decode cX6_oldest 55 = .ok (.iload_n 2, 1) := by decide +kernel
theorem dX6_oldest_56 : decode cX6_oldest 56 = .ok (.ifCond .lt 12, 3) := by decide +kernel
theorem dX6_oldest_59 : decode cX6_oldest 59 = .ok (.iload 5, 2) := by decide +kernel
theorem dX6_oldest_61 : decode cX6_oldest 61 = .ok (.iload_n 3, 1) := by decide +kernel
theorem dX6_oldest_62 : decode cX6_oldest 62 = .ok (.if_icmp .lt 6, 3) := by decide +kernel
theorem dX6_oldest_65 : decode cX6_oldest 65 = .ok (.goto 9, 3) := by decide +kernel
theorem dX6_oldest_68 : decode cX6_oldest 68 = .ok (.iload 4, 2) := by decide +kernel
theorem dX6_oldest_70 : decode cX6_oldest 70 = .ok (.istore_n 2, 1) := by decide +kernel
theorem dX6_oldest_71 : decode cX6_oldest 71 = .ok (.iload 5, 2) := by decide +kernel
theorem dX6_oldest_73 : decode cX6_oldest 73 = .ok (.istore_n 3, 1) := by decide +kernel
theorem dX6_oldest_74 : decode cX6_oldest 74 = .ok (.iinc 4 1, 3) := by decide +kernel
theorem dX6_oldest_77 : decode cX6_oldest 77 = .ok (.goto (-53), 3) := by decide +kernel
theorem dX6_oldest_80 : decode cX6_oldest 80 = .ok (.iload_n 1, 1) := by decide +kernel
theorem dX6_oldest_81 : decode cX6_oldest 81 = .ok (.ifCond .ne 7, 3) := by decide +kernel
theorem dX6_oldest_84 : decode cX6_oldest 84 = .ok (.iload_n 2, 1) := by decide +kernel
theorem dX6_oldest_85 : decode cX6_oldest 85 = .ok (.goto 4, 3) := by decide +kernel
theorem dX6_oldest_88 : decode cX6_oldest 88 = .ok (.iload_n 3, 1) := by decide +kernel
theorem dX6_oldest_89 : decode cX6_oldest 89 = .ok (.ireturn, 1) := by decide +kernel
abbrev rm_X6_oldest : Room := { frames := 2, cells := 0, slots := 0, locals := 45 }
def f_X6_oldest_L24 (S : St) (x1 : Int32) (z24 : Int32 × Int32 × Int32) : Option ((Int32 × Int32 × Int32) ⊕ (Int32 × Int32)) :=
  chk (ib (st_I S (ky 0 18)) 2) (if (st_A S (ky 0 31) (st_I S (ky 0 18)).toNatClampNeg) ≤ z24.2.2 then (some (.inr (z24.1, z24.2.1))) else ((f_X6_showsAt  S z24.2.2 (st_I S (ky 0 57))).bind (fun (q5 : Int32) => if q5 < 0 then (some (.inl (z24.1, z24.2.1, (z24.2.2 + 1)))) else (if z24.1 < 0 then (some (.inl (z24.2.2, q5, (z24.2.2 + 1)))) else (if q5 < z24.2.1 then (some (.inl (z24.2.2, q5, (z24.2.2 + 1)))) else (some (.inl (z24.1, z24.2.1, (z24.2.2 + 1)))))))))
def f_X6_oldest (S : St) (x1 : Int32) : Option (Int32 × St) :=
  (f_X6_in   x1 (0 : Int32) (1 : Int32)).bind (fun (q1 : Int32) => if q1 = 0 then (some ((-1 : Int32), S)) else ((f_X6_copies  S ).bind (fun (q3 : St) => (iter (f_X6_oldest_L24  q3 x1) FU ((-2 : Int32), (-2 : Int32), (0 : Int32))).bind (fun (u12 : Int32 × Int32) => (fun (e9 : Int32) (e10 : Int32) => if x1 = 0 then (some (e9, q3)) else (some (e10, q3))) u12.1 u12.2))))
set_option maxRecDepth 100000 in
set_option maxHeartbeats 4000000 in
theorem k_X6_oldest (l : Launch) (g : GG) (hg : gd wd_M g)  (hM : hs wd_M g 0 6) (S : St) (x1 : Int32) (q : Int32 × St) (hf : f_X6_oldest  S x1 = some q) : Met l yX6_oldest (Cond.code yX6_oldest cX6_oldest 6 (some .int) :: gw_tbl) rm_X6_oldest (va_Pc [.ref (gg_o g 0), .int x1] (wI wd_M g S)) (qc_w wd_M g q) 0 0 (aw g) := by
  refine mt_start (own := RX6) hg (by decide) rfl (Nat.le_of_ble_eq_true rfl) (fun p e s m args below meth c ls H locs cx hw hr hlk hl => ?_)
  have hx := cx.1
  have hb := cx.2.1
  have hown := cx.2.2.2.1
  have hts := cx.2.2.2.2.1
  have hl : lv_has ls 6 [(0, .ref (gg_o g 0)), (1, .int x1)] := hl
  replace hf := h_top hf
  unfold f_X6_oldest at hf
  refine lv_iload_n hx hb dX6_oldest_0 rfl (lv_at hl 1 rfl) ?_
  refine lv_iconst (v := 0) hx hb dX6_oldest_1 (by decide) ?_
  refine lv_iconst (v := 1) hx hb dX6_oldest_2 (by decide) ?_
  refine r_S_i (As := [.int x1, .int (0 : Int32), .int (1 : Int32)]) (rest := []) cx hw hf lk_X6_341 (fun q1 hq => k_X6_in l g hg   S x1 (0 : Int32) (1 : Int32) q1 hq) ⟨⟨rfl, rfl⟩, Nat.le_of_ble_eq_true rfl, Nat.le_of_ble_eq_true rfl⟩ rfl hl.1 rfl (Nat.le_of_ble_eq_true rfl) dX6_oldest_3 ⟨Nat.zero_le _, Nat.zero_le _⟩ (fun q1 H locs hw hf => ?_)
  refine lv_if_ne hx hb dX6_oldest_6 (tgt := 11) rfl (fun hc2 => ?_) (fun hc2 => ?_)
  · replace hf := h_neg hc2 hf
    refine lv_aload_n hx hb dX6_oldest_11 rfl (lv_at hl 0 rfl) ?_
    refine r_V_v (As := []) (rest := []) cx hw hf hM.2.1 (by rw [hM.1]; rfl) lk_X6_419 (fun q3 hq => k_X6_copies l g hg  hM S  q3 hq) ⟨⟨rfl, rfl⟩, Nat.le_of_ble_eq_true rfl, Nat.le_of_ble_eq_true rfl⟩ rfl hl.1 rfl (Nat.le_of_ble_eq_true rfl) dX6_oldest_12 ⟨Nat.zero_le _, Nat.zero_le _⟩ (fun q3 H locs hw hf => ?_)
    refine lv_bipush (v := -2) hx hb dX6_oldest_15 (by decide) ?_
    refine lv_istore_n hx hb dX6_oldest_17 rfl hl (by decide) (lv' := [(2, .int (-2 : Int32)), (0, .ref (gg_o g 0)), (1, .int x1)]) rfl (fun ls hl => ?_)
    refine lv_bipush (v := -2) hx hb dX6_oldest_18 (by decide) ?_
    refine lv_istore_n hx hb dX6_oldest_20 rfl hl (by decide) (lv' := [(3, .int (-2 : Int32)), (2, .int (-2 : Int32)), (0, .ref (gg_o g 0)), (1, .int x1)]) rfl (fun ls hl => ?_)
    refine lv_iconst (v := 0) hx hb dX6_oldest_21 (by decide) ?_
    refine lv_istore hx hb dX6_oldest_22 hl (by decide) (lv' := [(4, .int (0 : Int32)), (3, .int (-2 : Int32)), (2, .int (-2 : Int32)), (0, .ref (gg_o g 0)), (1, .int x1)]) rfl (fun ls hl => ?_)
    have L24 : ∀ (S : St) (x1 : Int32) (aft24 : (Int32 × Int32) → Option (Int32 × St)), (∀ (ls : Array Slot) (H : Heap) (locs : List Loc) (e2 : Int32) (e3 : Int32), lv_has ls 6 [(1, .int x1), (2, .int e2), (3, .int e3)] → HH wd_M g s S H locs → aft24 (e2, e3) = some q → W p l e rm_X6_oldest s m args below meth c H locs 0 0 (MQ below (qc_w wd_M g q) args s 0 0 (aw g)) (F0 m 80 ls [])) → ∀ (n24 : Nat) (ls : Array Slot) (H : Heap) (locs : List Loc) (z24 : Int32 × Int32 × Int32), lv_has ls 6 [(0, .ref (gg_o g 0)), (1, .int x1), (2, .int z24.1), (3, .int z24.2.1), (4, .int z24.2.2)] → HH wd_M g s S H locs → (iter (f_X6_oldest_L24  S x1) n24 z24).bind aft24 = some q → W p l e rm_X6_oldest s m args below meth c H locs 0 0 (MQ below (qc_w wd_M g q) args s 0 0 (aw g)) (F0 m 24 ls []) := by
      intro S x1 aft24 hX24 n24
      induction n24 with
      | zero => intro ls H locs z24 hl hw hf; exact h_iter0 hf
      | succ n24 ih24 =>
        intro ls H locs z24 hl hw hf
        replace hf := h_iter hf
        unfold f_X6_oldest_L24 at hf
        refine lv_iload hx hb dX6_oldest_24 (lv_at hl 4 rfl) ?_
        refine lv_aload_n hx hb dX6_oldest_26 rfl (lv_at hl 0 rfl) ?_
        refine gf_X6_70 cx hw hM dX6_oldest_27 ?_
        refine lv_aload_n hx hb dX6_oldest_30 rfl (lv_at hl 0 rfl) ?_
        refine gf_X6_257 cx hw hM dX6_oldest_31 ?_
        refine r_iald cx hw (hM.2.2.1 31 rfl) rfl rfl hf dX6_oldest_34 (fun hf => ?_)
        refine lv_icmp_ge hx hb dX6_oldest_35 (tgt := 80) rfl (fun hc4 => ?_) (fun hc4 => ?_)
        · replace hf := h_pos hc4 hf
          exact hX24 _ _ _ z24.1 z24.2.1 (lv_sub hl [1, 2, 3] rfl) hw hf
        replace hf := h_neg hc4 hf
        refine lv_aload_n hx hb dX6_oldest_38 rfl (lv_at hl 0 rfl) ?_
        refine lv_iload hx hb dX6_oldest_39 (lv_at hl 4 rfl) ?_
        refine lv_aload_n hx hb dX6_oldest_41 rfl (lv_at hl 0 rfl) ?_
        refine gf_X6_348 cx hw hM dX6_oldest_42 ?_
        refine r_V_i (As := [.int z24.2.2, .int (st_I S (ky 0 57))]) (rest := []) cx hw hf hM.2.1 (by rw [hM.1]; rfl) lk_X6_395 (fun q5 hq => k_X6_showsAt l g hg  hM S z24.2.2 (st_I S (ky 0 57)) q5 hq) ⟨⟨rfl, rfl⟩, Nat.le_of_ble_eq_true rfl, Nat.le_of_ble_eq_true rfl⟩ rfl hl.1 rfl (Nat.le_of_ble_eq_true rfl) dX6_oldest_45 ⟨Nat.zero_le _, Nat.zero_le _⟩ (fun q5 H locs hw hf => ?_)
        refine lv_istore hx hb dX6_oldest_48 hl (by decide) (lv' := [(5, .int q5), (0, .ref (gg_o g 0)), (1, .int x1), (2, .int z24.1), (3, .int z24.2.1), (4, .int z24.2.2)]) rfl (fun ls hl => ?_)
        refine lv_iload hx hb dX6_oldest_50 (lv_at hl 0 rfl) ?_
        refine lv_if_lt hx hb dX6_oldest_52 (tgt := 74) rfl (fun hc6 => ?_) (fun hc6 => ?_)
        · replace hf := h_pos hc6 hf
          refine lv_iinc hx hb dX6_oldest_74 hl (k := 5) rfl (congrArg (HAdd.hAdd _) (show Int32.ofInt (1) = 1 by decide)) (by decide) (lv' := [(4, .int (z24.2.2 + 1)), (5, .int q5), (0, .ref (gg_o g 0)), (1, .int x1), (2, .int z24.1), (3, .int z24.2.1)]) rfl (fun ls hl => ?_)
          refine lv_goto hx hb dX6_oldest_77 (tgt := 24) rfl ?_
          exact ih24 _ _ _ (z24.1, z24.2.1, (z24.2.2 + 1)) (lv_sub hl [2, 3, 4, 5, 0] rfl) hw hf
        replace hf := h_neg hc6 hf
        refine lv_iload_n hx hb dX6_oldest_55 rfl (lv_at hl 3 rfl) ?_
        refine lv_if_lt hx hb dX6_oldest_56 (tgt := 68) rfl (fun hc7 => ?_) (fun hc7 => ?_)
        · replace hf := h_pos hc7 hf
          refine lv_iload hx hb dX6_oldest_68 (lv_at hl 5 rfl) ?_
          refine lv_istore_n hx hb dX6_oldest_70 rfl hl (by decide) (lv' := [(2, .int z24.2.2), (5, .int q5), (0, .ref (gg_o g 0)), (1, .int x1), (3, .int z24.2.1), (4, .int z24.2.2)]) rfl (fun ls hl => ?_)
          refine lv_iload hx hb dX6_oldest_71 (lv_at hl 1 rfl) ?_
          refine lv_istore_n hx hb dX6_oldest_73 rfl hl (by decide) (lv' := [(3, .int q5), (2, .int z24.2.2), (5, .int q5), (0, .ref (gg_o g 0)), (1, .int x1), (4, .int z24.2.2)]) rfl (fun ls hl => ?_)
          refine lv_iinc hx hb dX6_oldest_74 hl (k := 5) rfl (congrArg (HAdd.hAdd _) (show Int32.ofInt (1) = 1 by decide)) (by decide) (lv' := [(4, .int (z24.2.2 + 1)), (3, .int q5), (2, .int z24.2.2), (5, .int q5), (0, .ref (gg_o g 0)), (1, .int x1)]) rfl (fun ls hl => ?_)
          refine lv_goto hx hb dX6_oldest_77 (tgt := 24) rfl ?_
          exact ih24 _ _ _ (z24.2.2, q5, (z24.2.2 + 1)) (lv_sub hl [4, 5, 2, 1, 0] rfl) hw hf
        replace hf := h_neg hc7 hf
        refine lv_iload hx hb dX6_oldest_59 (lv_at hl 0 rfl) ?_
        refine lv_iload_n hx hb dX6_oldest_61 rfl (lv_at hl 4 rfl) ?_
        refine lv_icmp_lt hx hb dX6_oldest_62 (tgt := 68) rfl (fun hc8 => ?_) (fun hc8 => ?_)
        · replace hf := h_pos hc8 hf
          refine lv_iload hx hb dX6_oldest_68 (lv_at hl 5 rfl) ?_
          refine lv_istore_n hx hb dX6_oldest_70 rfl hl (by decide) (lv' := [(2, .int z24.2.2), (5, .int q5), (0, .ref (gg_o g 0)), (1, .int x1), (3, .int z24.2.1), (4, .int z24.2.2)]) rfl (fun ls hl => ?_)
          refine lv_iload hx hb dX6_oldest_71 (lv_at hl 1 rfl) ?_
          refine lv_istore_n hx hb dX6_oldest_73 rfl hl (by decide) (lv' := [(3, .int q5), (2, .int z24.2.2), (5, .int q5), (0, .ref (gg_o g 0)), (1, .int x1), (4, .int z24.2.2)]) rfl (fun ls hl => ?_)
          refine lv_iinc hx hb dX6_oldest_74 hl (k := 5) rfl (congrArg (HAdd.hAdd _) (show Int32.ofInt (1) = 1 by decide)) (by decide) (lv' := [(4, .int (z24.2.2 + 1)), (3, .int q5), (2, .int z24.2.2), (5, .int q5), (0, .ref (gg_o g 0)), (1, .int x1)]) rfl (fun ls hl => ?_)
          refine lv_goto hx hb dX6_oldest_77 (tgt := 24) rfl ?_
          exact ih24 _ _ _ (z24.2.2, q5, (z24.2.2 + 1)) (lv_sub hl [4, 5, 2, 1, 0] rfl) hw hf
        replace hf := h_neg hc8 hf
        refine lv_goto hx hb dX6_oldest_65 (tgt := 74) rfl ?_
        refine lv_iinc hx hb dX6_oldest_74 hl (k := 5) rfl (congrArg (HAdd.hAdd _) (show Int32.ofInt (1) = 1 by decide)) (by decide) (lv' := [(4, .int (z24.2.2 + 1)), (5, .int q5), (0, .ref (gg_o g 0)), (1, .int x1), (2, .int z24.1), (3, .int z24.2.1)]) rfl (fun ls hl => ?_)
        refine lv_goto hx hb dX6_oldest_77 (tgt := 24) rfl ?_
        exact ih24 _ _ _ (z24.1, z24.2.1, (z24.2.2 + 1)) (lv_sub hl [2, 3, 4, 5, 0] rfl) hw hf
    refine L24 q3 x1 _ (fun ls H locs e9 e10 hl hw hf => ?_) FU _ _ _ ((-2 : Int32), (-2 : Int32), (0 : Int32)) (lv_sub hl [3, 4, 2, 1, 0] rfl) hw (h_assoc hf)
    try dsimp only at hf
    refine lv_iload_n hx hb dX6_oldest_80 rfl (lv_at hl 0 rfl) ?_
    refine lv_if_ne hx hb dX6_oldest_81 (tgt := 88) rfl (fun hc11 => ?_) (fun hc11 => ?_)
    · replace hf := h_neg hc11 hf
      refine lv_iload_n hx hb dX6_oldest_88 rfl (lv_at hl 2 rfl) ?_
      exact r_iretw cx hw hr hlk hf dX6_oldest_89
    replace hf := h_pos hc11 hf
    refine lv_iload_n hx hb dX6_oldest_84 rfl (lv_at hl 1 rfl) ?_
    refine lv_goto hx hb dX6_oldest_85 (tgt := 89) rfl ?_
    exact r_iretw cx hw hr hlk hf dX6_oldest_89
  replace hf := h_pos hc2 hf
  refine lv_iconst (v := -1) hx hb dX6_oldest_9 (by decide) ?_
  exact r_iretw cx hw hr hlk hf dX6_oldest_10
theorem dX6_shown_0 : decode cX6_shown 0 = .ok (.aload_n 0, 1) := by decide +kernel
theorem dX6_shown_1 : decode cX6_shown 1 = .ok (.iload_n 1, 1) := by decide +kernel
theorem dX6_shown_2 : decode cX6_shown 2 = .ok (.invokevirtual 416, 3) := by decide +kernel
theorem dX6_shown_5 : decode cX6_shown 5 = .ok (.ifCond .ne 5, 3) := by decide +kernel
theorem dX6_shown_8 : decode cX6_shown 8 = .ok (.iconst (-1), 1) := by decide +kernel
theorem dX6_shown_9 : decode cX6_shown 9 = .ok (.ireturn, 1) := by decide +kernel
theorem dX6_shown_10 : decode cX6_shown 10 = .ok (.aload_n 0, 1) := by decide +kernel
theorem dX6_shown_11 : decode cX6_shown 11 = .ok (.invokevirtual 419, 3) := by decide +kernel
theorem dX6_shown_14 : decode cX6_shown 14 = .ok (.iconst 0, 1) := by decide +kernel
theorem dX6_shown_15 : decode cX6_shown 15 = .ok (.istore_n 3, 1) := by decide +kernel
theorem dX6_shown_16 : decode cX6_shown 16 = .ok (.iload_n 3, 1) := by decide +kernel
theorem dX6_shown_17 : decode cX6_shown 17 = .ok (.sipush 300, 3) := by decide +kernel
theorem dX6_shown_20 : decode cX6_shown 20 = .ok (.if_icmp .ge 16, 3) := by decide +kernel
theorem dX6_shown_23 : decode cX6_shown 23 = .ok (.aload_n 0, 1) := by decide +kernel
theorem dX6_shown_24 : decode cX6_shown 24 = .ok (.getfield 149, 3) := by decide +kernel
theorem dX6_shown_27 : decode cX6_shown 27 = .ok (.iload_n 3, 1) := by decide +kernel
theorem dX6_shown_28 : decode cX6_shown 28 = .ok (.iconst 0, 1) := by decide +kernel
theorem dX6_shown_29 : decode cX6_shown 29 = .ok (.iastore, 1) := by decide +kernel
theorem dX6_shown_30 : decode cX6_shown 30 = .ok (.iinc 3 1, 3) := by decide +kernel
theorem dX6_shown_33 : decode cX6_shown 33 = .ok (.goto (-17), 3) := by decide +kernel
theorem dX6_shown_36 : decode cX6_shown 36 = .ok (.sipush 300, 3) := by decide +kernel
theorem dX6_shown_39 : decode cX6_shown 39 = .ok (.istore_n 3, 1) := by decide +kernel
theorem dX6_shown_40 : decode cX6_shown 40 = .ok (.iconst (-1), 1) := by decide +kernel
theorem dX6_shown_41 : decode cX6_shown 41 = .ok (.istore 4, 2) := by decide +kernel
theorem dX6_shown_43 : decode cX6_shown 43 = .ok (.iconst 0, 1) := by decide +kernel
theorem dX6_shown_44 : decode cX6_shown 44 = .ok (.istore 5, 2) := by decide +kernel
theorem dX6_shown_46 : decode cX6_shown 46 = .ok (.iload 5, 2) := by decide +kernel
theorem dX6_shown_48 : decode cX6_shown 48 = .ok (.aload_n 0, 1) := by decide +kernel
theorem dX6_shown_49 : decode cX6_shown 49 = .ok (.getfield 348, 3) := by decide +kernel
theorem dX6_shown_52 : decode cX6_shown 52 = .ok (.if_icmp .gt 57, 3) := by decide +kernel
theorem dX6_shown_55 : decode cX6_shown 55 = .ok (.aload_n 0, 1) := by decide +kernel
theorem dX6_shown_56 : decode cX6_shown 56 = .ok (.iload_n 1, 1) := by decide +kernel
theorem dX6_shown_57 : decode cX6_shown 57 = .ok (.iload 5, 2) := by decide +kernel
theorem dX6_shown_59 : decode cX6_shown 59 = .ok (.invokevirtual 395, 3) := by decide +kernel
theorem dX6_shown_62 : decode cX6_shown 62 = .ok (.istore 6, 2) := by decide +kernel
theorem dX6_shown_64 : decode cX6_shown 64 = .ok (.iload 6, 2) := by decide +kernel
theorem dX6_shown_66 : decode cX6_shown 66 = .ok (.ifCond .ge 6, 3) := by decide +kernel
theorem dX6_shown_69 : decode cX6_shown 69 = .ok (.goto 34, 3) := by decide +kernel
theorem dX6_shown_72 : decode cX6_shown 72 = .ok (.aload_n 0, 1) := by decide +kernel
theorem dX6_shown_73 : decode cX6_shown 73 = .ok (.getfield 149, 3) := by decide +kernel
theorem dX6_shown_76 : decode cX6_shown 76 = .ok (.iload 6, 2) := by decide +kernel
theorem dX6_shown_78 : decode cX6_shown 78 = .ok (.dup2, 1) := by decide +kernel
theorem dX6_shown_79 : decode cX6_shown 79 = .ok (.iaload, 1) := by decide +kernel
theorem dX6_shown_80 : decode cX6_shown 80 = .ok (.iconst 1, 1) := by decide +kernel
theorem dX6_shown_81 : decode cX6_shown 81 = .ok (.iadd, 1) := by decide +kernel
theorem dX6_shown_82 : decode cX6_shown 82 = .ok (.iastore, 1) := by decide +kernel
theorem dX6_shown_83 : decode cX6_shown 83 = .ok (.iload 6, 2) := by decide +kernel
theorem dX6_shown_85 : decode cX6_shown 85 = .ok (.iload_n 3, 1) := by decide +kernel
theorem dX6_shown_86 : decode cX6_shown 86 = .ok (.if_icmp .ge 6, 3) := by decide +kernel
theorem dX6_shown_89 : decode cX6_shown 89 = .ok (.iload 6, 2) := by decide +kernel
theorem dX6_shown_91 : decode cX6_shown 91 = .ok (.istore_n 3, 1) := by decide +kernel
theorem dX6_shown_92 : decode cX6_shown 92 = .ok (.iload 6, 2) := by decide +kernel
theorem dX6_shown_94 : decode cX6_shown 94 = .ok (.iload 4, 2) := by decide +kernel
theorem dX6_shown_96 : decode cX6_shown 96 = .ok (.if_icmp .le 7, 3) := by decide +kernel
theorem dX6_shown_99 : decode cX6_shown 99 = .ok (.iload 6, 2) := by decide +kernel
theorem dX6_shown_101 : decode cX6_shown 101 = .ok (.istore 4, 2) := by decide +kernel
theorem dX6_shown_103 : decode cX6_shown 103 = .ok (.iinc 5 1, 3) := by decide +kernel
theorem dX6_shown_106 : decode cX6_shown 106 = .ok (.goto (-60), 3) := by decide +kernel
theorem dX6_shown_109 : decode cX6_shown 109 = .ok (.iconst 0, 1) := by decide +kernel
theorem dX6_shown_110 : decode cX6_shown 110 = .ok (.istore 5, 2) := by decide +kernel
theorem dX6_shown_112 : decode cX6_shown 112 = .ok (.iload_n 3, 1) := by decide +kernel
theorem dX6_shown_113 : decode cX6_shown 113 = .ok (.istore 6, 2) := by decide +kernel
theorem dX6_shown_115 : decode cX6_shown 115 = .ok (.iload 6, 2) := by decide +kernel
theorem dX6_shown_117 : decode cX6_shown 117 = .ok (.iload 4, 2) := by decide +kernel
theorem dX6_shown_119 : decode cX6_shown 119 = .ok (.if_icmp .gt 40, 3) := by decide +kernel
theorem dX6_shown_122 : decode cX6_shown 122 = .ok (.iload_n 2, 1) := by decide +kernel
theorem dX6_shown_123 : decode cX6_shown 123 = .ok (.ifCond .eq 16, 3) := by decide +kernel
theorem dX6_shown_126 : decode cX6_shown 126 = .ok (.aload_n 0, 1) := by decide +kernel
theorem dX6_shown_127 : decode cX6_shown 127 = .ok (.getfield 149, 3) := by decide +kernel
theorem dX6_shown_130 : decode cX6_shown 130 = .ok (.iload 6, 2) := by decide +kernel
theorem dX6_shown_132 : decode cX6_shown 132 = .ok (.iaload, 1) := by decide +kernel
theorem dX6_shown_133 : decode cX6_shown 133 = .ok (.ifCond .ne 20, 3) := by decide +kernel
theorem dX6_shown_136 : decode cX6_shown 136 = .ok (.goto 14, 3) := by decide +kernel
theorem dX6_shown_139 : decode cX6_shown 139 = .ok (.aload_n 0, 1) := by decide +kernel
theorem dX6_shown_140 : decode cX6_shown 140 = .ok (.getfield 149, 3) := by decide +kernel
theorem dX6_shown_143 : decode cX6_shown 143 = .ok (.iload 6, 2) := by decide +kernel
theorem dX6_shown_145 : decode cX6_shown 145 = .ok (.iaload, 1) := by decide +kernel
theorem dX6_shown_146 : decode cX6_shown 146 = .ok (.iconst 1, 1) := by decide +kernel
theorem dX6_shown_147 : decode cX6_shown 147 = .ok (.if_icmp .le 6, 3) := by decide +kernel
theorem dX6_shown_150 : decode cX6_shown 150 = .ok (.iinc 5 1, 3) := by decide +kernel
theorem dX6_shown_153 : decode cX6_shown 153 = .ok (.iinc 6 1, 3) := by decide +kernel
theorem dX6_shown_156 : decode cX6_shown 156 = .ok (.goto (-41), 3) := by decide +kernel
theorem dX6_shown_159 : decode cX6_shown 159 = .ok (.iload 5, 2) := by decide +kernel
theorem dX6_shown_161 : decode cX6_shown 161 = .ok (.ireturn, 1) := by decide +kernel
abbrev rm_X6_shown : Room := { frames := 2, cells := 0, slots := 0, locals := 45 }
def f_X6_shown_L16 (x1 : Int32) (x2 : Int32) (z16 : Int32 × St) : Option ((Int32 × St) ⊕ (St)) :=
  if (300 : Int32) ≤ z16.1 then (some (.inr z16.2)) else (chk (ib z16.1 300) (lt_v (up_A z16.2 (ky 0 65) (upd (st_A z16.2 (ky 0 65)) z16.1.toNatClampNeg (0 : Int32))) (fun (S5 : St) => some (.inl ((z16.1 + 1), S5)))))
def f_X6_shown_J92 (S : St) (x1 : Int32) (x2 : Int32) (x3 : Int32) (x4 : Int32) (x5 : Int32) (x6 : Int32) : Option ((Int32 × Int32 × Int32 × St) ⊕ (Int32 × Int32 × St)) :=
  if x6 ≤ x4 then (some (.inl (x3, x4, (x5 + 1), S))) else (some (.inl (x3, x6, (x5 + 1), S)))
def f_X6_shown_L46 (x1 : Int32) (x2 : Int32) (z46 : Int32 × Int32 × Int32 × St) : Option ((Int32 × Int32 × Int32 × St) ⊕ (Int32 × Int32 × St)) :=
  if (st_I z46.2.2.2 (ky 0 57)) < z46.2.2.1 then (some (.inr (z46.1, z46.2.1, z46.2.2.2))) else ((f_X6_showsAt  z46.2.2.2 x1 z46.2.2.1).bind (fun (q8 : Int32) => if 0 ≤ q8 then (chk (ib q8 300) (chk (ib q8 300) (lt_v (up_A z46.2.2.2 (ky 0 65) (upd (st_A z46.2.2.2 (ky 0 65)) q8.toNatClampNeg ((st_A z46.2.2.2 (ky 0 65) q8.toNatClampNeg) + (1 : Int32)))) (fun (S10 : St) => if z46.1 ≤ q8 then (f_X6_shown_J92  S10 x1 x2 z46.1 z46.2.1 z46.2.2.1 q8) else (f_X6_shown_J92  S10 x1 x2 q8 z46.2.1 z46.2.2.1 q8))))) else (some (.inl (z46.1, z46.2.1, (z46.2.2.1 + 1), z46.2.2.2)))))
def f_X6_shown_L115 (S : St) (x2 : Int32) (x4 : Int32) (z115 : Int32 × Int32) : Option ((Int32 × Int32) ⊕ (Int32 × St)) :=
  if x4 < z115.2 then (some (.inr (z115.1, S))) else (if x2 = 0 then (chk (ib z115.2 300) (if (st_A S (ky 0 65) z115.2.toNatClampNeg) ≤ (1 : Int32) then (some (.inl (z115.1, (z115.2 + 1)))) else (some (.inl ((z115.1 + 1), (z115.2 + 1)))))) else (chk (ib z115.2 300) (if (st_A S (ky 0 65) z115.2.toNatClampNeg) = 0 then (some (.inl ((z115.1 + 1), (z115.2 + 1)))) else (some (.inl (z115.1, (z115.2 + 1)))))))
def f_X6_shown (S : St) (x1 : Int32) (x2 : Int32) : Option (Int32 × St) :=
  (f_X6_isMirror  S x1).bind (fun (q1 : Int32) => if q1 = 0 then (some ((-1 : Int32), S)) else ((f_X6_copies  S ).bind (fun (q3 : St) => (iter (f_X6_shown_L16   x1 x2) FU ((0 : Int32), q3)).bind (fun (S6 : St) => (iter (f_X6_shown_L46   x1 x2) FU ((300 : Int32), (-1 : Int32), (0 : Int32), S6)).bind (fun (u20 : Int32 × Int32 × St) => (fun (e13 : Int32) (e14 : Int32) (S15 : St) => iter (f_X6_shown_L115  S15 x2 e14) FU ((0 : Int32), e13)) u20.1 u20.2.1 u20.2.2)))))
set_option maxRecDepth 100000 in
set_option maxHeartbeats 4000000 in
theorem k_X6_shown (l : Launch) (g : GG) (hg : gd wd_M g)  (hM : hs wd_M g 0 6) (S : St) (x1 : Int32) (x2 : Int32) (q : Int32 × St) (hf : f_X6_shown  S x1 x2 = some q) : Met l yX6_shown (Cond.code yX6_shown cX6_shown 7 (some .int) :: gw_tbl) rm_X6_shown (va_Pc [.ref (gg_o g 0), .int x1, .int x2] (wI wd_M g S)) (qc_w wd_M g q) 0 0 (aw g) := by
  refine mt_start (own := RX6) hg (by decide) rfl (Nat.le_of_ble_eq_true rfl) (fun p e s m args below meth c ls H locs cx hw hr hlk hl => ?_)
  have hx := cx.1
  have hb := cx.2.1
  have hown := cx.2.2.2.1
  have hts := cx.2.2.2.2.1
  have hl : lv_has ls 7 [(0, .ref (gg_o g 0)), (1, .int x1), (2, .int x2)] := hl
  replace hf := h_top hf
  unfold f_X6_shown at hf
  refine lv_aload_n hx hb dX6_shown_0 rfl (lv_at hl 0 rfl) ?_
  refine lv_iload_n hx hb dX6_shown_1 rfl (lv_at hl 1 rfl) ?_
  refine r_V_i (As := [.int x1]) (rest := []) cx hw hf hM.2.1 (by rw [hM.1]; rfl) lk_X6_416 (fun q1 hq => k_X6_isMirror l g hg  hM S x1 q1 hq) ⟨⟨rfl, rfl⟩, Nat.le_of_ble_eq_true rfl, Nat.le_of_ble_eq_true rfl⟩ rfl hl.1 rfl (Nat.le_of_ble_eq_true rfl) dX6_shown_2 ⟨Nat.zero_le _, Nat.zero_le _⟩ (fun q1 H locs hw hf => ?_)
  refine lv_if_ne hx hb dX6_shown_5 (tgt := 10) rfl (fun hc2 => ?_) (fun hc2 => ?_)
  · replace hf := h_neg hc2 hf
    refine lv_aload_n hx hb dX6_shown_10 rfl (lv_at hl 0 rfl) ?_
    refine r_V_v (As := []) (rest := []) cx hw hf hM.2.1 (by rw [hM.1]; rfl) lk_X6_419 (fun q3 hq => k_X6_copies l g hg  hM S  q3 hq) ⟨⟨rfl, rfl⟩, Nat.le_of_ble_eq_true rfl, Nat.le_of_ble_eq_true rfl⟩ rfl hl.1 rfl (Nat.le_of_ble_eq_true rfl) dX6_shown_11 ⟨Nat.zero_le _, Nat.zero_le _⟩ (fun q3 H locs hw hf => ?_)
    refine lv_iconst (v := 0) hx hb dX6_shown_14 (by decide) ?_
    refine lv_istore_n hx hb dX6_shown_15 rfl hl (by decide) (lv' := [(3, .int (0 : Int32)), (0, .ref (gg_o g 0)), (1, .int x1), (2, .int x2)]) rfl (fun ls hl => ?_)
    have L16 : ∀ (x1 : Int32) (x2 : Int32) (aft16 : St → Option (Int32 × St)), (∀ (ls : Array Slot) (H : Heap) (locs : List Loc) (S1 : St), lv_has ls 7 [(0, .ref (gg_o g 0)), (1, .int x1), (2, .int x2)] → HH wd_M g s S1 H locs → aft16 S1 = some q → W p l e rm_X6_shown s m args below meth c H locs 0 0 (MQ below (qc_w wd_M g q) args s 0 0 (aw g)) (F0 m 36 ls [])) → ∀ (n16 : Nat) (ls : Array Slot) (H : Heap) (locs : List Loc) (z16 : Int32 × St), lv_has ls 7 [(0, .ref (gg_o g 0)), (1, .int x1), (2, .int x2), (3, .int z16.1)] → HH wd_M g s z16.2 H locs → (iter (f_X6_shown_L16   x1 x2) n16 z16).bind aft16 = some q → W p l e rm_X6_shown s m args below meth c H locs 0 0 (MQ below (qc_w wd_M g q) args s 0 0 (aw g)) (F0 m 16 ls []) := by
      intro x1 x2 aft16 hX16 n16
      induction n16 with
      | zero => intro ls H locs z16 hl hw hf; exact h_iter0 hf
      | succ n16 ih16 =>
        intro ls H locs z16 hl hw hf
        replace hf := h_iter hf
        unfold f_X6_shown_L16 at hf
        refine lv_iload_n hx hb dX6_shown_16 rfl (lv_at hl 3 rfl) ?_
        refine lv_sipush (v := 300) hx hb dX6_shown_17 (by decide) ?_
        refine lv_icmp_ge hx hb dX6_shown_20 (tgt := 36) rfl (fun hc4 => ?_) (fun hc4 => ?_)
        · replace hf := h_pos hc4 hf
          exact hX16 _ _ _ z16.2 (lv_sub hl [0, 1, 2] rfl) hw hf
        replace hf := h_neg hc4 hf
        refine lv_aload_n hx hb dX6_shown_23 rfl (lv_at hl 0 rfl) ?_
        refine gf_X6_149 cx hw hM dX6_shown_24 ?_
        refine lv_iload_n hx hb dX6_shown_27 rfl (lv_at hl 3 rfl) ?_
        refine lv_iconst (v := 0) hx hb dX6_shown_28 (by decide) ?_
        refine r_iast cx hw (hM.2.2.1 65 rfl) rfl rfl hf dX6_shown_29 (fun S5 H locs hw hf => ?_)
        refine lv_iinc hx hb dX6_shown_30 hl (k := 3) rfl (congrArg (HAdd.hAdd _) (show Int32.ofInt (1) = 1 by decide)) (by decide) (lv' := [(3, .int (z16.1 + 1)), (0, .ref (gg_o g 0)), (1, .int x1), (2, .int x2)]) rfl (fun ls hl => ?_)
        refine lv_goto hx hb dX6_shown_33 (tgt := 16) rfl ?_
        exact ih16 _ _ _ ((z16.1 + 1), S5) (lv_sub hl [1, 2, 3, 0] rfl) hw hf
    refine L16 x1 x2 _ (fun ls H locs S6 hl hw hf => ?_) FU _ _ _ ((0 : Int32), q3) (lv_sub hl [1, 2, 3, 0] rfl) hw (h_assoc hf)
    try dsimp only at hf
    refine lv_sipush (v := 300) hx hb dX6_shown_36 (by decide) ?_
    refine lv_istore_n hx hb dX6_shown_39 rfl hl (by decide) (lv' := [(3, .int (300 : Int32)), (0, .ref (gg_o g 0)), (1, .int x1), (2, .int x2)]) rfl (fun ls hl => ?_)
    refine lv_iconst (v := -1) hx hb dX6_shown_40 (by decide) ?_
    refine lv_istore hx hb dX6_shown_41 hl (by decide) (lv' := [(4, .int (-1 : Int32)), (3, .int (300 : Int32)), (0, .ref (gg_o g 0)), (1, .int x1), (2, .int x2)]) rfl (fun ls hl => ?_)
    refine lv_iconst (v := 0) hx hb dX6_shown_43 (by decide) ?_
    refine lv_istore hx hb dX6_shown_44 hl (by decide) (lv' := [(5, .int (0 : Int32)), (4, .int (-1 : Int32)), (3, .int (300 : Int32)), (0, .ref (gg_o g 0)), (1, .int x1), (2, .int x2)]) rfl (fun ls hl => ?_)
    have L46 : ∀ (x1 : Int32) (x2 : Int32) (aft46 : (Int32 × Int32 × St) → Option (Int32 × St)), (∀ (ls : Array Slot) (H : Heap) (locs : List Loc) (e3 : Int32) (e4 : Int32) (S1 : St), lv_has ls 7 [(0, .ref (gg_o g 0)), (2, .int x2), (3, .int e3), (4, .int e4)] → HH wd_M g s S1 H locs → aft46 (e3, e4, S1) = some q → W p l e rm_X6_shown s m args below meth c H locs 0 0 (MQ below (qc_w wd_M g q) args s 0 0 (aw g)) (F0 m 109 ls [])) → ∀ (n46 : Nat) (ls : Array Slot) (H : Heap) (locs : List Loc) (z46 : Int32 × Int32 × Int32 × St), lv_has ls 7 [(0, .ref (gg_o g 0)), (1, .int x1), (2, .int x2), (3, .int z46.1), (4, .int z46.2.1), (5, .int z46.2.2.1)] → HH wd_M g s z46.2.2.2 H locs → (iter (f_X6_shown_L46   x1 x2) n46 z46).bind aft46 = some q → W p l e rm_X6_shown s m args below meth c H locs 0 0 (MQ below (qc_w wd_M g q) args s 0 0 (aw g)) (F0 m 46 ls []) := by
      intro x1 x2 aft46 hX46 n46
      induction n46 with
      | zero => intro ls H locs z46 hl hw hf; exact h_iter0 hf
      | succ n46 ih46 =>
        intro ls H locs z46 hl hw hf
        replace hf := h_iter hf
        unfold f_X6_shown_L46 at hf
        have J92 : ∀ (ls : Array Slot) (H : Heap) (locs : List Loc) (S : St) (x3 : Int32) (x4 : Int32) (x5 : Int32) (x6 : Int32), lv_has ls 7 [(0, .ref (gg_o g 0)), (1, .int x1), (2, .int x2), (3, .int x3), (4, .int x4), (5, .int x5), (6, .int x6)] → HH wd_M g s S H locs → (f_X6_shown_J92  S x1 x2 x3 x4 x5 x6).bind (it_K (f_X6_shown_L46   x1 x2) n46 aft46) = some q → W p l e rm_X6_shown s m args below meth c H locs 0 0 (MQ below (qc_w wd_M g q) args s 0 0 (aw g)) (F0 m 92 ls []) := by
          intro ls H locs S x3 x4 x5 x6 hl hw hf
          unfold f_X6_shown_J92 at hf
          refine lv_iload hx hb dX6_shown_92 (lv_at hl 6 rfl) ?_
          refine lv_iload hx hb dX6_shown_94 (lv_at hl 4 rfl) ?_
          refine lv_icmp_le hx hb dX6_shown_96 (tgt := 103) rfl (fun hc12 => ?_) (fun hc12 => ?_)
          · replace hf := h_pos hc12 hf
            refine lv_iinc hx hb dX6_shown_103 hl (k := 5) rfl (congrArg (HAdd.hAdd _) (show Int32.ofInt (1) = 1 by decide)) (by decide) (lv' := [(5, .int (x5 + 1)), (0, .ref (gg_o g 0)), (1, .int x1), (2, .int x2), (3, .int x3), (4, .int x4), (6, .int x6)]) rfl (fun ls hl => ?_)
            refine lv_goto hx hb dX6_shown_106 (tgt := 46) rfl ?_
            exact ih46 _ _ _ (x3, x4, (x5 + 1), S) (lv_sub hl [1, 2, 3, 4, 5, 0] rfl) hw hf
          replace hf := h_neg hc12 hf
          refine lv_iload hx hb dX6_shown_99 (lv_at hl 6 rfl) ?_
          refine lv_istore hx hb dX6_shown_101 hl (by decide) (lv' := [(4, .int x6), (0, .ref (gg_o g 0)), (1, .int x1), (2, .int x2), (3, .int x3), (5, .int x5), (6, .int x6)]) rfl (fun ls hl => ?_)
          refine lv_iinc hx hb dX6_shown_103 hl (k := 5) rfl (congrArg (HAdd.hAdd _) (show Int32.ofInt (1) = 1 by decide)) (by decide) (lv' := [(5, .int (x5 + 1)), (4, .int x6), (0, .ref (gg_o g 0)), (1, .int x1), (2, .int x2), (3, .int x3), (6, .int x6)]) rfl (fun ls hl => ?_)
          refine lv_goto hx hb dX6_shown_106 (tgt := 46) rfl ?_
          exact ih46 _ _ _ (x3, x6, (x5 + 1), S) (lv_sub hl [2, 3, 4, 5, 1, 0] rfl) hw hf
        refine lv_iload hx hb dX6_shown_46 (lv_at hl 5 rfl) ?_
        refine lv_aload_n hx hb dX6_shown_48 rfl (lv_at hl 0 rfl) ?_
        refine gf_X6_348 cx hw hM dX6_shown_49 ?_
        refine lv_icmp_gt hx hb dX6_shown_52 (tgt := 109) rfl (fun hc7 => ?_) (fun hc7 => ?_)
        · replace hf := h_pos hc7 hf
          exact hX46 _ _ _ z46.1 z46.2.1 z46.2.2.2 (lv_sub hl [0, 2, 3, 4] rfl) hw hf
        replace hf := h_neg hc7 hf
        refine lv_aload_n hx hb dX6_shown_55 rfl (lv_at hl 0 rfl) ?_
        refine lv_iload_n hx hb dX6_shown_56 rfl (lv_at hl 1 rfl) ?_
        refine lv_iload hx hb dX6_shown_57 (lv_at hl 5 rfl) ?_
        refine r_V_i (As := [.int x1, .int z46.2.2.1]) (rest := []) cx hw hf hM.2.1 (by rw [hM.1]; rfl) lk_X6_395 (fun q8 hq => k_X6_showsAt l g hg  hM z46.2.2.2 x1 z46.2.2.1 q8 hq) ⟨⟨rfl, rfl⟩, Nat.le_of_ble_eq_true rfl, Nat.le_of_ble_eq_true rfl⟩ rfl hl.1 rfl (Nat.le_of_ble_eq_true rfl) dX6_shown_59 ⟨Nat.zero_le _, Nat.zero_le _⟩ (fun q8 H locs hw hf => ?_)
        refine lv_istore hx hb dX6_shown_62 hl (by decide) (lv' := [(6, .int q8), (0, .ref (gg_o g 0)), (1, .int x1), (2, .int x2), (3, .int z46.1), (4, .int z46.2.1), (5, .int z46.2.2.1)]) rfl (fun ls hl => ?_)
        refine lv_iload hx hb dX6_shown_64 (lv_at hl 0 rfl) ?_
        refine lv_if_ge hx hb dX6_shown_66 (tgt := 72) rfl (fun hc9 => ?_) (fun hc9 => ?_)
        · replace hf := h_pos hc9 hf
          refine lv_aload_n hx hb dX6_shown_72 rfl (lv_at hl 1 rfl) ?_
          refine gf_X6_149 cx hw hM dX6_shown_73 ?_
          refine lv_iload hx hb dX6_shown_76 (lv_at hl 0 rfl) ?_
          refine lv_dup2_11 hx hb dX6_shown_78 rfl rfl ?_
          refine r_iald cx hw (hM.2.2.1 65 rfl) rfl rfl hf dX6_shown_79 (fun hf => ?_)
          refine lv_iconst (v := 1) hx hb dX6_shown_80 (by decide) ?_
          refine lv_iadd hx hb dX6_shown_81 ?_
          refine r_iast cx hw (hM.2.2.1 65 rfl) rfl rfl hf dX6_shown_82 (fun S10 H locs hw hf => ?_)
          refine lv_iload hx hb dX6_shown_83 (lv_at hl 0 rfl) ?_
          refine lv_iload_n hx hb dX6_shown_85 rfl (lv_at hl 4 rfl) ?_
          refine lv_icmp_ge hx hb dX6_shown_86 (tgt := 92) rfl (fun hc11 => ?_) (fun hc11 => ?_)
          · replace hf := h_pos hc11 hf
            exact J92 _ _ _ S10 z46.1 z46.2.1 z46.2.2.1 q8 (lv_sub hl [1, 2, 3, 4, 5, 6, 0] rfl) hw hf
          replace hf := h_neg hc11 hf
          refine lv_iload hx hb dX6_shown_89 (lv_at hl 0 rfl) ?_
          refine lv_istore_n hx hb dX6_shown_91 rfl hl (by decide) (lv' := [(3, .int q8), (6, .int q8), (0, .ref (gg_o g 0)), (1, .int x1), (2, .int x2), (4, .int z46.2.1), (5, .int z46.2.2.1)]) rfl (fun ls hl => ?_)
          exact J92 _ _ _ S10 q8 z46.2.1 z46.2.2.1 q8 (lv_sub hl [2, 3, 4, 0, 5, 6, 1] rfl) hw hf
        replace hf := h_neg hc9 hf
        refine lv_goto hx hb dX6_shown_69 (tgt := 103) rfl ?_
        refine lv_iinc hx hb dX6_shown_103 hl (k := 6) rfl (congrArg (HAdd.hAdd _) (show Int32.ofInt (1) = 1 by decide)) (by decide) (lv' := [(5, .int (z46.2.2.1 + 1)), (6, .int q8), (0, .ref (gg_o g 0)), (1, .int x1), (2, .int x2), (3, .int z46.1), (4, .int z46.2.1)]) rfl (fun ls hl => ?_)
        refine lv_goto hx hb dX6_shown_106 (tgt := 46) rfl ?_
        exact ih46 _ _ _ (z46.1, z46.2.1, (z46.2.2.1 + 1), z46.2.2.2) (lv_sub hl [2, 3, 4, 5, 6, 0] rfl) hw hf
    refine L46 x1 x2 _ (fun ls H locs e13 e14 S15 hl hw hf => ?_) FU _ _ _ ((300 : Int32), (-1 : Int32), (0 : Int32), S6) (lv_sub hl [3, 4, 5, 2, 1, 0] rfl) hw (h_assoc hf)
    try dsimp only at hf
    refine lv_iconst (v := 0) hx hb dX6_shown_109 (by decide) ?_
    refine lv_istore hx hb dX6_shown_110 hl (by decide) (lv' := [(5, .int (0 : Int32)), (0, .ref (gg_o g 0)), (2, .int x2), (3, .int e13), (4, .int e14)]) rfl (fun ls hl => ?_)
    refine lv_iload_n hx hb dX6_shown_112 rfl (lv_at hl 3 rfl) ?_
    refine lv_istore hx hb dX6_shown_113 hl (by decide) (lv' := [(6, .int e13), (5, .int (0 : Int32)), (0, .ref (gg_o g 0)), (2, .int x2), (3, .int e13), (4, .int e14)]) rfl (fun ls hl => ?_)
    have L115 : ∀ (S : St) (x2 : Int32) (x4 : Int32) (aft115 : (Int32 × St) → Option (Int32 × St)), (∀ v : Int32 × St, aft115 v = some q → (some v : Option (Int32 × St)).bind some = some q) → ∀ (n115 : Nat) (ls : Array Slot) (H : Heap) (locs : List Loc) (z115 : Int32 × Int32), lv_has ls 7 [(0, .ref (gg_o g 0)), (2, .int x2), (4, .int x4), (5, .int z115.1), (6, .int z115.2)] → HH wd_M g s S H locs → (iter (f_X6_shown_L115  S x2 x4) n115 z115).bind aft115 = some q → W p l e rm_X6_shown s m args below meth c H locs 0 0 (MQ below (qc_w wd_M g q) args s 0 0 (aw g)) (F0 m 115 ls []) := by
      intro S x2 x4 aft115 hR115 n115
      induction n115 with
      | zero => intro ls H locs z115 hl hw hf; exact h_iter0 hf
      | succ n115 ih115 =>
        intro ls H locs z115 hl hw hf
        replace hf := h_iter hf
        unfold f_X6_shown_L115 at hf
        refine lv_iload hx hb dX6_shown_115 (lv_at hl 4 rfl) ?_
        refine lv_iload hx hb dX6_shown_117 (lv_at hl 2 rfl) ?_
        refine lv_icmp_gt hx hb dX6_shown_119 (tgt := 159) rfl (fun hc16 => ?_) (fun hc16 => ?_)
        · replace hf := h_pos hc16 hf
          refine lv_iload hx hb dX6_shown_159 (lv_at hl 3 rfl) ?_
          replace hf := hR115 (z115.1, S) hf
          exact r_iretw cx hw hr hlk hf dX6_shown_161
        replace hf := h_neg hc16 hf
        refine lv_iload_n hx hb dX6_shown_122 rfl (lv_at hl 1 rfl) ?_
        refine lv_if_eq hx hb dX6_shown_123 (tgt := 139) rfl (fun hc17 => ?_) (fun hc17 => ?_)
        · replace hf := h_pos hc17 hf
          refine lv_aload_n hx hb dX6_shown_139 rfl (lv_at hl 0 rfl) ?_
          refine gf_X6_149 cx hw hM dX6_shown_140 ?_
          refine lv_iload hx hb dX6_shown_143 (lv_at hl 4 rfl) ?_
          refine r_iald cx hw (hM.2.2.1 65 rfl) rfl rfl hf dX6_shown_145 (fun hf => ?_)
          refine lv_iconst (v := 1) hx hb dX6_shown_146 (by decide) ?_
          refine lv_icmp_le hx hb dX6_shown_147 (tgt := 153) rfl (fun hc18 => ?_) (fun hc18 => ?_)
          · replace hf := h_pos hc18 hf
            refine lv_iinc hx hb dX6_shown_153 hl (k := 4) rfl (congrArg (HAdd.hAdd _) (show Int32.ofInt (1) = 1 by decide)) (by decide) (lv' := [(6, .int (z115.2 + 1)), (0, .ref (gg_o g 0)), (2, .int x2), (4, .int x4), (5, .int z115.1)]) rfl (fun ls hl => ?_)
            refine lv_goto hx hb dX6_shown_156 (tgt := 115) rfl ?_
            exact ih115 _ _ _ (z115.1, (z115.2 + 1)) (lv_sub hl [1, 2, 3, 4, 0] rfl) hw hf
          replace hf := h_neg hc18 hf
          refine lv_iinc hx hb dX6_shown_150 hl (k := 3) rfl (congrArg (HAdd.hAdd _) (show Int32.ofInt (1) = 1 by decide)) (by decide) (lv' := [(5, .int (z115.1 + 1)), (0, .ref (gg_o g 0)), (2, .int x2), (4, .int x4), (6, .int z115.2)]) rfl (fun ls hl => ?_)
          refine lv_iinc hx hb dX6_shown_153 hl (k := 4) rfl (congrArg (HAdd.hAdd _) (show Int32.ofInt (1) = 1 by decide)) (by decide) (lv' := [(6, .int (z115.2 + 1)), (5, .int (z115.1 + 1)), (0, .ref (gg_o g 0)), (2, .int x2), (4, .int x4)]) rfl (fun ls hl => ?_)
          refine lv_goto hx hb dX6_shown_156 (tgt := 115) rfl ?_
          exact ih115 _ _ _ ((z115.1 + 1), (z115.2 + 1)) (lv_sub hl [2, 3, 4, 1, 0] rfl) hw hf
        replace hf := h_neg hc17 hf
        refine lv_aload_n hx hb dX6_shown_126 rfl (lv_at hl 0 rfl) ?_
        refine gf_X6_149 cx hw hM dX6_shown_127 ?_
        refine lv_iload hx hb dX6_shown_130 (lv_at hl 4 rfl) ?_
        refine r_iald cx hw (hM.2.2.1 65 rfl) rfl rfl hf dX6_shown_132 (fun hf => ?_)
        refine lv_if_ne hx hb dX6_shown_133 (tgt := 153) rfl (fun hc19 => ?_) (fun hc19 => ?_)
        · replace hf := h_neg hc19 hf
          refine lv_iinc hx hb dX6_shown_153 hl (k := 4) rfl (congrArg (HAdd.hAdd _) (show Int32.ofInt (1) = 1 by decide)) (by decide) (lv' := [(6, .int (z115.2 + 1)), (0, .ref (gg_o g 0)), (2, .int x2), (4, .int x4), (5, .int z115.1)]) rfl (fun ls hl => ?_)
          refine lv_goto hx hb dX6_shown_156 (tgt := 115) rfl ?_
          exact ih115 _ _ _ (z115.1, (z115.2 + 1)) (lv_sub hl [1, 2, 3, 4, 0] rfl) hw hf
        replace hf := h_pos hc19 hf
        refine lv_goto hx hb dX6_shown_136 (tgt := 150) rfl ?_
        refine lv_iinc hx hb dX6_shown_150 hl (k := 3) rfl (congrArg (HAdd.hAdd _) (show Int32.ofInt (1) = 1 by decide)) (by decide) (lv' := [(5, .int (z115.1 + 1)), (0, .ref (gg_o g 0)), (2, .int x2), (4, .int x4), (6, .int z115.2)]) rfl (fun ls hl => ?_)
        refine lv_iinc hx hb dX6_shown_153 hl (k := 4) rfl (congrArg (HAdd.hAdd _) (show Int32.ofInt (1) = 1 by decide)) (by decide) (lv' := [(6, .int (z115.2 + 1)), (5, .int (z115.1 + 1)), (0, .ref (gg_o g 0)), (2, .int x2), (4, .int x4)]) rfl (fun ls hl => ?_)
        refine lv_goto hx hb dX6_shown_156 (tgt := 115) rfl ?_
        exact ih115 _ _ _ ((z115.1 + 1), (z115.2 + 1)) (lv_sub hl [2, 3, 4, 1, 0] rfl) hw hf
    exact L115 S15 x2 e14 some (fun v h => h) FU _ _ _ ((0 : Int32), e13) (lv_sub hl [2, 3, 5, 1, 0] rfl) hw hf
  replace hf := h_pos hc2 hf
  refine lv_iconst (v := -1) hx hb dX6_shown_8 (by decide) ?_
  exact r_iretw cx hw hr hlk hf dX6_shown_9
theorem dX6_rankFor_0 : decode cX6_rankFor 0 = .ok (.aload_n 0, 1) := by decide +kernel
theorem dX6_rankFor_1 : decode cX6_rankFor 1 = .ok (.iload_n 1, 1) := by decide +kernel
theorem dX6_rankFor_2 : decode cX6_rankFor 2 = .ok (.invokevirtual 416, 3) := by decide +kernel
theorem dX6_rankFor_5 : decode cX6_rankFor 5 = .ok (.ifCond .eq 11, 3) := by decide +kernel
theorem dX6_rankFor_8 : decode cX6_rankFor 8 = .ok (.aload_n 0, 1) := by decide +kernel
theorem dX6_rankFor_9 : decode cX6_rankFor 9 = .ok (.iload_n 2, 1) := by decide +kernel
theorem dX6_rankFor_10 : decode cX6_rankFor 10 = .ok (.invokevirtual 413, 3) := by decide +kernel
theorem dX6_rankFor_13 : decode cX6_rankFor 13 = .ok (.ifCond .ne 5, 3) := by decide +kernel
theorem dX6_rankFor_16 : decode cX6_rankFor 16 = .ok (.iconst (-1), 1) := by decide +kernel
theorem dX6_rankFor_17 : decode cX6_rankFor 17 = .ok (.ireturn, 1) := by decide +kernel
theorem dX6_rankFor_18 : decode cX6_rankFor 18 = .ok (.aload_n 0, 1) := by decide +kernel
theorem dX6_rankFor_19 : decode cX6_rankFor 19 = .ok (.invokevirtual 419, 3) := by decide +kernel
theorem dX6_rankFor_22 : decode cX6_rankFor 22 = .ok (.aload_n 0, 1) := by decide +kernel
theorem dX6_rankFor_23 : decode cX6_rankFor 23 = .ok (.getfield 134, 3) := by decide +kernel
theorem dX6_rankFor_26 : decode cX6_rankFor 26 = .ok (.iload_n 1, 1) := by decide +kernel
theorem dX6_rankFor_27 : decode cX6_rankFor 27 = .ok (.iaload, 1) := by decide +kernel
theorem dX6_rankFor_28 : decode cX6_rankFor 28 = .ok (.iconst (-1), 1) := by decide +kernel
theorem dX6_rankFor_29 : decode cX6_rankFor 29 = .ok (.if_icmp .ne 24, 3) := by decide +kernel
theorem dX6_rankFor_32 : decode cX6_rankFor 32 = .ok (.aload_n 0, 1) := by decide +kernel
theorem dX6_rankFor_33 : decode cX6_rankFor 33 = .ok (.iload_n 1, 1) := by decide +kernel
theorem dX6_rankFor_34 : decode cX6_rankFor 34 = .ok (.aload_n 0, 1) := by decide +kernel
theorem dX6_rankFor_35 : decode cX6_rankFor 35 = .ok (.getfield 348, 3) := by decide +kernel
theorem dX6_rankFor_38 : decode cX6_rankFor 38 = .ok (.invokevirtual 388, 3) := by decide +kernel
theorem dX6_rankFor_41 : decode cX6_rankFor 41 = .ok (.ifCond .ne 12, 3) := by decide +kernel
theorem dX6_rankFor_44 : decode cX6_rankFor 44 = .ok (.aload_n 0, 1) := by decide +kernel
theorem dX6_rankFor_45 : decode cX6_rankFor 45 = .ok (.iload_n 1, 1) := by decide +kernel
theorem dX6_rankFor_46 : decode cX6_rankFor 46 = .ok (.iload_n 2, 1) := by decide +kernel
theorem dX6_rankFor_47 : decode cX6_rankFor 47 = .ok (.invokevirtual 388, 3) := by decide +kernel
theorem dX6_rankFor_50 : decode cX6_rankFor 50 = .ok (.ifCond .eq 6, 3) := by decide +kernel
theorem dX6_rankFor_53 : decode cX6_rankFor 53 = .ok (.bipush (-2), 2) := by decide +kernel
theorem dX6_rankFor_55 : decode cX6_rankFor 55 = .ok (.ireturn, 1) := by decide +kernel
theorem dX6_rankFor_56 : decode cX6_rankFor 56 = .ok (.iconst 0, 1) := by decide +kernel
theorem dX6_rankFor_57 : decode cX6_rankFor 57 = .ok (.istore_n 3, 1) := by decide +kernel
theorem dX6_rankFor_58 : decode cX6_rankFor 58 = .ok (.iload_n 3, 1) := by decide +kernel
theorem dX6_rankFor_59 : decode cX6_rankFor 59 = .ok (.bipush 20, 2) := by decide +kernel
theorem dX6_rankFor_61 : decode cX6_rankFor 61 = .ok (.if_icmp .gt 57, 3) := by decide +kernel
theorem dX6_rankFor_64 : decode cX6_rankFor 64 = .ok (.aload_n 0, 1) := by decide +kernel
theorem dX6_rankFor_65 : decode cX6_rankFor 65 = .ok (.getfield 131, 3) := by decide +kernel
theorem dX6_rankFor_68 : decode cX6_rankFor 68 = .ok (.bipush 36, 2) := by decide +kernel
theorem dX6_rankFor_70 : decode cX6_rankFor 70 = .ok (.aload_n 0, 1) := by decide +kernel
theorem dX6_rankFor_71 : decode cX6_rankFor 71 = .ok (.getfield 348, 3) := by decide +kernel
theorem dX6_rankFor_74 : decode cX6_rankFor 74 = .ok (.imul, 1) := by decide +kernel
theorem dX6_rankFor_75 : decode cX6_rankFor 75 = .ok (.bipush 6, 2) := by decide +kernel
theorem dX6_rankFor_77 : decode cX6_rankFor 77 = .ok (.iadd, 1) := by decide +kernel
theorem dX6_rankFor_78 : decode cX6_rankFor 78 = .ok (.aload_n 0, 1) := by decide +kernel
theorem dX6_rankFor_79 : decode cX6_rankFor 79 = .ok (.getfield 76, 3) := by decide +kernel
theorem dX6_rankFor_82 : decode cX6_rankFor 82 = .ok (.bipush 8, 2) := by decide +kernel
theorem dX6_rankFor_84 : decode cX6_rankFor 84 = .ok (.aload_n 0, 1) := by decide +kernel
theorem dX6_rankFor_85 : decode cX6_rankFor 85 = .ok (.getfield 257, 3) := by decide +kernel
theorem dX6_rankFor_88 : decode cX6_rankFor 88 = .ok (.imul, 1) := by decide +kernel
theorem dX6_rankFor_89 : decode cX6_rankFor 89 = .ok (.iload_n 1, 1) := by decide +kernel
theorem dX6_rankFor_90 : decode cX6_rankFor 90 = .ok (.iadd, 1) := by decide +kernel
theorem dX6_rankFor_91 : decode cX6_rankFor 91 = .ok (.iaload, 1) := by decide +kernel
theorem dX6_rankFor_92 : decode cX6_rankFor 92 = .ok (.iadd, 1) := by decide +kernel
theorem dX6_rankFor_93 : decode cX6_rankFor 93 = .ok (.iload_n 3, 1) := by decide +kernel
theorem dX6_rankFor_94 : decode cX6_rankFor 94 = .ok (.iastore, 1) := by decide +kernel
theorem dX6_rankFor_95 : decode cX6_rankFor 95 = .ok (.aload_n 0, 1) := by decide +kernel
theorem dX6_rankFor_96 : decode cX6_rankFor 96 = .ok (.getfield 348, 3) := by decide +kernel
theorem dX6_rankFor_99 : decode cX6_rankFor 99 = .ok (.aload_n 0, 1) := by decide +kernel
theorem dX6_rankFor_100 : decode cX6_rankFor 100 = .ok (.iload_n 1, 1) := by decide +kernel
theorem dX6_rankFor_101 : decode cX6_rankFor 101 = .ok (.iload_n 3, 1) := by decide +kernel
theorem dX6_rankFor_102 : decode cX6_rankFor 102 = .ok (.invokevirtual 378, 3) := by decide +kernel
theorem dX6_rankFor_105 : decode cX6_rankFor 105 = .ok (.isub, 1) := by decide +kernel
theorem dX6_rankFor_106 : decode cX6_rankFor 106 = .ok (.iload_n 2, 1) := by decide +kernel
theorem dX6_rankFor_107 : decode cX6_rankFor 107 = .ok (.if_icmp .ne 5, 3) := by decide +kernel
theorem dX6_rankFor_110 : decode cX6_rankFor 110 = .ok (.iload_n 3, 1) := by decide +kernel
theorem dX6_rankFor_111 : decode cX6_rankFor 111 = .ok (.ireturn, 1) := by decide +kernel
theorem dX6_rankFor_112 : decode cX6_rankFor 112 = .ok (.iinc 3 1, 3) := by decide +kernel
theorem dX6_rankFor_115 : decode cX6_rankFor 115 = .ok (.goto (-57), 3) := by decide +kernel
theorem dX6_rankFor_118 : decode cX6_rankFor 118 = .ok (.bipush (-2), 2) := by decide +kernel
theorem dX6_rankFor_120 : decode cX6_rankFor 120 = .ok (.ireturn, 1) := by decide +kernel
abbrev rm_X6_rankFor : Room := { frames := 3, cells := 0, slots := 0, locals := 77 }
def f_X6_rankFor_L58 (x1 : Int32) (x2 : Int32) (z58 : Int32 × St) : Option ((Int32 × St) ⊕ (Int32 × St)) :=
  if (20 : Int32) < z58.1 then (some (.inr ((-2 : Int32), z58.2))) else (chk (ib (((8 : Int32) * (st_I z58.2 (ky 0 18))) + x1) 16) (chk (ib ((((36 : Int32) * (st_I z58.2 (ky 0 57))) + (6 : Int32)) + (st_A z58.2 (ky 0 33) (((8 : Int32) * (st_I z58.2 (ky 0 18))) + x1).toNatClampNeg)) 10800) (lt_v (up_A z58.2 (ky 0 56) (upd (st_A z58.2 (ky 0 56)) ((((36 : Int32) * (st_I z58.2 (ky 0 57))) + (6 : Int32)) + (st_A z58.2 (ky 0 33) (((8 : Int32) * (st_I z58.2 (ky 0 18))) + x1).toNatClampNeg)).toNatClampNeg z58.1)) (fun (S12 : St) => (f_X6_lateBy  S12 x1 z58.1).bind (fun (q13 : Int32 × St) => if ((st_I S12 (ky 0 57)) - q13.1) = x2 then (some (.inr (z58.1, q13.2))) else (some (.inl ((z58.1 + 1), q13.2))))))))
def f_X6_rankFor (S : St) (x1 : Int32) (x2 : Int32) : Option (Int32 × St) :=
  (f_X6_isMirror  S x1).bind (fun (q1 : Int32) => if q1 = 0 then (some ((-1 : Int32), S)) else ((f_X6_isPast  S x2).bind (fun (q3 : Int32) => if q3 = 0 then (some ((-1 : Int32), S)) else ((f_X6_copies  S ).bind (fun (q5 : St) => chk (ib x1 8) (if (st_A q5 (ky 0 58) x1.toNatClampNeg) = (-1 : Int32) then ((f_X6_isTurned  q5 x1 (st_I q5 (ky 0 57))).bind (fun (q7 : Int32) => if q7 = 0 then ((f_X6_isTurned  q5 x1 x2).bind (fun (q9 : Int32) => if q9 = 0 then (iter (f_X6_rankFor_L58   x1 x2) FU ((0 : Int32), q5)) else (some ((-2 : Int32), q5)))) else (some ((-2 : Int32), q5)))) else (some ((-2 : Int32), q5))))))))
set_option maxRecDepth 100000 in
set_option maxHeartbeats 4000000 in
theorem k_X6_rankFor (l : Launch) (g : GG) (hg : gd wd_M g)  (hM : hs wd_M g 0 6) (S : St) (x1 : Int32) (x2 : Int32) (q : Int32 × St) (hf : f_X6_rankFor  S x1 x2 = some q) : Met l yX6_rankFor (Cond.code yX6_rankFor cX6_rankFor 4 (some .int) :: gw_tbl) rm_X6_rankFor (va_Pc [.ref (gg_o g 0), .int x1, .int x2] (wI wd_M g S)) (qc_w wd_M g q) 0 0 (aw g) := by
  refine mt_start (own := RX6) hg (by decide) rfl (Nat.le_of_ble_eq_true rfl) (fun p e s m args below meth c ls H locs cx hw hr hlk hl => ?_)
  have hx := cx.1
  have hb := cx.2.1
  have hown := cx.2.2.2.1
  have hts := cx.2.2.2.2.1
  have hl : lv_has ls 4 [(0, .ref (gg_o g 0)), (1, .int x1), (2, .int x2)] := hl
  replace hf := h_top hf
  unfold f_X6_rankFor at hf
  refine lv_aload_n hx hb dX6_rankFor_0 rfl (lv_at hl 0 rfl) ?_
  refine lv_iload_n hx hb dX6_rankFor_1 rfl (lv_at hl 1 rfl) ?_
  refine r_V_i (As := [.int x1]) (rest := []) cx hw hf hM.2.1 (by rw [hM.1]; rfl) lk_X6_416 (fun q1 hq => k_X6_isMirror l g hg  hM S x1 q1 hq) ⟨⟨rfl, rfl⟩, Nat.le_of_ble_eq_true rfl, Nat.le_of_ble_eq_true rfl⟩ rfl hl.1 rfl (Nat.le_of_ble_eq_true rfl) dX6_rankFor_2 ⟨Nat.zero_le _, Nat.zero_le _⟩ (fun q1 H locs hw hf => ?_)
  refine lv_if_eq hx hb dX6_rankFor_5 (tgt := 16) rfl (fun hc2 => ?_) (fun hc2 => ?_)
  · replace hf := h_pos hc2 hf
    refine lv_iconst (v := -1) hx hb dX6_rankFor_16 (by decide) ?_
    exact r_iretw cx hw hr hlk hf dX6_rankFor_17
  replace hf := h_neg hc2 hf
  refine lv_aload_n hx hb dX6_rankFor_8 rfl (lv_at hl 0 rfl) ?_
  refine lv_iload_n hx hb dX6_rankFor_9 rfl (lv_at hl 2 rfl) ?_
  refine r_V_i (As := [.int x2]) (rest := []) cx hw hf hM.2.1 (by rw [hM.1]; rfl) lk_X6_413 (fun q3 hq => k_X6_isPast l g hg  hM S x2 q3 hq) ⟨⟨rfl, rfl⟩, Nat.le_of_ble_eq_true rfl, Nat.le_of_ble_eq_true rfl⟩ rfl hl.1 rfl (Nat.le_of_ble_eq_true rfl) dX6_rankFor_10 ⟨Nat.zero_le _, Nat.zero_le _⟩ (fun q3 H locs hw hf => ?_)
  refine lv_if_ne hx hb dX6_rankFor_13 (tgt := 18) rfl (fun hc4 => ?_) (fun hc4 => ?_)
  · replace hf := h_neg hc4 hf
    refine lv_aload_n hx hb dX6_rankFor_18 rfl (lv_at hl 0 rfl) ?_
    refine r_V_v (As := []) (rest := []) cx hw hf hM.2.1 (by rw [hM.1]; rfl) lk_X6_419 (fun q5 hq => k_X6_copies l g hg  hM S  q5 hq) ⟨⟨rfl, rfl⟩, Nat.le_of_ble_eq_true rfl, Nat.le_of_ble_eq_true rfl⟩ rfl hl.1 rfl (Nat.le_of_ble_eq_true rfl) dX6_rankFor_19 ⟨Nat.zero_le _, Nat.zero_le _⟩ (fun q5 H locs hw hf => ?_)
    refine lv_aload_n hx hb dX6_rankFor_22 rfl (lv_at hl 0 rfl) ?_
    refine gf_X6_134 cx hw hM dX6_rankFor_23 ?_
    refine lv_iload_n hx hb dX6_rankFor_26 rfl (lv_at hl 1 rfl) ?_
    refine r_iald cx hw (hM.2.2.1 58 rfl) rfl rfl hf dX6_rankFor_27 (fun hf => ?_)
    refine lv_iconst (v := -1) hx hb dX6_rankFor_28 (by decide) ?_
    refine lv_icmp_ne hx hb dX6_rankFor_29 (tgt := 53) rfl (fun hc6 => ?_) (fun hc6 => ?_)
    · replace hf := h_neg hc6 hf
      refine lv_bipush (v := -2) hx hb dX6_rankFor_53 (by decide) ?_
      exact r_iretw cx hw hr hlk hf dX6_rankFor_55
    replace hf := h_pos hc6 hf
    refine lv_aload_n hx hb dX6_rankFor_32 rfl (lv_at hl 0 rfl) ?_
    refine lv_iload_n hx hb dX6_rankFor_33 rfl (lv_at hl 1 rfl) ?_
    refine lv_aload_n hx hb dX6_rankFor_34 rfl (lv_at hl 0 rfl) ?_
    refine gf_X6_348 cx hw hM dX6_rankFor_35 ?_
    refine r_V_i (As := [.int x1, .int (st_I q5 (ky 0 57))]) (rest := []) cx hw hf hM.2.1 (by rw [hM.1]; rfl) lk_X6_388 (fun q7 hq => k_X6_isTurned l g hg  hM q5 x1 (st_I q5 (ky 0 57)) q7 hq) ⟨⟨rfl, rfl⟩, Nat.le_of_ble_eq_true rfl, Nat.le_of_ble_eq_true rfl⟩ rfl hl.1 rfl (Nat.le_of_ble_eq_true rfl) dX6_rankFor_38 ⟨Nat.zero_le _, Nat.zero_le _⟩ (fun q7 H locs hw hf => ?_)
    refine lv_if_ne hx hb dX6_rankFor_41 (tgt := 53) rfl (fun hc8 => ?_) (fun hc8 => ?_)
    · replace hf := h_neg hc8 hf
      refine lv_bipush (v := -2) hx hb dX6_rankFor_53 (by decide) ?_
      exact r_iretw cx hw hr hlk hf dX6_rankFor_55
    replace hf := h_pos hc8 hf
    refine lv_aload_n hx hb dX6_rankFor_44 rfl (lv_at hl 0 rfl) ?_
    refine lv_iload_n hx hb dX6_rankFor_45 rfl (lv_at hl 1 rfl) ?_
    refine lv_iload_n hx hb dX6_rankFor_46 rfl (lv_at hl 2 rfl) ?_
    refine r_V_i (As := [.int x1, .int x2]) (rest := []) cx hw hf hM.2.1 (by rw [hM.1]; rfl) lk_X6_388 (fun q9 hq => k_X6_isTurned l g hg  hM q5 x1 x2 q9 hq) ⟨⟨rfl, rfl⟩, Nat.le_of_ble_eq_true rfl, Nat.le_of_ble_eq_true rfl⟩ rfl hl.1 rfl (Nat.le_of_ble_eq_true rfl) dX6_rankFor_47 ⟨Nat.zero_le _, Nat.zero_le _⟩ (fun q9 H locs hw hf => ?_)
    refine lv_if_eq hx hb dX6_rankFor_50 (tgt := 56) rfl (fun hc10 => ?_) (fun hc10 => ?_)
    · replace hf := h_pos hc10 hf
      refine lv_iconst (v := 0) hx hb dX6_rankFor_56 (by decide) ?_
      refine lv_istore_n hx hb dX6_rankFor_57 rfl hl (by decide) (lv' := [(3, .int (0 : Int32)), (0, .ref (gg_o g 0)), (1, .int x1), (2, .int x2)]) rfl (fun ls hl => ?_)
      have L58 : ∀ (x1 : Int32) (x2 : Int32) (aft58 : (Int32 × St) → Option (Int32 × St)), (∀ v : Int32 × St, aft58 v = some q → (some v : Option (Int32 × St)).bind some = some q) → ∀ (n58 : Nat) (ls : Array Slot) (H : Heap) (locs : List Loc) (z58 : Int32 × St), lv_has ls 4 [(0, .ref (gg_o g 0)), (1, .int x1), (2, .int x2), (3, .int z58.1)] → HH wd_M g s z58.2 H locs → (iter (f_X6_rankFor_L58   x1 x2) n58 z58).bind aft58 = some q → W p l e rm_X6_rankFor s m args below meth c H locs 0 0 (MQ below (qc_w wd_M g q) args s 0 0 (aw g)) (F0 m 58 ls []) := by
        intro x1 x2 aft58 hR58 n58
        induction n58 with
        | zero => intro ls H locs z58 hl hw hf; exact h_iter0 hf
        | succ n58 ih58 =>
          intro ls H locs z58 hl hw hf
          replace hf := h_iter hf
          unfold f_X6_rankFor_L58 at hf
          refine lv_iload_n hx hb dX6_rankFor_58 rfl (lv_at hl 3 rfl) ?_
          refine lv_bipush (v := 20) hx hb dX6_rankFor_59 (by decide) ?_
          refine lv_icmp_gt hx hb dX6_rankFor_61 (tgt := 118) rfl (fun hc11 => ?_) (fun hc11 => ?_)
          · replace hf := h_pos hc11 hf
            refine lv_bipush (v := -2) hx hb dX6_rankFor_118 (by decide) ?_
            replace hf := hR58 ((-2 : Int32), z58.2) hf
            exact r_iretw cx hw hr hlk hf dX6_rankFor_120
          replace hf := h_neg hc11 hf
          refine lv_aload_n hx hb dX6_rankFor_64 rfl (lv_at hl 0 rfl) ?_
          refine gf_X6_131 cx hw hM dX6_rankFor_65 ?_
          refine lv_bipush (v := 36) hx hb dX6_rankFor_68 (by decide) ?_
          refine lv_aload_n hx hb dX6_rankFor_70 rfl (lv_at hl 0 rfl) ?_
          refine gf_X6_348 cx hw hM dX6_rankFor_71 ?_
          refine lv_imul hx hb dX6_rankFor_74 ?_
          refine lv_bipush (v := 6) hx hb dX6_rankFor_75 (by decide) ?_
          refine lv_iadd hx hb dX6_rankFor_77 ?_
          refine lv_aload_n hx hb dX6_rankFor_78 rfl (lv_at hl 0 rfl) ?_
          refine gf_X6_76 cx hw hM dX6_rankFor_79 ?_
          refine lv_bipush (v := 8) hx hb dX6_rankFor_82 (by decide) ?_
          refine lv_aload_n hx hb dX6_rankFor_84 rfl (lv_at hl 0 rfl) ?_
          refine gf_X6_257 cx hw hM dX6_rankFor_85 ?_
          refine lv_imul hx hb dX6_rankFor_88 ?_
          refine lv_iload_n hx hb dX6_rankFor_89 rfl (lv_at hl 1 rfl) ?_
          refine lv_iadd hx hb dX6_rankFor_90 ?_
          refine r_iald cx hw (hM.2.2.1 33 rfl) rfl rfl hf dX6_rankFor_91 (fun hf => ?_)
          refine lv_iadd hx hb dX6_rankFor_92 ?_
          refine lv_iload_n hx hb dX6_rankFor_93 rfl (lv_at hl 3 rfl) ?_
          refine r_iast cx hw (hM.2.2.1 56 rfl) rfl rfl hf dX6_rankFor_94 (fun S12 H locs hw hf => ?_)
          refine lv_aload_n hx hb dX6_rankFor_95 rfl (lv_at hl 0 rfl) ?_
          refine gf_X6_348 cx hw hM dX6_rankFor_96 ?_
          refine lv_aload_n hx hb dX6_rankFor_99 rfl (lv_at hl 0 rfl) ?_
          refine lv_iload_n hx hb dX6_rankFor_100 rfl (lv_at hl 1 rfl) ?_
          refine lv_iload_n hx hb dX6_rankFor_101 rfl (lv_at hl 3 rfl) ?_
          refine r_V_w (As := [.int x1, .int z58.1]) (rest := [.int (st_I S12 (ky 0 57))]) cx hw hf hM.2.1 (by rw [hM.1]; rfl) lk_X6_378 (fun q13 hq => k_X6_lateBy l g hg  hM S12 x1 z58.1 q13 hq) ⟨⟨rfl, rfl⟩, Nat.le_of_ble_eq_true rfl, Nat.le_of_ble_eq_true rfl⟩ rfl hl.1 rfl (Nat.le_of_ble_eq_true rfl) dX6_rankFor_102 ⟨Nat.zero_le _, Nat.zero_le _⟩ (fun q13 H locs hw hf => ?_)
          refine lv_isub hx hb dX6_rankFor_105 ?_
          refine lv_iload_n hx hb dX6_rankFor_106 rfl (lv_at hl 2 rfl) ?_
          refine lv_icmp_ne hx hb dX6_rankFor_107 (tgt := 112) rfl (fun hc14 => ?_) (fun hc14 => ?_)
          · replace hf := h_neg hc14 hf
            refine lv_iinc hx hb dX6_rankFor_112 hl (k := 3) rfl (congrArg (HAdd.hAdd _) (show Int32.ofInt (1) = 1 by decide)) (by decide) (lv' := [(3, .int (z58.1 + 1)), (0, .ref (gg_o g 0)), (1, .int x1), (2, .int x2)]) rfl (fun ls hl => ?_)
            refine lv_goto hx hb dX6_rankFor_115 (tgt := 58) rfl ?_
            exact ih58 _ _ _ ((z58.1 + 1), q13.2) (lv_sub hl [1, 2, 3, 0] rfl) hw hf
          replace hf := h_pos hc14 hf
          refine lv_iload_n hx hb dX6_rankFor_110 rfl (lv_at hl 3 rfl) ?_
          replace hf := hR58 (z58.1, q13.2) hf
          exact r_iretw cx hw hr hlk hf dX6_rankFor_111
      exact L58 x1 x2 some (fun v h => h) FU _ _ _ ((0 : Int32), q5) (lv_sub hl [1, 2, 3, 0] rfl) hw hf
    replace hf := h_neg hc10 hf
    refine lv_bipush (v := -2) hx hb dX6_rankFor_53 (by decide) ?_
    exact r_iretw cx hw hr hlk hf dX6_rankFor_55
  replace hf := h_pos hc4 hf
  refine lv_iconst (v := -1) hx hb dX6_rankFor_16 (by decide) ?_
  exact r_iretw cx hw hr hlk hf dX6_rankFor_17
theorem dX6_fillsAll_0 : decode cX6_fillsAll 0 = .ok (.aload_n 0, 1) := by decide +kernel
theorem dX6_fillsAll_1 : decode cX6_fillsAll 1 = .ok (.invokevirtual 419, 3) := by decide +kernel
theorem dX6_fillsAll_4 : decode cX6_fillsAll 4 = .ok (.aload_n 0, 1) := by decide +kernel
theorem dX6_fillsAll_5 : decode cX6_fillsAll 5 = .ok (.sipush 299, 3) := by decide +kernel
theorem dX6_fillsAll_8 : decode cX6_fillsAll 8 = .ok (.invokevirtual 425, 3) := by decide +kernel
theorem dX6_fillsAll_11 : decode cX6_fillsAll 11 = .ok (.return_, 1) := by decide +kernel
abbrev rm_X6_fillsAll : Room := { frames := 6, cells := 0, slots := 0, locals := 142 }
def f_X6_fillsAll (S : St)  : Option (St) :=
  (f_X6_copies  S ).bind (fun (q1 : St) => (f_X6_goesTill  q1 (299 : Int32)).bind (fun (q2 : St) => some q2))
set_option maxRecDepth 100000 in
set_option maxHeartbeats 4000000 in
theorem k_X6_fillsAll (l : Launch) (g : GG) (hg : gd wd_M g)  (hM : hs wd_M g 0 6) (S : St)  (q : St) (hf : f_X6_fillsAll  S  = some q) : Met l yX6_fillsAll (Cond.code yX6_fillsAll cX6_fillsAll 1 none :: gw_tbl) rm_X6_fillsAll (va_Pc [.ref (gg_o g 0)] (wI wd_M g S)) (qc_v wd_M g q) 0 0 (aw g) := by
  refine mt_start (own := RX6) hg (by decide) rfl (Nat.le_of_ble_eq_true rfl) (fun p e s m args below meth c ls H locs cx hw hr hlk hl => ?_)
  have hx := cx.1
  have hb := cx.2.1
  have hown := cx.2.2.2.1
  have hts := cx.2.2.2.2.1
  have hl : lv_has ls 1 [(0, .ref (gg_o g 0))] := hl
  replace hf := h_top hf
  unfold f_X6_fillsAll at hf
  refine lv_aload_n hx hb dX6_fillsAll_0 rfl (lv_at hl 0 rfl) ?_
  refine r_V_v (As := []) (rest := []) cx hw hf hM.2.1 (by rw [hM.1]; rfl) lk_X6_419 (fun q1 hq => k_X6_copies l g hg  hM S  q1 hq) ⟨⟨rfl, rfl⟩, Nat.le_of_ble_eq_true rfl, Nat.le_of_ble_eq_true rfl⟩ rfl hl.1 rfl (Nat.le_of_ble_eq_true rfl) dX6_fillsAll_1 ⟨Nat.zero_le _, Nat.zero_le _⟩ (fun q1 H locs hw hf => ?_)
  refine lv_aload_n hx hb dX6_fillsAll_4 rfl (lv_at hl 0 rfl) ?_
  refine lv_sipush (v := 299) hx hb dX6_fillsAll_5 (by decide) ?_
  refine r_V_v (As := [.int (299 : Int32)]) (rest := []) cx hw hf hM.2.1 (by rw [hM.1]; rfl) lk_X6_425 (fun q2 hq => k_X6_goesTill l g hg  hM q1 (299 : Int32) q2 hq) ⟨⟨rfl, rfl⟩, Nat.le_of_ble_eq_true rfl, Nat.le_of_ble_eq_true rfl⟩ rfl hl.1 rfl (Nat.le_of_ble_eq_true rfl) dX6_fillsAll_8 ⟨Nat.zero_le _, Nat.zero_le _⟩ (fun q2 H locs hw hf => ?_)
  exact r_vret cx hw hr hlk hf dX6_fillsAll_11
theorem dX6_showsRoom_0 : decode cX6_showsRoom 0 = .ok (.aload_n 0, 1) := by decide +kernel
theorem dX6_showsRoom_1 : decode cX6_showsRoom 1 = .ok (.iload_n 1, 1) := by decide +kernel
theorem dX6_showsRoom_2 : decode cX6_showsRoom 2 = .ok (.iload_n 2, 1) := by decide +kernel
theorem dX6_showsRoom_3 : decode cX6_showsRoom 3 = .ok (.invokevirtual 395, 3) := by decide +kernel
theorem dX6_showsRoom_6 : decode cX6_showsRoom 6 = .ok (.iload 4, 2) := by decide +kernel
theorem dX6_showsRoom_8 : decode cX6_showsRoom 8 = .ok (.if_icmp .ne 18, 3) := by decide +kernel
theorem dX6_showsRoom_11 : decode cX6_showsRoom 11 = .ok (.aload_n 0, 1) := by decide +kernel
theorem dX6_showsRoom_12 : decode cX6_showsRoom 12 = .ok (.iload_n 1, 1) := by decide +kernel
theorem dX6_showsRoom_13 : decode cX6_showsRoom 13 = .ok (.iload 4, 2) := by decide +kernel
theorem dX6_showsRoom_15 : decode cX6_showsRoom 15 = .ok (.invokevirtual 392, 3) := by decide +kernel
theorem dX6_showsRoom_18 : decode cX6_showsRoom 18 = .ok (.iload_n 3, 1) := by decide +kernel
theorem dX6_showsRoom_19 : decode cX6_showsRoom 19 = .ok (.if_icmp .ne 7, 3) := by decide +kernel
theorem dX6_showsRoom_22 : decode cX6_showsRoom 22 = .ok (.iconst 1, 1) := by decide +kernel
theorem dX6_showsRoom_23 : decode cX6_showsRoom 23 = .ok (.goto 4, 3) := by decide +kernel
theorem dX6_showsRoom_26 : decode cX6_showsRoom 26 = .ok (.iconst 0, 1) := by decide +kernel
theorem dX6_showsRoom_27 : decode cX6_showsRoom 27 = .ok (.ireturn, 1) := by decide +kernel
abbrev rm_X6_showsRoom : Room := { frames := 2, cells := 0, slots := 0, locals := 45 }
def f_X6_showsRoom (S : St) (x1 : Int32) (x2 : Int32) (x3 : Int32) (x4 : Int32) : Option (Int32) :=
  (f_X6_showsAt  S x1 x2).bind (fun (q1 : Int32) => if q1 = x4 then ((f_X6_hungIn  S x1 x4).bind (fun (q3 : Int32) => if q3 = x3 then (some (1 : Int32)) else (some (0 : Int32)))) else (some (0 : Int32)))
set_option maxRecDepth 100000 in
set_option maxHeartbeats 4000000 in
theorem k_X6_showsRoom (l : Launch) (g : GG) (hg : gd wd_M g)  (hM : hs wd_M g 0 6) (S : St) (x1 : Int32) (x2 : Int32) (x3 : Int32) (x4 : Int32) (q : Int32) (hf : f_X6_showsRoom  S x1 x2 x3 x4 = some q) : Met l yX6_showsRoom (Cond.code yX6_showsRoom cX6_showsRoom 5 (some .boolean) :: gw_tbl) rm_X6_showsRoom (va_Pc [.ref (gg_o g 0), .int x1, .int x2, .int x3, .int x4] (wI wd_M g S)) (qc_i wd_M g S q) 0 0 (aw g) := by
  refine mt_start (own := RX6) hg (by decide) rfl (Nat.le_of_ble_eq_true rfl) (fun p e s m args below meth c ls H locs cx hw hr hlk hl => ?_)
  have hx := cx.1
  have hb := cx.2.1
  have hown := cx.2.2.2.1
  have hts := cx.2.2.2.2.1
  have hl : lv_has ls 5 [(0, .ref (gg_o g 0)), (1, .int x1), (2, .int x2), (3, .int x3), (4, .int x4)] := hl
  replace hf := h_top hf
  unfold f_X6_showsRoom at hf
  refine lv_aload_n hx hb dX6_showsRoom_0 rfl (lv_at hl 0 rfl) ?_
  refine lv_iload_n hx hb dX6_showsRoom_1 rfl (lv_at hl 1 rfl) ?_
  refine lv_iload_n hx hb dX6_showsRoom_2 rfl (lv_at hl 2 rfl) ?_
  refine r_V_i (As := [.int x1, .int x2]) (rest := []) cx hw hf hM.2.1 (by rw [hM.1]; rfl) lk_X6_395 (fun q1 hq => k_X6_showsAt l g hg  hM S x1 x2 q1 hq) ⟨⟨rfl, rfl⟩, Nat.le_of_ble_eq_true rfl, Nat.le_of_ble_eq_true rfl⟩ rfl hl.1 rfl (Nat.le_of_ble_eq_true rfl) dX6_showsRoom_3 ⟨Nat.zero_le _, Nat.zero_le _⟩ (fun q1 H locs hw hf => ?_)
  refine lv_iload hx hb dX6_showsRoom_6 (lv_at hl 4 rfl) ?_
  refine lv_icmp_ne hx hb dX6_showsRoom_8 (tgt := 26) rfl (fun hc2 => ?_) (fun hc2 => ?_)
  · replace hf := h_neg hc2 hf
    refine lv_iconst (v := 0) hx hb dX6_showsRoom_26 (by decide) ?_
    exact r_zret cx hw hr hlk (Or.inl rfl) hf dX6_showsRoom_27
  replace hf := h_pos hc2 hf
  refine lv_aload_n hx hb dX6_showsRoom_11 rfl (lv_at hl 0 rfl) ?_
  refine lv_iload_n hx hb dX6_showsRoom_12 rfl (lv_at hl 1 rfl) ?_
  refine lv_iload hx hb dX6_showsRoom_13 (lv_at hl 4 rfl) ?_
  refine r_V_i (As := [.int x1, .int x4]) (rest := []) cx hw hf hM.2.1 (by rw [hM.1]; rfl) lk_X6_392 (fun q3 hq => k_X6_hungIn l g hg  hM S x1 x4 q3 hq) ⟨⟨rfl, rfl⟩, Nat.le_of_ble_eq_true rfl, Nat.le_of_ble_eq_true rfl⟩ rfl hl.1 rfl (Nat.le_of_ble_eq_true rfl) dX6_showsRoom_15 ⟨Nat.zero_le _, Nat.zero_le _⟩ (fun q3 H locs hw hf => ?_)
  refine lv_iload_n hx hb dX6_showsRoom_18 rfl (lv_at hl 3 rfl) ?_
  refine lv_icmp_ne hx hb dX6_showsRoom_19 (tgt := 26) rfl (fun hc4 => ?_) (fun hc4 => ?_)
  · replace hf := h_neg hc4 hf
    refine lv_iconst (v := 0) hx hb dX6_showsRoom_26 (by decide) ?_
    exact r_zret cx hw hr hlk (Or.inl rfl) hf dX6_showsRoom_27
  replace hf := h_pos hc4 hf
  refine lv_iconst (v := 1) hx hb dX6_showsRoom_22 (by decide) ?_
  refine lv_goto hx hb dX6_showsRoom_23 (tgt := 27) rfl ?_
  exact r_zret cx hw hr hlk (Or.inr rfl) hf dX6_showsRoom_27
theorem dX6_still_0 : decode cX6_still 0 = .ok (.aload_n 0, 1) := by decide +kernel
theorem dX6_still_1 : decode cX6_still 1 = .ok (.iload_n 1, 1) := by decide +kernel
theorem dX6_still_2 : decode cX6_still 2 = .ok (.invokevirtual 437, 3) := by decide +kernel
theorem dX6_still_5 : decode cX6_still 5 = .ok (.ifCond .eq 11, 3) := by decide +kernel
theorem dX6_still_8 : decode cX6_still 8 = .ok (.aload_n 0, 1) := by decide +kernel
theorem dX6_still_9 : decode cX6_still 9 = .ok (.iload_n 2, 1) := by decide +kernel
theorem dX6_still_10 : decode cX6_still 10 = .ok (.invokevirtual 413, 3) := by decide +kernel
theorem dX6_still_13 : decode cX6_still 13 = .ok (.ifCond .ne 5, 3) := by decide +kernel
theorem dX6_still_16 : decode cX6_still 16 = .ok (.iconst (-1), 1) := by decide +kernel
theorem dX6_still_17 : decode cX6_still 17 = .ok (.ireturn, 1) := by decide +kernel
theorem dX6_still_18 : decode cX6_still 18 = .ok (.aload_n 0, 1) := by decide +kernel
theorem dX6_still_19 : decode cX6_still 19 = .ok (.invokevirtual 452, 3) := by decide +kernel
theorem dX6_still_22 : decode cX6_still 22 = .ok (.iconst 0, 1) := by decide +kernel
theorem dX6_still_23 : decode cX6_still 23 = .ok (.istore_n 3, 1) := by decide +kernel
theorem dX6_still_24 : decode cX6_still 24 = .ok (.iconst 0, 1) := by decide +kernel
theorem dX6_still_25 : decode cX6_still 25 = .ok (.istore 4, 2) := by decide +kernel
theorem dX6_still_27 : decode cX6_still 27 = .ok (.iload 4, 2) := by decide +kernel
theorem dX6_still_29 : decode cX6_still 29 = .ok (.aload_n 0, 1) := by decide +kernel
theorem dX6_still_30 : decode cX6_still 30 = .ok (.getfield 70, 3) := by decide +kernel
theorem dX6_still_33 : decode cX6_still 33 = .ok (.aload_n 0, 1) := by decide +kernel
theorem dX6_still_34 : decode cX6_still 34 = .ok (.getfield 257, 3) := by decide +kernel
theorem dX6_still_37 : decode cX6_still 37 = .ok (.iaload, 1) := by decide +kernel
theorem dX6_still_38 : decode cX6_still 38 = .ok (.if_icmp .ge 49, 3) := by decide +kernel
theorem dX6_still_41 : decode cX6_still 41 = .ok (.aload_n 0, 1) := by decide +kernel
theorem dX6_still_42 : decode cX6_still 42 = .ok (.getfield 345, 3) := by decide +kernel
theorem dX6_still_45 : decode cX6_still 45 = .ok (.istore 5, 2) := by decide +kernel
theorem dX6_still_47 : decode cX6_still 47 = .ok (.iload 5, 2) := by decide +kernel
theorem dX6_still_49 : decode cX6_still 49 = .ok (.sipush 299, 3) := by decide +kernel
theorem dX6_still_52 : decode cX6_still 52 = .ok (.if_icmp .gt 29, 3) := by decide +kernel
theorem dX6_still_55 : decode cX6_still 55 = .ok (.aload_n 0, 1) := by decide +kernel
theorem dX6_still_56 : decode cX6_still 56 = .ok (.iload 4, 2) := by decide +kernel
theorem dX6_still_58 : decode cX6_still 58 = .ok (.iload 5, 2) := by decide +kernel
theorem dX6_still_60 : decode cX6_still 60 = .ok (.iload_n 1, 1) := by decide +kernel
theorem dX6_still_61 : decode cX6_still 61 = .ok (.iload_n 2, 1) := by decide +kernel
theorem dX6_still_62 : decode cX6_still 62 = .ok (.invokevirtual 455, 3) := by decide +kernel
theorem dX6_still_65 : decode cX6_still 65 = .ok (.ifCond .eq 10, 3) := by decide +kernel
theorem dX6_still_68 : decode cX6_still 68 = .ok (.iload_n 3, 1) := by decide +kernel
theorem dX6_still_69 : decode cX6_still 69 = .ok (.iconst 1, 1) := by decide +kernel
theorem dX6_still_70 : decode cX6_still 70 = .ok (.iload 4, 2) := by decide +kernel
theorem dX6_still_72 : decode cX6_still 72 = .ok (.ishl, 1) := by decide +kernel
theorem dX6_still_73 : decode cX6_still 73 = .ok (.ior, 1) := by decide +kernel
theorem dX6_still_74 : decode cX6_still 74 = .ok (.istore_n 3, 1) := by decide +kernel
theorem dX6_still_75 : decode cX6_still 75 = .ok (.iinc 5 1, 3) := by decide +kernel
theorem dX6_still_78 : decode cX6_still 78 = .ok (.goto (-31), 3) := by decide +kernel
theorem dX6_still_81 : decode cX6_still 81 = .ok (.iinc 4 1, 3) := by decide +kernel
theorem dX6_still_84 : decode cX6_still 84 = .ok (.goto (-57), 3) := by decide +kernel
theorem dX6_still_87 : decode cX6_still 87 = .ok (.iload_n 3, 1) := by decide +kernel
theorem dX6_still_88 : decode cX6_still 88 = .ok (.ireturn, 1) := by decide +kernel
abbrev rm_X6_still : Room := { frames := 7, cells := 0, slots := 0, locals := 162 }
def f_X6_still_L47 (S : St) (x1 : Int32) (x2 : Int32) (x4 : Int32) (z47 : Int32 × Int32) : Option ((Int32 × Int32) ⊕ (Int32)) :=
  if (299 : Int32) < z47.2 then (some (.inr z47.1)) else ((f_X6_showsRoom  S x4 z47.2 x1 x2).bind (fun (q8 : Int32) => if q8 = 0 then (some (.inl (z47.1, (z47.2 + 1)))) else (lt_v (z47.1 ||| ((1 : Int32) <<< (x4 &&& 31))) (fun (u10 : Int32) => some (.inl (u10, (z47.2 + 1)))))))
def f_X6_still_L27 (S : St) (x1 : Int32) (x2 : Int32) (z27 : Int32 × Int32) : Option ((Int32 × Int32) ⊕ (Int32 × St)) :=
  chk (ib (st_I S (ky 0 18)) 2) (if (st_A S (ky 0 31) (st_I S (ky 0 18)).toNatClampNeg) ≤ z27.2 then (some (.inr (z27.1, S))) else ((iter (f_X6_still_L47  S x1 x2 z27.2) FU (z27.1, (st_I S (ky 0 53)))).bind (fun (e11 : Int32) => some (.inl (e11, (z27.2 + 1))))))
def f_X6_still (S : St) (x1 : Int32) (x2 : Int32) : Option (Int32 × St) :=
  (f_X6_isRoom  S x1).bind (fun (q1 : Int32) => if q1 = 0 then (some ((-1 : Int32), S)) else ((f_X6_isPast  S x2).bind (fun (q3 : Int32) => if q3 = 0 then (some ((-1 : Int32), S)) else ((f_X6_fillsAll  S ).bind (fun (q5 : St) => iter (f_X6_still_L27  q5 x1 x2) FU ((0 : Int32), (0 : Int32)))))))
set_option maxRecDepth 100000 in
set_option maxHeartbeats 4000000 in
theorem k_X6_still (l : Launch) (g : GG) (hg : gd wd_M g)  (hM : hs wd_M g 0 6) (S : St) (x1 : Int32) (x2 : Int32) (q : Int32 × St) (hf : f_X6_still  S x1 x2 = some q) : Met l yX6_still (Cond.code yX6_still cX6_still 6 (some .int) :: gw_tbl) rm_X6_still (va_Pc [.ref (gg_o g 0), .int x1, .int x2] (wI wd_M g S)) (qc_w wd_M g q) 0 0 (aw g) := by
  refine mt_start (own := RX6) hg (by decide) rfl (Nat.le_of_ble_eq_true rfl) (fun p e s m args below meth c ls H locs cx hw hr hlk hl => ?_)
  have hx := cx.1
  have hb := cx.2.1
  have hown := cx.2.2.2.1
  have hts := cx.2.2.2.2.1
  have hl : lv_has ls 6 [(0, .ref (gg_o g 0)), (1, .int x1), (2, .int x2)] := hl
  replace hf := h_top hf
  unfold f_X6_still at hf
  refine lv_aload_n hx hb dX6_still_0 rfl (lv_at hl 0 rfl) ?_
  refine lv_iload_n hx hb dX6_still_1 rfl (lv_at hl 1 rfl) ?_
  refine r_V_i (As := [.int x1]) (rest := []) cx hw hf hM.2.1 (by rw [hM.1]; rfl) lk_X6_437 (fun q1 hq => k_X6_isRoom l g hg  hM S x1 q1 hq) ⟨⟨rfl, rfl⟩, Nat.le_of_ble_eq_true rfl, Nat.le_of_ble_eq_true rfl⟩ rfl hl.1 rfl (Nat.le_of_ble_eq_true rfl) dX6_still_2 ⟨Nat.zero_le _, Nat.zero_le _⟩ (fun q1 H locs hw hf => ?_)
  refine lv_if_eq hx hb dX6_still_5 (tgt := 16) rfl (fun hc2 => ?_) (fun hc2 => ?_)
  · replace hf := h_pos hc2 hf
    refine lv_iconst (v := -1) hx hb dX6_still_16 (by decide) ?_
    exact r_iretw cx hw hr hlk hf dX6_still_17
  replace hf := h_neg hc2 hf
  refine lv_aload_n hx hb dX6_still_8 rfl (lv_at hl 0 rfl) ?_
  refine lv_iload_n hx hb dX6_still_9 rfl (lv_at hl 2 rfl) ?_
  refine r_V_i (As := [.int x2]) (rest := []) cx hw hf hM.2.1 (by rw [hM.1]; rfl) lk_X6_413 (fun q3 hq => k_X6_isPast l g hg  hM S x2 q3 hq) ⟨⟨rfl, rfl⟩, Nat.le_of_ble_eq_true rfl, Nat.le_of_ble_eq_true rfl⟩ rfl hl.1 rfl (Nat.le_of_ble_eq_true rfl) dX6_still_10 ⟨Nat.zero_le _, Nat.zero_le _⟩ (fun q3 H locs hw hf => ?_)
  refine lv_if_ne hx hb dX6_still_13 (tgt := 18) rfl (fun hc4 => ?_) (fun hc4 => ?_)
  · replace hf := h_neg hc4 hf
    refine lv_aload_n hx hb dX6_still_18 rfl (lv_at hl 0 rfl) ?_
    refine r_V_v (As := []) (rest := []) cx hw hf hM.2.1 (by rw [hM.1]; rfl) lk_X6_452 (fun q5 hq => k_X6_fillsAll l g hg  hM S  q5 hq) ⟨⟨rfl, rfl⟩, Nat.le_of_ble_eq_true rfl, Nat.le_of_ble_eq_true rfl⟩ rfl hl.1 rfl (Nat.le_of_ble_eq_true rfl) dX6_still_19 ⟨Nat.zero_le _, Nat.zero_le _⟩ (fun q5 H locs hw hf => ?_)
    refine lv_iconst (v := 0) hx hb dX6_still_22 (by decide) ?_
    refine lv_istore_n hx hb dX6_still_23 rfl hl (by decide) (lv' := [(3, .int (0 : Int32)), (0, .ref (gg_o g 0)), (1, .int x1), (2, .int x2)]) rfl (fun ls hl => ?_)
    refine lv_iconst (v := 0) hx hb dX6_still_24 (by decide) ?_
    refine lv_istore hx hb dX6_still_25 hl (by decide) (lv' := [(4, .int (0 : Int32)), (3, .int (0 : Int32)), (0, .ref (gg_o g 0)), (1, .int x1), (2, .int x2)]) rfl (fun ls hl => ?_)
    have L27 : ∀ (S : St) (x1 : Int32) (x2 : Int32) (aft27 : (Int32 × St) → Option (Int32 × St)), (∀ v : Int32 × St, aft27 v = some q → (some v : Option (Int32 × St)).bind some = some q) → ∀ (n27 : Nat) (ls : Array Slot) (H : Heap) (locs : List Loc) (z27 : Int32 × Int32), lv_has ls 6 [(0, .ref (gg_o g 0)), (1, .int x1), (2, .int x2), (3, .int z27.1), (4, .int z27.2)] → HH wd_M g s S H locs → (iter (f_X6_still_L27  S x1 x2) n27 z27).bind aft27 = some q → W p l e rm_X6_still s m args below meth c H locs 0 0 (MQ below (qc_w wd_M g q) args s 0 0 (aw g)) (F0 m 27 ls []) := by
      intro S x1 x2 aft27 hR27 n27
      induction n27 with
      | zero => intro ls H locs z27 hl hw hf; exact h_iter0 hf
      | succ n27 ih27 =>
        intro ls H locs z27 hl hw hf
        replace hf := h_iter hf
        unfold f_X6_still_L27 at hf
        refine lv_iload hx hb dX6_still_27 (lv_at hl 4 rfl) ?_
        refine lv_aload_n hx hb dX6_still_29 rfl (lv_at hl 0 rfl) ?_
        refine gf_X6_70 cx hw hM dX6_still_30 ?_
        refine lv_aload_n hx hb dX6_still_33 rfl (lv_at hl 0 rfl) ?_
        refine gf_X6_257 cx hw hM dX6_still_34 ?_
        refine r_iald cx hw (hM.2.2.1 31 rfl) rfl rfl hf dX6_still_37 (fun hf => ?_)
        refine lv_icmp_ge hx hb dX6_still_38 (tgt := 87) rfl (fun hc6 => ?_) (fun hc6 => ?_)
        · replace hf := h_pos hc6 hf
          refine lv_iload_n hx hb dX6_still_87 rfl (lv_at hl 3 rfl) ?_
          replace hf := hR27 (z27.1, S) hf
          exact r_iretw cx hw hr hlk hf dX6_still_88
        replace hf := h_neg hc6 hf
        refine lv_aload_n hx hb dX6_still_41 rfl (lv_at hl 0 rfl) ?_
        refine gf_X6_345 cx hw hM dX6_still_42 ?_
        refine lv_istore hx hb dX6_still_45 hl (by decide) (lv' := [(5, .int (st_I S (ky 0 53))), (0, .ref (gg_o g 0)), (1, .int x1), (2, .int x2), (3, .int z27.1), (4, .int z27.2)]) rfl (fun ls hl => ?_)
        have L47 : ∀ (S : St) (x1 : Int32) (x2 : Int32) (x4 : Int32) (aft47 : Int32 → Option (Int32 × St)), (∀ (ls : Array Slot) (H : Heap) (locs : List Loc) (e3 : Int32), lv_has ls 6 [(0, .ref (gg_o g 0)), (1, .int x1), (2, .int x2), (3, .int e3), (4, .int x4)] → HH wd_M g s S H locs → aft47 e3 = some q → W p l e rm_X6_still s m args below meth c H locs 0 0 (MQ below (qc_w wd_M g q) args s 0 0 (aw g)) (F0 m 81 ls [])) → ∀ (n47 : Nat) (ls : Array Slot) (H : Heap) (locs : List Loc) (z47 : Int32 × Int32), lv_has ls 6 [(0, .ref (gg_o g 0)), (1, .int x1), (2, .int x2), (3, .int z47.1), (4, .int x4), (5, .int z47.2)] → HH wd_M g s S H locs → (iter (f_X6_still_L47  S x1 x2 x4) n47 z47).bind aft47 = some q → W p l e rm_X6_still s m args below meth c H locs 0 0 (MQ below (qc_w wd_M g q) args s 0 0 (aw g)) (F0 m 47 ls []) := by
          intro S x1 x2 x4 aft47 hX47 n47
          induction n47 with
          | zero => intro ls H locs z47 hl hw hf; exact h_iter0 hf
          | succ n47 ih47 =>
            intro ls H locs z47 hl hw hf
            replace hf := h_iter hf
            unfold f_X6_still_L47 at hf
            refine lv_iload hx hb dX6_still_47 (lv_at hl 5 rfl) ?_
            refine lv_sipush (v := 299) hx hb dX6_still_49 (by decide) ?_
            refine lv_icmp_gt hx hb dX6_still_52 (tgt := 81) rfl (fun hc7 => ?_) (fun hc7 => ?_)
            · replace hf := h_pos hc7 hf
              exact hX47 _ _ _ z47.1 (lv_sub hl [0, 1, 2, 3, 4] rfl) hw hf
            replace hf := h_neg hc7 hf
            refine lv_aload_n hx hb dX6_still_55 rfl (lv_at hl 0 rfl) ?_
            refine lv_iload hx hb dX6_still_56 (lv_at hl 4 rfl) ?_
            refine lv_iload hx hb dX6_still_58 (lv_at hl 5 rfl) ?_
            refine lv_iload_n hx hb dX6_still_60 rfl (lv_at hl 1 rfl) ?_
            refine lv_iload_n hx hb dX6_still_61 rfl (lv_at hl 2 rfl) ?_
            refine r_V_i (As := [.int x4, .int z47.2, .int x1, .int x2]) (rest := []) cx hw hf hM.2.1 (by rw [hM.1]; rfl) lk_X6_455 (fun q8 hq => k_X6_showsRoom l g hg  hM S x4 z47.2 x1 x2 q8 hq) ⟨⟨rfl, rfl⟩, Nat.le_of_ble_eq_true rfl, Nat.le_of_ble_eq_true rfl⟩ rfl hl.1 rfl (Nat.le_of_ble_eq_true rfl) dX6_still_62 ⟨Nat.zero_le _, Nat.zero_le _⟩ (fun q8 H locs hw hf => ?_)
            refine lv_if_eq hx hb dX6_still_65 (tgt := 75) rfl (fun hc9 => ?_) (fun hc9 => ?_)
            · replace hf := h_pos hc9 hf
              refine lv_iinc hx hb dX6_still_75 hl (k := 5) rfl (congrArg (HAdd.hAdd _) (show Int32.ofInt (1) = 1 by decide)) (by decide) (lv' := [(5, .int (z47.2 + 1)), (0, .ref (gg_o g 0)), (1, .int x1), (2, .int x2), (3, .int z47.1), (4, .int x4)]) rfl (fun ls hl => ?_)
              refine lv_goto hx hb dX6_still_78 (tgt := 47) rfl ?_
              exact ih47 _ _ _ (z47.1, (z47.2 + 1)) (lv_sub hl [1, 2, 3, 4, 5, 0] rfl) hw hf
            replace hf := h_neg hc9 hf
            refine lv_iload_n hx hb dX6_still_68 rfl (lv_at hl 3 rfl) ?_
            refine lv_iconst (v := 1) hx hb dX6_still_69 (by decide) ?_
            refine lv_iload hx hb dX6_still_70 (lv_at hl 4 rfl) ?_
            refine lv_ishl hx hb dX6_still_72 ?_
            refine lv_ior hx hb dX6_still_73 ?_
            refine r_leti hf (fun u10 hf => ?_)
            refine lv_istore_n hx hb dX6_still_74 rfl hl (by decide) (lv' := [(3, .int u10), (0, .ref (gg_o g 0)), (1, .int x1), (2, .int x2), (4, .int x4), (5, .int z47.2)]) rfl (fun ls hl => ?_)
            refine lv_iinc hx hb dX6_still_75 hl (k := 5) rfl (congrArg (HAdd.hAdd _) (show Int32.ofInt (1) = 1 by decide)) (by decide) (lv' := [(5, .int (z47.2 + 1)), (3, .int u10), (0, .ref (gg_o g 0)), (1, .int x1), (2, .int x2), (4, .int x4)]) rfl (fun ls hl => ?_)
            refine lv_goto hx hb dX6_still_78 (tgt := 47) rfl ?_
            exact ih47 _ _ _ (u10, (z47.2 + 1)) (lv_sub hl [2, 3, 4, 1, 5, 0] rfl) hw hf
        refine L47 S x1 x2 z27.2 _ (fun ls H locs e11 hl hw hf => ?_) FU _ _ _ (z27.1, (st_I S (ky 0 53))) (lv_sub hl [1, 2, 3, 4, 5, 0] rfl) hw (h_assoc hf)
        try dsimp only at hf
        refine lv_iinc hx hb dX6_still_81 hl (k := 4) rfl (congrArg (HAdd.hAdd _) (show Int32.ofInt (1) = 1 by decide)) (by decide) (lv' := [(4, .int (z27.2 + 1)), (0, .ref (gg_o g 0)), (1, .int x1), (2, .int x2), (3, .int e11)]) rfl (fun ls hl => ?_)
        refine lv_goto hx hb dX6_still_84 (tgt := 27) rfl ?_
        exact ih27 _ _ _ (e11, (z27.2 + 1)) (lv_sub hl [1, 2, 3, 4, 0] rfl) hw hf
    exact L27 q5 x1 x2 some (fun v h => h) FU _ _ _ ((0 : Int32), (0 : Int32)) (lv_sub hl [2, 3, 4, 1, 0] rfl) hw hf
  replace hf := h_pos hc4 hf
  refine lv_iconst (v := -1) hx hb dX6_still_16 (by decide) ?_
  exact r_iretw cx hw hr hlk hf dX6_still_17
theorem dX6_soonest_0 : decode cX6_soonest 0 = .ok (.aload_n 0, 1) := by decide +kernel
theorem dX6_soonest_1 : decode cX6_soonest 1 = .ok (.iload_n 1, 1) := by decide +kernel
theorem dX6_soonest_2 : decode cX6_soonest 2 = .ok (.invokevirtual 437, 3) := by decide +kernel
theorem dX6_soonest_5 : decode cX6_soonest 5 = .ok (.ifCond .eq 20, 3) := by decide +kernel
theorem dX6_soonest_8 : decode cX6_soonest 8 = .ok (.aload_n 0, 1) := by decide +kernel
theorem dX6_soonest_9 : decode cX6_soonest 9 = .ok (.iload_n 2, 1) := by decide +kernel
theorem dX6_soonest_10 : decode cX6_soonest 10 = .ok (.invokevirtual 413, 3) := by decide +kernel
theorem dX6_soonest_13 : decode cX6_soonest 13 = .ok (.ifCond .eq 12, 3) := by decide +kernel
theorem dX6_soonest_16 : decode cX6_soonest 16 = .ok (.iload_n 3, 1) := by decide +kernel
theorem dX6_soonest_17 : decode cX6_soonest 17 = .ok (.iconst 0, 1) := by decide +kernel
theorem dX6_soonest_18 : decode cX6_soonest 18 = .ok (.iconst 1, 1) := by decide +kernel
theorem dX6_soonest_19 : decode cX6_soonest 19 = .ok (.invokestatic 341, 3) := by decide +kernel
theorem dX6_soonest_22 : decode cX6_soonest 22 = .ok (.ifCond .ne 5, 3) := by decide +kernel
theorem dX6_soonest_25 : decode cX6_soonest 25 = .ok (.iconst (-1), 1) := by decide +kernel
theorem dX6_soonest_26 : decode cX6_soonest 26 = .ok (.ireturn, 1) := by decide +kernel
theorem dX6_soonest_27 : decode cX6_soonest 27 = .ok (.aload_n 0, 1) := by decide +kernel
theorem dX6_soonest_28 : decode cX6_soonest 28 = .ok (.invokevirtual 452, 3) := by decide +kernel
theorem dX6_soonest_31 : decode cX6_soonest 31 = .ok (.aload_n 0, 1) := by decide +kernel
theorem dX6_soonest_32 : decode cX6_soonest 32 = .ok (.getfield 345, 3) := by decide +kernel
theorem dX6_soonest_35 : decode cX6_soonest 35 = .ok (.istore 4, 2) := by decide +kernel
theorem dX6_soonest_37 : decode cX6_soonest 37 = .ok (.iload 4, 2) := by decide +kernel
theorem dX6_soonest_39 : decode cX6_soonest 39 = .ok (.sipush 299, 3) := by decide +kernel
theorem dX6_soonest_42 : decode cX6_soonest 42 = .ok (.if_icmp .gt 57, 3) := by decide +kernel
theorem dX6_soonest_45 : decode cX6_soonest 45 = .ok (.iconst 0, 1) := by decide +kernel
theorem dX6_soonest_46 : decode cX6_soonest 46 = .ok (.istore 5, 2) := by decide +kernel
theorem dX6_soonest_48 : decode cX6_soonest 48 = .ok (.iload 5, 2) := by decide +kernel
theorem dX6_soonest_50 : decode cX6_soonest 50 = .ok (.aload_n 0, 1) := by decide +kernel
theorem dX6_soonest_51 : decode cX6_soonest 51 = .ok (.getfield 70, 3) := by decide +kernel
theorem dX6_soonest_54 : decode cX6_soonest 54 = .ok (.aload_n 0, 1) := by decide +kernel
theorem dX6_soonest_55 : decode cX6_soonest 55 = .ok (.getfield 257, 3) := by decide +kernel
theorem dX6_soonest_58 : decode cX6_soonest 58 = .ok (.iaload, 1) := by decide +kernel
theorem dX6_soonest_59 : decode cX6_soonest 59 = .ok (.if_icmp .ge 34, 3) := by decide +kernel
theorem dX6_soonest_62 : decode cX6_soonest 62 = .ok (.aload_n 0, 1) := by decide +kernel
theorem dX6_soonest_63 : decode cX6_soonest 63 = .ok (.iload 5, 2) := by decide +kernel
theorem dX6_soonest_65 : decode cX6_soonest 65 = .ok (.iload 4, 2) := by decide +kernel
theorem dX6_soonest_67 : decode cX6_soonest 67 = .ok (.iload_n 1, 1) := by decide +kernel
theorem dX6_soonest_68 : decode cX6_soonest 68 = .ok (.iload_n 2, 1) := by decide +kernel
theorem dX6_soonest_69 : decode cX6_soonest 69 = .ok (.invokevirtual 455, 3) := by decide +kernel
theorem dX6_soonest_72 : decode cX6_soonest 72 = .ok (.ifCond .eq 15, 3) := by decide +kernel
theorem dX6_soonest_75 : decode cX6_soonest 75 = .ok (.iload_n 3, 1) := by decide +kernel
theorem dX6_soonest_76 : decode cX6_soonest 76 = .ok (.ifCond .ne 8, 3) := by decide +kernel
theorem dX6_soonest_79 : decode cX6_soonest 79 = .ok (.iload 4, 2) := by decide +kernel
theorem dX6_soonest_81 : decode cX6_soonest 81 = .ok (.goto 5, 3) := by decide +kernel
theorem dX6_soonest_84 : decode cX6_soonest 84 = .ok (.iload 5, 2) := by decide +kernel
theorem dX6_soonest_86 : decode cX6_soonest 86 = .ok (.ireturn, 1) := by decide +kernel
theorem dX6_soonest_87 : decode cX6_soonest 87 = .ok (.iinc 5 1, 3) := by decide +kernel
theorem dX6_soonest_90 : decode cX6_soonest 90 = .ok (.goto (-42), 3) := by decide +kernel
theorem dX6_soonest_93 : decode cX6_soonest 93 = .ok (.iinc 4 1, 3) := by decide +kernel
theorem dX6_soonest_96 : decode cX6_soonest 96 = .ok (.goto (-59), 3) := by decide +kernel
theorem dX6_soonest_99 : decode cX6_soonest 99 = .ok (.bipush (-2), 2) := by decide +kernel
theorem dX6_soonest_101 : decode cX6_soonest 101 = .ok (.ireturn, 1) := by decide +kernel
abbrev rm_X6_soonest : Room := { frames := 7, cells := 0, slots := 0, locals := 162 }
def f_X6_soonest_L48 (S : St) (x1 : Int32) (x2 : Int32) (x3 : Int32) (x4 : Int32) (z48 : Int32) : Option ((Int32) ⊕ ((Unit) ⊕ (Int32 × St))) :=
  chk (ib (st_I S (ky 0 18)) 2) (if (st_A S (ky 0 31) (st_I S (ky 0 18)).toNatClampNeg) ≤ z48 then (some (.inr (.inl ()))) else ((f_X6_showsRoom  S z48 x4 x1 x2).bind (fun (q10 : Int32) => if q10 = 0 then (some (.inl (z48 + 1))) else (if x3 = 0 then (some (.inr (.inr (x4, S)))) else (some (.inr (.inr (z48, S))))))))
def f_X6_soonest_L37 (S : St) (x1 : Int32) (x2 : Int32) (x3 : Int32) (z37 : Int32) : Option ((Int32) ⊕ ((Int32 × Int32) ⊕ (Int32 × St))) :=
  if (299 : Int32) < z37 then (some (.inr (.inr ((-2 : Int32), S)))) else ((iter (f_X6_soonest_L48  S x1 x2 x3 z37) FU (0 : Int32)).bind fun z => match z with | .inl z => (fun _ => some (.inl (z37 + 1))) z | .inr v14 => some (.inr (.inr v14)))
def f_X6_soonest (S : St) (x1 : Int32) (x2 : Int32) (x3 : Int32) : Option (Int32 × St) :=
  (f_X6_isRoom  S x1).bind (fun (q1 : Int32) => if q1 = 0 then (some ((-1 : Int32), S)) else ((f_X6_isPast  S x2).bind (fun (q3 : Int32) => if q3 = 0 then (some ((-1 : Int32), S)) else ((f_X6_in   x3 (0 : Int32) (1 : Int32)).bind (fun (q5 : Int32) => if q5 = 0 then (some ((-1 : Int32), S)) else ((f_X6_fillsAll  S ).bind (fun (q7 : St) => (iter (f_X6_soonest_L37  q7 x1 x2 x3) FU (st_I q7 (ky 0 53))).bind fun z => match z with | .inl z => (fun (u18 : Int32 × Int32) => (fun (e15 : Int32) (e16 : Int32) => if x3 = 0 then (some (e15, q7)) else (some (e16, q7))) u18.1 u18.2) z | .inr v19 => some v19)))))))
set_option maxRecDepth 100000 in
set_option maxHeartbeats 4000000 in
theorem k_X6_soonest (l : Launch) (g : GG) (hg : gd wd_M g)  (hM : hs wd_M g 0 6) (S : St) (x1 : Int32) (x2 : Int32) (x3 : Int32) (q : Int32 × St) (hf : f_X6_soonest  S x1 x2 x3 = some q) : Met l yX6_soonest (Cond.code yX6_soonest cX6_soonest 6 (some .int) :: gw_tbl) rm_X6_soonest (va_Pc [.ref (gg_o g 0), .int x1, .int x2, .int x3] (wI wd_M g S)) (qc_w wd_M g q) 0 0 (aw g) := by
  refine mt_start (own := RX6) hg (by decide) rfl (Nat.le_of_ble_eq_true rfl) (fun p e s m args below meth c ls H locs cx hw hr hlk hl => ?_)
  have hx := cx.1
  have hb := cx.2.1
  have hown := cx.2.2.2.1
  have hts := cx.2.2.2.2.1
  have hl : lv_has ls 6 [(0, .ref (gg_o g 0)), (1, .int x1), (2, .int x2), (3, .int x3)] := hl
  replace hf := h_top hf
  unfold f_X6_soonest at hf
  refine lv_aload_n hx hb dX6_soonest_0 rfl (lv_at hl 0 rfl) ?_
  refine lv_iload_n hx hb dX6_soonest_1 rfl (lv_at hl 1 rfl) ?_
  refine r_V_i (As := [.int x1]) (rest := []) cx hw hf hM.2.1 (by rw [hM.1]; rfl) lk_X6_437 (fun q1 hq => k_X6_isRoom l g hg  hM S x1 q1 hq) ⟨⟨rfl, rfl⟩, Nat.le_of_ble_eq_true rfl, Nat.le_of_ble_eq_true rfl⟩ rfl hl.1 rfl (Nat.le_of_ble_eq_true rfl) dX6_soonest_2 ⟨Nat.zero_le _, Nat.zero_le _⟩ (fun q1 H locs hw hf => ?_)
  refine lv_if_eq hx hb dX6_soonest_5 (tgt := 25) rfl (fun hc2 => ?_) (fun hc2 => ?_)
  · replace hf := h_pos hc2 hf
    refine lv_iconst (v := -1) hx hb dX6_soonest_25 (by decide) ?_
    exact r_iretw cx hw hr hlk hf dX6_soonest_26
  replace hf := h_neg hc2 hf
  refine lv_aload_n hx hb dX6_soonest_8 rfl (lv_at hl 0 rfl) ?_
  refine lv_iload_n hx hb dX6_soonest_9 rfl (lv_at hl 2 rfl) ?_
  refine r_V_i (As := [.int x2]) (rest := []) cx hw hf hM.2.1 (by rw [hM.1]; rfl) lk_X6_413 (fun q3 hq => k_X6_isPast l g hg  hM S x2 q3 hq) ⟨⟨rfl, rfl⟩, Nat.le_of_ble_eq_true rfl, Nat.le_of_ble_eq_true rfl⟩ rfl hl.1 rfl (Nat.le_of_ble_eq_true rfl) dX6_soonest_10 ⟨Nat.zero_le _, Nat.zero_le _⟩ (fun q3 H locs hw hf => ?_)
  refine lv_if_eq hx hb dX6_soonest_13 (tgt := 25) rfl (fun hc4 => ?_) (fun hc4 => ?_)
  · replace hf := h_pos hc4 hf
    refine lv_iconst (v := -1) hx hb dX6_soonest_25 (by decide) ?_
    exact r_iretw cx hw hr hlk hf dX6_soonest_26
  replace hf := h_neg hc4 hf
  refine lv_iload_n hx hb dX6_soonest_16 rfl (lv_at hl 3 rfl) ?_
  refine lv_iconst (v := 0) hx hb dX6_soonest_17 (by decide) ?_
  refine lv_iconst (v := 1) hx hb dX6_soonest_18 (by decide) ?_
  refine r_S_i (As := [.int x3, .int (0 : Int32), .int (1 : Int32)]) (rest := []) cx hw hf lk_X6_341 (fun q5 hq => k_X6_in l g hg   S x3 (0 : Int32) (1 : Int32) q5 hq) ⟨⟨rfl, rfl⟩, Nat.le_of_ble_eq_true rfl, Nat.le_of_ble_eq_true rfl⟩ rfl hl.1 rfl (Nat.le_of_ble_eq_true rfl) dX6_soonest_19 ⟨Nat.zero_le _, Nat.zero_le _⟩ (fun q5 H locs hw hf => ?_)
  refine lv_if_ne hx hb dX6_soonest_22 (tgt := 27) rfl (fun hc6 => ?_) (fun hc6 => ?_)
  · replace hf := h_neg hc6 hf
    refine lv_aload_n hx hb dX6_soonest_27 rfl (lv_at hl 0 rfl) ?_
    refine r_V_v (As := []) (rest := []) cx hw hf hM.2.1 (by rw [hM.1]; rfl) lk_X6_452 (fun q7 hq => k_X6_fillsAll l g hg  hM S  q7 hq) ⟨⟨rfl, rfl⟩, Nat.le_of_ble_eq_true rfl, Nat.le_of_ble_eq_true rfl⟩ rfl hl.1 rfl (Nat.le_of_ble_eq_true rfl) dX6_soonest_28 ⟨Nat.zero_le _, Nat.zero_le _⟩ (fun q7 H locs hw hf => ?_)
    refine lv_aload_n hx hb dX6_soonest_31 rfl (lv_at hl 0 rfl) ?_
    refine gf_X6_345 cx hw hM dX6_soonest_32 ?_
    refine lv_istore hx hb dX6_soonest_35 hl (by decide) (lv' := [(4, .int (st_I q7 (ky 0 53))), (0, .ref (gg_o g 0)), (1, .int x1), (2, .int x2), (3, .int x3)]) rfl (fun ls hl => ?_)
    have L37 : ∀ (S : St) (x1 : Int32) (x2 : Int32) (x3 : Int32) (aft37 : ((Int32 × Int32) ⊕ (Int32 × St)) → Option (Int32 × St)), (∀ (ls : Array Slot) (H : Heap) (locs : List Loc) (e4 : Int32) (e5 : Int32), lv_has ls 6 [(3, .int x3), (4, .int e4), (5, .int e5)] → HH wd_M g s S H locs → aft37 (.inl (e4, e5)) = some q → W p l e rm_X6_soonest s m args below meth c H locs 0 0 (MQ below (qc_w wd_M g q) args s 0 0 (aw g)) (F0 m 75 ls [])) → (∀ v : Int32 × St, aft37 (.inr v) = some q → (some v : Option (Int32 × St)).bind some = some q) → ∀ (n37 : Nat) (ls : Array Slot) (H : Heap) (locs : List Loc) (z37 : Int32), lv_has ls 6 [(0, .ref (gg_o g 0)), (1, .int x1), (2, .int x2), (3, .int x3), (4, .int z37)] → HH wd_M g s S H locs → (iter (f_X6_soonest_L37  S x1 x2 x3) n37 z37).bind aft37 = some q → W p l e rm_X6_soonest s m args below meth c H locs 0 0 (MQ below (qc_w wd_M g q) args s 0 0 (aw g)) (F0 m 37 ls []) := by
      intro S x1 x2 x3 aft37 hX37 hR37 n37
      induction n37 with
      | zero => intro ls H locs z37 hl hw hf; exact h_iter0 hf
      | succ n37 ih37 =>
        intro ls H locs z37 hl hw hf
        replace hf := h_iter hf
        unfold f_X6_soonest_L37 at hf
        refine lv_iload hx hb dX6_soonest_37 (lv_at hl 4 rfl) ?_
        refine lv_sipush (v := 299) hx hb dX6_soonest_39 (by decide) ?_
        refine lv_icmp_gt hx hb dX6_soonest_42 (tgt := 99) rfl (fun hc8 => ?_) (fun hc8 => ?_)
        · replace hf := h_pos hc8 hf
          refine lv_bipush (v := -2) hx hb dX6_soonest_99 (by decide) ?_
          replace hf := hR37 ((-2 : Int32), S) hf
          exact r_iretw cx hw hr hlk hf dX6_soonest_101
        replace hf := h_neg hc8 hf
        refine lv_iconst (v := 0) hx hb dX6_soonest_45 (by decide) ?_
        refine lv_istore hx hb dX6_soonest_46 hl (by decide) (lv' := [(5, .int (0 : Int32)), (0, .ref (gg_o g 0)), (1, .int x1), (2, .int x2), (3, .int x3), (4, .int z37)]) rfl (fun ls hl => ?_)
        have L48 : ∀ (S : St) (x1 : Int32) (x2 : Int32) (x3 : Int32) (x4 : Int32) (aft48 : ((Unit) ⊕ (Int32 × St)) → Option (Int32 × St)), (∀ (ls : Array Slot) (H : Heap) (locs : List Loc) , lv_has ls 6 [(0, .ref (gg_o g 0)), (1, .int x1), (2, .int x2), (3, .int x3), (4, .int x4)] → HH wd_M g s S H locs → aft48 (.inl ()) = some q → W p l e rm_X6_soonest s m args below meth c H locs 0 0 (MQ below (qc_w wd_M g q) args s 0 0 (aw g)) (F0 m 93 ls [])) → (∀ v : Int32 × St, aft48 (.inr v) = some q → (some v : Option (Int32 × St)).bind some = some q) → ∀ (n48 : Nat) (ls : Array Slot) (H : Heap) (locs : List Loc) (z48 : Int32), lv_has ls 6 [(0, .ref (gg_o g 0)), (1, .int x1), (2, .int x2), (3, .int x3), (4, .int x4), (5, .int z48)] → HH wd_M g s S H locs → (iter (f_X6_soonest_L48  S x1 x2 x3 x4) n48 z48).bind aft48 = some q → W p l e rm_X6_soonest s m args below meth c H locs 0 0 (MQ below (qc_w wd_M g q) args s 0 0 (aw g)) (F0 m 48 ls []) := by
          intro S x1 x2 x3 x4 aft48 hX48 hR48 n48
          induction n48 with
          | zero => intro ls H locs z48 hl hw hf; exact h_iter0 hf
          | succ n48 ih48 =>
            intro ls H locs z48 hl hw hf
            replace hf := h_iter hf
            unfold f_X6_soonest_L48 at hf
            refine lv_iload hx hb dX6_soonest_48 (lv_at hl 5 rfl) ?_
            refine lv_aload_n hx hb dX6_soonest_50 rfl (lv_at hl 0 rfl) ?_
            refine gf_X6_70 cx hw hM dX6_soonest_51 ?_
            refine lv_aload_n hx hb dX6_soonest_54 rfl (lv_at hl 0 rfl) ?_
            refine gf_X6_257 cx hw hM dX6_soonest_55 ?_
            refine r_iald cx hw (hM.2.2.1 31 rfl) rfl rfl hf dX6_soonest_58 (fun hf => ?_)
            refine lv_icmp_ge hx hb dX6_soonest_59 (tgt := 93) rfl (fun hc9 => ?_) (fun hc9 => ?_)
            · replace hf := h_pos hc9 hf
              exact hX48 _ _ _ (lv_sub hl [0, 1, 2, 3, 4] rfl) hw hf
            replace hf := h_neg hc9 hf
            refine lv_aload_n hx hb dX6_soonest_62 rfl (lv_at hl 0 rfl) ?_
            refine lv_iload hx hb dX6_soonest_63 (lv_at hl 5 rfl) ?_
            refine lv_iload hx hb dX6_soonest_65 (lv_at hl 4 rfl) ?_
            refine lv_iload_n hx hb dX6_soonest_67 rfl (lv_at hl 1 rfl) ?_
            refine lv_iload_n hx hb dX6_soonest_68 rfl (lv_at hl 2 rfl) ?_
            refine r_V_i (As := [.int z48, .int x4, .int x1, .int x2]) (rest := []) cx hw hf hM.2.1 (by rw [hM.1]; rfl) lk_X6_455 (fun q10 hq => k_X6_showsRoom l g hg  hM S z48 x4 x1 x2 q10 hq) ⟨⟨rfl, rfl⟩, Nat.le_of_ble_eq_true rfl, Nat.le_of_ble_eq_true rfl⟩ rfl hl.1 rfl (Nat.le_of_ble_eq_true rfl) dX6_soonest_69 ⟨Nat.zero_le _, Nat.zero_le _⟩ (fun q10 H locs hw hf => ?_)
            refine lv_if_eq hx hb dX6_soonest_72 (tgt := 87) rfl (fun hc11 => ?_) (fun hc11 => ?_)
            · replace hf := h_pos hc11 hf
              refine lv_iinc hx hb dX6_soonest_87 hl (k := 5) rfl (congrArg (HAdd.hAdd _) (show Int32.ofInt (1) = 1 by decide)) (by decide) (lv' := [(5, .int (z48 + 1)), (0, .ref (gg_o g 0)), (1, .int x1), (2, .int x2), (3, .int x3), (4, .int x4)]) rfl (fun ls hl => ?_)
              refine lv_goto hx hb dX6_soonest_90 (tgt := 48) rfl ?_
              exact ih48 _ _ _ (z48 + 1) (lv_sub hl [1, 2, 3, 4, 5, 0] rfl) hw hf
            replace hf := h_neg hc11 hf
            refine lv_iload_n hx hb dX6_soonest_75 rfl (lv_at hl 3 rfl) ?_
            refine lv_if_ne hx hb dX6_soonest_76 (tgt := 84) rfl (fun hc12 => ?_) (fun hc12 => ?_)
            · replace hf := h_neg hc12 hf
              refine lv_iload hx hb dX6_soonest_84 (lv_at hl 5 rfl) ?_
              replace hf := hR48 (z48, S) hf
              exact r_iretw cx hw hr hlk hf dX6_soonest_86
            replace hf := h_pos hc12 hf
            refine lv_iload hx hb dX6_soonest_79 (lv_at hl 4 rfl) ?_
            refine lv_goto hx hb dX6_soonest_81 (tgt := 86) rfl ?_
            replace hf := hR48 (x4, S) hf
            exact r_iretw cx hw hr hlk hf dX6_soonest_86
        refine L48 S x1 x2 x3 z37 _ (fun ls H locs  hl hw hf => ?_) ?_ FU _ _ _ (0 : Int32) (lv_sub hl [1, 2, 3, 4, 5, 0] rfl) hw (h_assoc hf)
        · skip
          try dsimp only at hf
          refine lv_iinc hx hb dX6_soonest_93 hl (k := 4) rfl (congrArg (HAdd.hAdd _) (show Int32.ofInt (1) = 1 by decide)) (by decide) (lv' := [(4, .int (z37 + 1)), (0, .ref (gg_o g 0)), (1, .int x1), (2, .int x2), (3, .int x3)]) rfl (fun ls hl => ?_)
          refine lv_goto hx hb dX6_soonest_96 (tgt := 37) rfl ?_
          exact ih37 _ _ _ (z37 + 1) (lv_sub hl [1, 2, 3, 4, 0] rfl) hw hf
        exact (fun v h => hR37 v h)
    refine L37 q7 x1 x2 x3 _ (fun ls H locs e15 e16 hl hw hf => ?_) (fun v h => h) FU _ _ _ (st_I q7 (ky 0 53)) (lv_sub hl [1, 2, 3, 4, 0] rfl) hw (h_assoc hf)
    try dsimp only at hf
    refine lv_iload_n hx hb dX6_soonest_75 rfl (lv_at hl 0 rfl) ?_
    refine lv_if_ne hx hb dX6_soonest_76 (tgt := 84) rfl (fun hc17 => ?_) (fun hc17 => ?_)
    · replace hf := h_neg hc17 hf
      refine lv_iload hx hb dX6_soonest_84 (lv_at hl 2 rfl) ?_
      exact r_iretw cx hw hr hlk hf dX6_soonest_86
    replace hf := h_pos hc17 hf
    refine lv_iload hx hb dX6_soonest_79 (lv_at hl 1 rfl) ?_
    refine lv_goto hx hb dX6_soonest_81 (tgt := 86) rfl ?_
    exact r_iretw cx hw hr hlk hf dX6_soonest_86
  replace hf := h_pos hc6 hf
  refine lv_iconst (v := -1) hx hb dX6_soonest_25 (by decide) ?_
  exact r_iretw cx hw hr hlk hf dX6_soonest_26
theorem dX6_isLong_0 : decode cX6_isLong 0 = .ok (.iload_n 0, 1) := by decide +kernel
theorem dX6_isLong_1 : decode cX6_isLong 1 = .ok (.iconst 0, 1) := by decide +kernel
theorem dX6_isLong_2 : decode cX6_isLong 2 = .ok (.sipush 299, 3) := by decide +kernel
theorem dX6_isLong_5 : decode cX6_isLong 5 = .ok (.invokestatic 341, 3) := by decide +kernel
theorem dX6_isLong_8 : decode cX6_isLong 8 = .ok (.ireturn, 1) := by decide +kernel
abbrev rm_X6_isLong : Room := { frames := 1, cells := 0, slots := 0, locals := 22 }
def f_X6_isLong (x0 : Int32) : Option (Int32) :=
  (f_X6_in   x0 (0 : Int32) (299 : Int32)).bind (fun (q1 : Int32) => chk (isb q1) (some q1))
set_option maxRecDepth 100000 in
set_option maxHeartbeats 4000000 in
theorem k_X6_isLong (l : Launch) (g : GG) (hg : gd wd_M g)  (S : St) (x0 : Int32) (q : Int32) (hf : f_X6_isLong   x0 = some q) : Met l yX6_isLong (Cond.code yX6_isLong cX6_isLong 1 (some .boolean) :: gw_tbl) rm_X6_isLong (va_Pc [.int x0] (wI wd_M g S)) (qc_i wd_M g S q) 0 0 (aw g) := by
  refine mt_start (own := RX6) hg (by decide) rfl (Nat.le_of_ble_eq_true rfl) (fun p e s m args below meth c ls H locs cx hw hr hlk hl => ?_)
  have hx := cx.1
  have hb := cx.2.1
  have hown := cx.2.2.2.1
  have hts := cx.2.2.2.2.1
  have hl : lv_has ls 1 [(0, .int x0)] := hl
  replace hf := h_top hf
  unfold f_X6_isLong at hf
  refine lv_iload_n hx hb dX6_isLong_0 rfl (lv_at hl 0 rfl) ?_
  refine lv_iconst (v := 0) hx hb dX6_isLong_1 (by decide) ?_
  refine lv_sipush (v := 299) hx hb dX6_isLong_2 (by decide) ?_
  refine r_S_i (As := [.int x0, .int (0 : Int32), .int (299 : Int32)]) (rest := []) cx hw hf lk_X6_341 (fun q1 hq => k_X6_in l g hg   S x0 (0 : Int32) (299 : Int32) q1 hq) ⟨⟨rfl, rfl⟩, Nat.le_of_ble_eq_true rfl, Nat.le_of_ble_eq_true rfl⟩ rfl hl.1 rfl (Nat.le_of_ble_eq_true rfl) dX6_isLong_5 ⟨Nat.zero_le _, Nat.zero_le _⟩ (fun q1 H locs hw hf => ?_)
  obtain ⟨hc2, hf⟩ := h_chk hf
  exact r_zret cx hw hr hlk hc2 hf dX6_isLong_8
theorem dX6_isSeenIn_0 : decode cX6_isSeenIn 0 = .ok (.aload_n 0, 1) := by decide +kernel
theorem dX6_isSeenIn_1 : decode cX6_isSeenIn 1 = .ok (.iload_n 1, 1) := by decide +kernel
theorem dX6_isSeenIn_2 : decode cX6_isSeenIn 2 = .ok (.aload_n 0, 1) := by decide +kernel
theorem dX6_isSeenIn_3 : decode cX6_isSeenIn 3 = .ok (.iload_n 1, 1) := by decide +kernel
theorem dX6_isSeenIn_4 : decode cX6_isSeenIn 4 = .ok (.iload_n 2, 1) := by decide +kernel
theorem dX6_isSeenIn_5 : decode cX6_isSeenIn 5 = .ok (.invokevirtual 395, 3) := by decide +kernel
theorem dX6_isSeenIn_8 : decode cX6_isSeenIn 8 = .ok (.invokevirtual 422, 3) := by decide +kernel
theorem dX6_isSeenIn_11 : decode cX6_isSeenIn 11 = .ok (.iload_n 3, 1) := by decide +kernel
theorem dX6_isSeenIn_12 : decode cX6_isSeenIn 12 = .ok (.ishr, 1) := by decide +kernel
theorem dX6_isSeenIn_13 : decode cX6_isSeenIn 13 = .ok (.iconst 1, 1) := by decide +kernel
theorem dX6_isSeenIn_14 : decode cX6_isSeenIn 14 = .ok (.iand, 1) := by decide +kernel
theorem dX6_isSeenIn_15 : decode cX6_isSeenIn 15 = .ok (.iconst 1, 1) := by decide +kernel
theorem dX6_isSeenIn_16 : decode cX6_isSeenIn 16 = .ok (.if_icmp .ne 7, 3) := by decide +kernel
theorem dX6_isSeenIn_19 : decode cX6_isSeenIn 19 = .ok (.iconst 1, 1) := by decide +kernel
theorem dX6_isSeenIn_20 : decode cX6_isSeenIn 20 = .ok (.goto 4, 3) := by decide +kernel
theorem dX6_isSeenIn_23 : decode cX6_isSeenIn 23 = .ok (.iconst 0, 1) := by decide +kernel
theorem dX6_isSeenIn_24 : decode cX6_isSeenIn 24 = .ok (.ireturn, 1) := by decide +kernel
abbrev rm_X6_isSeenIn : Room := { frames := 2, cells := 0, slots := 0, locals := 46 }
def f_X6_isSeenIn (S : St) (x1 : Int32) (x2 : Int32) (x3 : Int32) : Option (Int32) :=
  (f_X6_showsAt  S x1 x2).bind (fun (q1 : Int32) => (f_X6_menShown  S x1 q1).bind (fun (q2 : Int32) => if ((q2 >>> (x3 &&& 31)) &&& (1 : Int32)) = (1 : Int32) then (some (1 : Int32)) else (some (0 : Int32))))
set_option maxRecDepth 100000 in
set_option maxHeartbeats 4000000 in
theorem k_X6_isSeenIn (l : Launch) (g : GG) (hg : gd wd_M g)  (hM : hs wd_M g 0 6) (S : St) (x1 : Int32) (x2 : Int32) (x3 : Int32) (q : Int32) (hf : f_X6_isSeenIn  S x1 x2 x3 = some q) : Met l yX6_isSeenIn (Cond.code yX6_isSeenIn cX6_isSeenIn 4 (some .boolean) :: gw_tbl) rm_X6_isSeenIn (va_Pc [.ref (gg_o g 0), .int x1, .int x2, .int x3] (wI wd_M g S)) (qc_i wd_M g S q) 0 0 (aw g) := by
  refine mt_start (own := RX6) hg (by decide) rfl (Nat.le_of_ble_eq_true rfl) (fun p e s m args below meth c ls H locs cx hw hr hlk hl => ?_)
  have hx := cx.1
  have hb := cx.2.1
  have hown := cx.2.2.2.1
  have hts := cx.2.2.2.2.1
  have hl : lv_has ls 4 [(0, .ref (gg_o g 0)), (1, .int x1), (2, .int x2), (3, .int x3)] := hl
  replace hf := h_top hf
  unfold f_X6_isSeenIn at hf
  refine lv_aload_n hx hb dX6_isSeenIn_0 rfl (lv_at hl 0 rfl) ?_
  refine lv_iload_n hx hb dX6_isSeenIn_1 rfl (lv_at hl 1 rfl) ?_
  refine lv_aload_n hx hb dX6_isSeenIn_2 rfl (lv_at hl 0 rfl) ?_
  refine lv_iload_n hx hb dX6_isSeenIn_3 rfl (lv_at hl 1 rfl) ?_
  refine lv_iload_n hx hb dX6_isSeenIn_4 rfl (lv_at hl 2 rfl) ?_
  refine r_V_i (As := [.int x1, .int x2]) (rest := [.int x1, .ref (gg_o g 0)]) cx hw hf hM.2.1 (by rw [hM.1]; rfl) lk_X6_395 (fun q1 hq => k_X6_showsAt l g hg  hM S x1 x2 q1 hq) ⟨⟨rfl, rfl⟩, Nat.le_of_ble_eq_true rfl, Nat.le_of_ble_eq_true rfl⟩ rfl hl.1 rfl (Nat.le_of_ble_eq_true rfl) dX6_isSeenIn_5 ⟨Nat.zero_le _, Nat.zero_le _⟩ (fun q1 H locs hw hf => ?_)
  refine r_V_i (As := [.int x1, .int q1]) (rest := []) cx hw hf hM.2.1 (by rw [hM.1]; rfl) lk_X6_422 (fun q2 hq => k_X6_menShown l g hg  hM S x1 q1 q2 hq) ⟨⟨rfl, rfl⟩, Nat.le_of_ble_eq_true rfl, Nat.le_of_ble_eq_true rfl⟩ rfl hl.1 rfl (Nat.le_of_ble_eq_true rfl) dX6_isSeenIn_8 ⟨Nat.zero_le _, Nat.zero_le _⟩ (fun q2 H locs hw hf => ?_)
  refine lv_iload_n hx hb dX6_isSeenIn_11 rfl (lv_at hl 3 rfl) ?_
  refine lv_ishr hx hb dX6_isSeenIn_12 ?_
  refine lv_iconst (v := 1) hx hb dX6_isSeenIn_13 (by decide) ?_
  refine lv_iand hx hb dX6_isSeenIn_14 ?_
  refine lv_iconst (v := 1) hx hb dX6_isSeenIn_15 (by decide) ?_
  refine lv_icmp_ne hx hb dX6_isSeenIn_16 (tgt := 23) rfl (fun hc3 => ?_) (fun hc3 => ?_)
  · replace hf := h_neg hc3 hf
    refine lv_iconst (v := 0) hx hb dX6_isSeenIn_23 (by decide) ?_
    exact r_zret cx hw hr hlk (Or.inl rfl) hf dX6_isSeenIn_24
  replace hf := h_pos hc3 hf
  refine lv_iconst (v := 1) hx hb dX6_isSeenIn_19 (by decide) ?_
  refine lv_goto hx hb dX6_isSeenIn_20 (tgt := 24) rfl ?_
  exact r_zret cx hw hr hlk (Or.inr rfl) hf dX6_isSeenIn_24
theorem dX6_seen_0 : decode cX6_seen 0 = .ok (.aload_n 0, 1) := by decide +kernel
theorem dX6_seen_1 : decode cX6_seen 1 = .ok (.iload_n 1, 1) := by decide +kernel
theorem dX6_seen_2 : decode cX6_seen 2 = .ok (.invokevirtual 410, 3) := by decide +kernel
theorem dX6_seen_5 : decode cX6_seen 5 = .ok (.ifCond .eq 10, 3) := by decide +kernel
theorem dX6_seen_8 : decode cX6_seen 8 = .ok (.iload_n 2, 1) := by decide +kernel
theorem dX6_seen_9 : decode cX6_seen 9 = .ok (.invokestatic 459, 3) := by decide +kernel
theorem dX6_seen_12 : decode cX6_seen 12 = .ok (.ifCond .ne 5, 3) := by decide +kernel
theorem dX6_seen_15 : decode cX6_seen 15 = .ok (.iconst (-1), 1) := by decide +kernel
theorem dX6_seen_16 : decode cX6_seen 16 = .ok (.ireturn, 1) := by decide +kernel
theorem dX6_seen_17 : decode cX6_seen 17 = .ok (.aload_n 0, 1) := by decide +kernel
theorem dX6_seen_18 : decode cX6_seen 18 = .ok (.invokevirtual 419, 3) := by decide +kernel
theorem dX6_seen_21 : decode cX6_seen 21 = .ok (.aload_n 0, 1) := by decide +kernel
theorem dX6_seen_22 : decode cX6_seen 22 = .ok (.aload_n 0, 1) := by decide +kernel
theorem dX6_seen_23 : decode cX6_seen 23 = .ok (.getfield 345, 3) := by decide +kernel
theorem dX6_seen_26 : decode cX6_seen 26 = .ok (.iload_n 2, 1) := by decide +kernel
theorem dX6_seen_27 : decode cX6_seen 27 = .ok (.iadd, 1) := by decide +kernel
theorem dX6_seen_28 : decode cX6_seen 28 = .ok (.invokevirtual 425, 3) := by decide +kernel
theorem dX6_seen_31 : decode cX6_seen 31 = .ok (.iconst 0, 1) := by decide +kernel
theorem dX6_seen_32 : decode cX6_seen 32 = .ok (.istore_n 3, 1) := by decide +kernel
theorem dX6_seen_33 : decode cX6_seen 33 = .ok (.aload_n 0, 1) := by decide +kernel
theorem dX6_seen_34 : decode cX6_seen 34 = .ok (.getfield 345, 3) := by decide +kernel
theorem dX6_seen_37 : decode cX6_seen 37 = .ok (.istore 4, 2) := by decide +kernel
theorem dX6_seen_39 : decode cX6_seen 39 = .ok (.iload 4, 2) := by decide +kernel
theorem dX6_seen_41 : decode cX6_seen 41 = .ok (.aload_n 0, 1) := by decide +kernel
theorem dX6_seen_42 : decode cX6_seen 42 = .ok (.getfield 348, 3) := by decide +kernel
theorem dX6_seen_45 : decode cX6_seen 45 = .ok (.if_icmp .gt 47, 3) := by decide +kernel
theorem dX6_seen_48 : decode cX6_seen 48 = .ok (.iconst 0, 1) := by decide +kernel
theorem dX6_seen_49 : decode cX6_seen 49 = .ok (.istore 5, 2) := by decide +kernel
theorem dX6_seen_51 : decode cX6_seen 51 = .ok (.iload 5, 2) := by decide +kernel
theorem dX6_seen_53 : decode cX6_seen 53 = .ok (.aload_n 0, 1) := by decide +kernel
theorem dX6_seen_54 : decode cX6_seen 54 = .ok (.getfield 70, 3) := by decide +kernel
theorem dX6_seen_57 : decode cX6_seen 57 = .ok (.aload_n 0, 1) := by decide +kernel
theorem dX6_seen_58 : decode cX6_seen 58 = .ok (.getfield 257, 3) := by decide +kernel
theorem dX6_seen_61 : decode cX6_seen 61 = .ok (.iaload, 1) := by decide +kernel
theorem dX6_seen_62 : decode cX6_seen 62 = .ok (.if_icmp .ge 24, 3) := by decide +kernel
theorem dX6_seen_65 : decode cX6_seen 65 = .ok (.aload_n 0, 1) := by decide +kernel
theorem dX6_seen_66 : decode cX6_seen 66 = .ok (.iload 5, 2) := by decide +kernel
theorem dX6_seen_68 : decode cX6_seen 68 = .ok (.iload 4, 2) := by decide +kernel
theorem dX6_seen_70 : decode cX6_seen 70 = .ok (.iload_n 1, 1) := by decide +kernel
theorem dX6_seen_71 : decode cX6_seen 71 = .ok (.invokevirtual 462, 3) := by decide +kernel
theorem dX6_seen_74 : decode cX6_seen 74 = .ok (.ifCond .eq 6, 3) := by decide +kernel
theorem dX6_seen_77 : decode cX6_seen 77 = .ok (.iinc 3 1, 3) := by decide +kernel
theorem dX6_seen_80 : decode cX6_seen 80 = .ok (.iinc 5 1, 3) := by decide +kernel
theorem dX6_seen_83 : decode cX6_seen 83 = .ok (.goto (-32), 3) := by decide +kernel
theorem dX6_seen_86 : decode cX6_seen 86 = .ok (.iinc 4 1, 3) := by decide +kernel
theorem dX6_seen_89 : decode cX6_seen 89 = .ok (.goto (-50), 3) := by decide +kernel
theorem dX6_seen_92 : decode cX6_seen 92 = .ok (.iload_n 3, 1) := by decide +kernel
theorem dX6_seen_93 : decode cX6_seen 93 = .ok (.ireturn, 1) := by decide +kernel
abbrev rm_X6_seen : Room := { frames := 6, cells := 0, slots := 0, locals := 142 }
def f_X6_seen_L51 (S : St) (x1 : Int32) (x4 : Int32) (z51 : Int32 × Int32) : Option ((Int32 × Int32) ⊕ (Int32)) :=
  chk (ib (st_I S (ky 0 18)) 2) (if (st_A S (ky 0 31) (st_I S (ky 0 18)).toNatClampNeg) ≤ z51.2 then (some (.inr z51.1)) else ((f_X6_isSeenIn  S z51.2 x4 x1).bind (fun (q9 : Int32) => if q9 = 0 then (some (.inl (z51.1, (z51.2 + 1)))) else (some (.inl ((z51.1 + 1), (z51.2 + 1)))))))
def f_X6_seen_L39 (S : St) (x1 : Int32) (z39 : Int32 × Int32) : Option ((Int32 × Int32) ⊕ (Int32 × St)) :=
  if (st_I S (ky 0 57)) < z39.2 then (some (.inr (z39.1, S))) else ((iter (f_X6_seen_L51  S x1 z39.2) FU (z39.1, (0 : Int32))).bind (fun (e11 : Int32) => some (.inl (e11, (z39.2 + 1)))))
def f_X6_seen (S : St) (x1 : Int32) (x2 : Int32) : Option (Int32 × St) :=
  (f_X6_isMan  S x1).bind (fun (q1 : Int32) => if q1 = 0 then (some ((-1 : Int32), S)) else ((f_X6_isLong   x2).bind (fun (q3 : Int32) => if q3 = 0 then (some ((-1 : Int32), S)) else ((f_X6_copies  S ).bind (fun (q5 : St) => (f_X6_goesTill  q5 ((st_I q5 (ky 0 53)) + x2)).bind (fun (q6 : St) => iter (f_X6_seen_L39  q6 x1) FU ((0 : Int32), (st_I q6 (ky 0 53)))))))))
set_option maxRecDepth 100000 in
set_option maxHeartbeats 4000000 in
theorem k_X6_seen (l : Launch) (g : GG) (hg : gd wd_M g)  (hM : hs wd_M g 0 6) (S : St) (x1 : Int32) (x2 : Int32) (q : Int32 × St) (hf : f_X6_seen  S x1 x2 = some q) : Met l yX6_seen (Cond.code yX6_seen cX6_seen 6 (some .int) :: gw_tbl) rm_X6_seen (va_Pc [.ref (gg_o g 0), .int x1, .int x2] (wI wd_M g S)) (qc_w wd_M g q) 0 0 (aw g) := by
  refine mt_start (own := RX6) hg (by decide) rfl (Nat.le_of_ble_eq_true rfl) (fun p e s m args below meth c ls H locs cx hw hr hlk hl => ?_)
  have hx := cx.1
  have hb := cx.2.1
  have hown := cx.2.2.2.1
  have hts := cx.2.2.2.2.1
  have hl : lv_has ls 6 [(0, .ref (gg_o g 0)), (1, .int x1), (2, .int x2)] := hl
  replace hf := h_top hf
  unfold f_X6_seen at hf
  refine lv_aload_n hx hb dX6_seen_0 rfl (lv_at hl 0 rfl) ?_
  refine lv_iload_n hx hb dX6_seen_1 rfl (lv_at hl 1 rfl) ?_
  refine r_V_i (As := [.int x1]) (rest := []) cx hw hf hM.2.1 (by rw [hM.1]; rfl) lk_X6_410 (fun q1 hq => k_X6_isMan l g hg  hM S x1 q1 hq) ⟨⟨rfl, rfl⟩, Nat.le_of_ble_eq_true rfl, Nat.le_of_ble_eq_true rfl⟩ rfl hl.1 rfl (Nat.le_of_ble_eq_true rfl) dX6_seen_2 ⟨Nat.zero_le _, Nat.zero_le _⟩ (fun q1 H locs hw hf => ?_)
  refine lv_if_eq hx hb dX6_seen_5 (tgt := 15) rfl (fun hc2 => ?_) (fun hc2 => ?_)
  · replace hf := h_pos hc2 hf
    refine lv_iconst (v := -1) hx hb dX6_seen_15 (by decide) ?_
    exact r_iretw cx hw hr hlk hf dX6_seen_16
  replace hf := h_neg hc2 hf
  refine lv_iload_n hx hb dX6_seen_8 rfl (lv_at hl 2 rfl) ?_
  refine r_S_i (As := [.int x2]) (rest := []) cx hw hf lk_X6_459 (fun q3 hq => k_X6_isLong l g hg   S x2 q3 hq) ⟨⟨rfl, rfl⟩, Nat.le_of_ble_eq_true rfl, Nat.le_of_ble_eq_true rfl⟩ rfl hl.1 rfl (Nat.le_of_ble_eq_true rfl) dX6_seen_9 ⟨Nat.zero_le _, Nat.zero_le _⟩ (fun q3 H locs hw hf => ?_)
  refine lv_if_ne hx hb dX6_seen_12 (tgt := 17) rfl (fun hc4 => ?_) (fun hc4 => ?_)
  · replace hf := h_neg hc4 hf
    refine lv_aload_n hx hb dX6_seen_17 rfl (lv_at hl 0 rfl) ?_
    refine r_V_v (As := []) (rest := []) cx hw hf hM.2.1 (by rw [hM.1]; rfl) lk_X6_419 (fun q5 hq => k_X6_copies l g hg  hM S  q5 hq) ⟨⟨rfl, rfl⟩, Nat.le_of_ble_eq_true rfl, Nat.le_of_ble_eq_true rfl⟩ rfl hl.1 rfl (Nat.le_of_ble_eq_true rfl) dX6_seen_18 ⟨Nat.zero_le _, Nat.zero_le _⟩ (fun q5 H locs hw hf => ?_)
    refine lv_aload_n hx hb dX6_seen_21 rfl (lv_at hl 0 rfl) ?_
    refine lv_aload_n hx hb dX6_seen_22 rfl (lv_at hl 0 rfl) ?_
    refine gf_X6_345 cx hw hM dX6_seen_23 ?_
    refine lv_iload_n hx hb dX6_seen_26 rfl (lv_at hl 2 rfl) ?_
    refine lv_iadd hx hb dX6_seen_27 ?_
    refine r_V_v (As := [.int ((st_I q5 (ky 0 53)) + x2)]) (rest := []) cx hw hf hM.2.1 (by rw [hM.1]; rfl) lk_X6_425 (fun q6 hq => k_X6_goesTill l g hg  hM q5 ((st_I q5 (ky 0 53)) + x2) q6 hq) ⟨⟨rfl, rfl⟩, Nat.le_of_ble_eq_true rfl, Nat.le_of_ble_eq_true rfl⟩ rfl hl.1 rfl (Nat.le_of_ble_eq_true rfl) dX6_seen_28 ⟨Nat.zero_le _, Nat.zero_le _⟩ (fun q6 H locs hw hf => ?_)
    refine lv_iconst (v := 0) hx hb dX6_seen_31 (by decide) ?_
    refine lv_istore_n hx hb dX6_seen_32 rfl hl (by decide) (lv' := [(3, .int (0 : Int32)), (0, .ref (gg_o g 0)), (1, .int x1), (2, .int x2)]) rfl (fun ls hl => ?_)
    refine lv_aload_n hx hb dX6_seen_33 rfl (lv_at hl 1 rfl) ?_
    refine gf_X6_345 cx hw hM dX6_seen_34 ?_
    refine lv_istore hx hb dX6_seen_37 hl (by decide) (lv' := [(4, .int (st_I q6 (ky 0 53))), (3, .int (0 : Int32)), (0, .ref (gg_o g 0)), (1, .int x1), (2, .int x2)]) rfl (fun ls hl => ?_)
    have L39 : ∀ (S : St) (x1 : Int32) (aft39 : (Int32 × St) → Option (Int32 × St)), (∀ v : Int32 × St, aft39 v = some q → (some v : Option (Int32 × St)).bind some = some q) → ∀ (n39 : Nat) (ls : Array Slot) (H : Heap) (locs : List Loc) (z39 : Int32 × Int32), lv_has ls 6 [(0, .ref (gg_o g 0)), (1, .int x1), (3, .int z39.1), (4, .int z39.2)] → HH wd_M g s S H locs → (iter (f_X6_seen_L39  S x1) n39 z39).bind aft39 = some q → W p l e rm_X6_seen s m args below meth c H locs 0 0 (MQ below (qc_w wd_M g q) args s 0 0 (aw g)) (F0 m 39 ls []) := by
      intro S x1 aft39 hR39 n39
      induction n39 with
      | zero => intro ls H locs z39 hl hw hf; exact h_iter0 hf
      | succ n39 ih39 =>
        intro ls H locs z39 hl hw hf
        replace hf := h_iter hf
        unfold f_X6_seen_L39 at hf
        refine lv_iload hx hb dX6_seen_39 (lv_at hl 3 rfl) ?_
        refine lv_aload_n hx hb dX6_seen_41 rfl (lv_at hl 0 rfl) ?_
        refine gf_X6_348 cx hw hM dX6_seen_42 ?_
        refine lv_icmp_gt hx hb dX6_seen_45 (tgt := 92) rfl (fun hc7 => ?_) (fun hc7 => ?_)
        · replace hf := h_pos hc7 hf
          refine lv_iload_n hx hb dX6_seen_92 rfl (lv_at hl 2 rfl) ?_
          replace hf := hR39 (z39.1, S) hf
          exact r_iretw cx hw hr hlk hf dX6_seen_93
        replace hf := h_neg hc7 hf
        refine lv_iconst (v := 0) hx hb dX6_seen_48 (by decide) ?_
        refine lv_istore hx hb dX6_seen_49 hl (by decide) (lv' := [(5, .int (0 : Int32)), (0, .ref (gg_o g 0)), (1, .int x1), (3, .int z39.1), (4, .int z39.2)]) rfl (fun ls hl => ?_)
        have L51 : ∀ (S : St) (x1 : Int32) (x4 : Int32) (aft51 : Int32 → Option (Int32 × St)), (∀ (ls : Array Slot) (H : Heap) (locs : List Loc) (e3 : Int32), lv_has ls 6 [(0, .ref (gg_o g 0)), (1, .int x1), (3, .int e3), (4, .int x4)] → HH wd_M g s S H locs → aft51 e3 = some q → W p l e rm_X6_seen s m args below meth c H locs 0 0 (MQ below (qc_w wd_M g q) args s 0 0 (aw g)) (F0 m 86 ls [])) → ∀ (n51 : Nat) (ls : Array Slot) (H : Heap) (locs : List Loc) (z51 : Int32 × Int32), lv_has ls 6 [(0, .ref (gg_o g 0)), (1, .int x1), (3, .int z51.1), (4, .int x4), (5, .int z51.2)] → HH wd_M g s S H locs → (iter (f_X6_seen_L51  S x1 x4) n51 z51).bind aft51 = some q → W p l e rm_X6_seen s m args below meth c H locs 0 0 (MQ below (qc_w wd_M g q) args s 0 0 (aw g)) (F0 m 51 ls []) := by
          intro S x1 x4 aft51 hX51 n51
          induction n51 with
          | zero => intro ls H locs z51 hl hw hf; exact h_iter0 hf
          | succ n51 ih51 =>
            intro ls H locs z51 hl hw hf
            replace hf := h_iter hf
            unfold f_X6_seen_L51 at hf
            refine lv_iload hx hb dX6_seen_51 (lv_at hl 4 rfl) ?_
            refine lv_aload_n hx hb dX6_seen_53 rfl (lv_at hl 0 rfl) ?_
            refine gf_X6_70 cx hw hM dX6_seen_54 ?_
            refine lv_aload_n hx hb dX6_seen_57 rfl (lv_at hl 0 rfl) ?_
            refine gf_X6_257 cx hw hM dX6_seen_58 ?_
            refine r_iald cx hw (hM.2.2.1 31 rfl) rfl rfl hf dX6_seen_61 (fun hf => ?_)
            refine lv_icmp_ge hx hb dX6_seen_62 (tgt := 86) rfl (fun hc8 => ?_) (fun hc8 => ?_)
            · replace hf := h_pos hc8 hf
              exact hX51 _ _ _ z51.1 (lv_sub hl [0, 1, 2, 3] rfl) hw hf
            replace hf := h_neg hc8 hf
            refine lv_aload_n hx hb dX6_seen_65 rfl (lv_at hl 0 rfl) ?_
            refine lv_iload hx hb dX6_seen_66 (lv_at hl 4 rfl) ?_
            refine lv_iload hx hb dX6_seen_68 (lv_at hl 3 rfl) ?_
            refine lv_iload_n hx hb dX6_seen_70 rfl (lv_at hl 1 rfl) ?_
            refine r_V_i (As := [.int z51.2, .int x4, .int x1]) (rest := []) cx hw hf hM.2.1 (by rw [hM.1]; rfl) lk_X6_462 (fun q9 hq => k_X6_isSeenIn l g hg  hM S z51.2 x4 x1 q9 hq) ⟨⟨rfl, rfl⟩, Nat.le_of_ble_eq_true rfl, Nat.le_of_ble_eq_true rfl⟩ rfl hl.1 rfl (Nat.le_of_ble_eq_true rfl) dX6_seen_71 ⟨Nat.zero_le _, Nat.zero_le _⟩ (fun q9 H locs hw hf => ?_)
            refine lv_if_eq hx hb dX6_seen_74 (tgt := 80) rfl (fun hc10 => ?_) (fun hc10 => ?_)
            · replace hf := h_pos hc10 hf
              refine lv_iinc hx hb dX6_seen_80 hl (k := 4) rfl (congrArg (HAdd.hAdd _) (show Int32.ofInt (1) = 1 by decide)) (by decide) (lv' := [(5, .int (z51.2 + 1)), (0, .ref (gg_o g 0)), (1, .int x1), (3, .int z51.1), (4, .int x4)]) rfl (fun ls hl => ?_)
              refine lv_goto hx hb dX6_seen_83 (tgt := 51) rfl ?_
              exact ih51 _ _ _ (z51.1, (z51.2 + 1)) (lv_sub hl [1, 2, 3, 4, 0] rfl) hw hf
            replace hf := h_neg hc10 hf
            refine lv_iinc hx hb dX6_seen_77 hl (k := 2) rfl (congrArg (HAdd.hAdd _) (show Int32.ofInt (1) = 1 by decide)) (by decide) (lv' := [(3, .int (z51.1 + 1)), (0, .ref (gg_o g 0)), (1, .int x1), (4, .int x4), (5, .int z51.2)]) rfl (fun ls hl => ?_)
            refine lv_iinc hx hb dX6_seen_80 hl (k := 4) rfl (congrArg (HAdd.hAdd _) (show Int32.ofInt (1) = 1 by decide)) (by decide) (lv' := [(5, .int (z51.2 + 1)), (3, .int (z51.1 + 1)), (0, .ref (gg_o g 0)), (1, .int x1), (4, .int x4)]) rfl (fun ls hl => ?_)
            refine lv_goto hx hb dX6_seen_83 (tgt := 51) rfl ?_
            exact ih51 _ _ _ ((z51.1 + 1), (z51.2 + 1)) (lv_sub hl [2, 3, 1, 4, 0] rfl) hw hf
        refine L51 S x1 z39.2 _ (fun ls H locs e11 hl hw hf => ?_) FU _ _ _ (z39.1, (0 : Int32)) (lv_sub hl [1, 2, 3, 4, 0] rfl) hw (h_assoc hf)
        try dsimp only at hf
        refine lv_iinc hx hb dX6_seen_86 hl (k := 3) rfl (congrArg (HAdd.hAdd _) (show Int32.ofInt (1) = 1 by decide)) (by decide) (lv' := [(4, .int (z39.2 + 1)), (0, .ref (gg_o g 0)), (1, .int x1), (3, .int e11)]) rfl (fun ls hl => ?_)
        refine lv_goto hx hb dX6_seen_89 (tgt := 39) rfl ?_
        exact ih39 _ _ _ (e11, (z39.2 + 1)) (lv_sub hl [1, 2, 3, 0] rfl) hw hf
    exact L39 q6 x1 some (fun v h => h) FU _ _ _ ((0 : Int32), (st_I q6 (ky 0 53))) (lv_sub hl [2, 3, 1, 0] rfl) hw hf
  replace hf := h_pos hc4 hf
  refine lv_iconst (v := -1) hx hb dX6_seen_15 (by decide) ?_
  exact r_iretw cx hw hr hlk hf dX6_seen_16
theorem dX6_turned_0 : decode cX6_turned 0 = .ok (.aload_n 0, 1) := by decide +kernel
theorem dX6_turned_1 : decode cX6_turned 1 = .ok (.iload_n 1, 1) := by decide +kernel
theorem dX6_turned_2 : decode cX6_turned 2 = .ok (.invokevirtual 410, 3) := by decide +kernel
theorem dX6_turned_5 : decode cX6_turned 5 = .ok (.ifCond .eq 12, 3) := by decide +kernel
theorem dX6_turned_8 : decode cX6_turned 8 = .ok (.iload_n 2, 1) := by decide +kernel
theorem dX6_turned_9 : decode cX6_turned 9 = .ok (.iconst 0, 1) := by decide +kernel
theorem dX6_turned_10 : decode cX6_turned 10 = .ok (.iconst 1, 1) := by decide +kernel
theorem dX6_turned_11 : decode cX6_turned 11 = .ok (.invokestatic 341, 3) := by decide +kernel
theorem dX6_turned_14 : decode cX6_turned 14 = .ok (.ifCond .ne 5, 3) := by decide +kernel
theorem dX6_turned_17 : decode cX6_turned 17 = .ok (.iconst (-1), 1) := by decide +kernel
theorem dX6_turned_18 : decode cX6_turned 18 = .ok (.ireturn, 1) := by decide +kernel
theorem dX6_turned_19 : decode cX6_turned 19 = .ok (.aload_n 0, 1) := by decide +kernel
theorem dX6_turned_20 : decode cX6_turned 20 = .ok (.invokevirtual 452, 3) := by decide +kernel
theorem dX6_turned_23 : decode cX6_turned 23 = .ok (.iconst 0, 1) := by decide +kernel
theorem dX6_turned_24 : decode cX6_turned 24 = .ok (.istore_n 3, 1) := by decide +kernel
theorem dX6_turned_25 : decode cX6_turned 25 = .ok (.iconst 0, 1) := by decide +kernel
theorem dX6_turned_26 : decode cX6_turned 26 = .ok (.istore 4, 2) := by decide +kernel
theorem dX6_turned_28 : decode cX6_turned 28 = .ok (.iload 4, 2) := by decide +kernel
theorem dX6_turned_30 : decode cX6_turned 30 = .ok (.aload_n 0, 1) := by decide +kernel
theorem dX6_turned_31 : decode cX6_turned 31 = .ok (.getfield 70, 3) := by decide +kernel
theorem dX6_turned_34 : decode cX6_turned 34 = .ok (.aload_n 0, 1) := by decide +kernel
theorem dX6_turned_35 : decode cX6_turned 35 = .ok (.getfield 257, 3) := by decide +kernel
theorem dX6_turned_38 : decode cX6_turned 38 = .ok (.iaload, 1) := by decide +kernel
theorem dX6_turned_39 : decode cX6_turned 39 = .ok (.if_icmp .ge 48, 3) := by decide +kernel
theorem dX6_turned_42 : decode cX6_turned 42 = .ok (.aload_n 0, 1) := by decide +kernel
theorem dX6_turned_43 : decode cX6_turned 43 = .ok (.getfield 345, 3) := by decide +kernel
theorem dX6_turned_46 : decode cX6_turned 46 = .ok (.istore 5, 2) := by decide +kernel
theorem dX6_turned_48 : decode cX6_turned 48 = .ok (.iload 5, 2) := by decide +kernel
theorem dX6_turned_50 : decode cX6_turned 50 = .ok (.sipush 299, 3) := by decide +kernel
theorem dX6_turned_53 : decode cX6_turned 53 = .ok (.if_icmp .gt 28, 3) := by decide +kernel
theorem dX6_turned_56 : decode cX6_turned 56 = .ok (.aload_n 0, 1) := by decide +kernel
theorem dX6_turned_57 : decode cX6_turned 57 = .ok (.iload 4, 2) := by decide +kernel
theorem dX6_turned_59 : decode cX6_turned 59 = .ok (.iload 5, 2) := by decide +kernel
theorem dX6_turned_61 : decode cX6_turned 61 = .ok (.iload_n 1, 1) := by decide +kernel
theorem dX6_turned_62 : decode cX6_turned 62 = .ok (.invokevirtual 462, 3) := by decide +kernel
theorem dX6_turned_65 : decode cX6_turned 65 = .ok (.ifCond .eq 10, 3) := by decide +kernel
theorem dX6_turned_68 : decode cX6_turned 68 = .ok (.iload_n 3, 1) := by decide +kernel
theorem dX6_turned_69 : decode cX6_turned 69 = .ok (.iconst 1, 1) := by decide +kernel
theorem dX6_turned_70 : decode cX6_turned 70 = .ok (.iload 4, 2) := by decide +kernel
theorem dX6_turned_72 : decode cX6_turned 72 = .ok (.ishl, 1) := by decide +kernel
theorem dX6_turned_73 : decode cX6_turned 73 = .ok (.ior, 1) := by decide +kernel
theorem dX6_turned_74 : decode cX6_turned 74 = .ok (.istore_n 3, 1) := by decide +kernel
theorem dX6_turned_75 : decode cX6_turned 75 = .ok (.iinc 5 1, 3) := by decide +kernel
theorem dX6_turned_78 : decode cX6_turned 78 = .ok (.goto (-30), 3) := by decide +kernel
theorem dX6_turned_81 : decode cX6_turned 81 = .ok (.iinc 4 1, 3) := by decide +kernel
theorem dX6_turned_84 : decode cX6_turned 84 = .ok (.goto (-56), 3) := by decide +kernel
theorem dX6_turned_87 : decode cX6_turned 87 = .ok (.iload_n 2, 1) := by decide +kernel
theorem dX6_turned_88 : decode cX6_turned 88 = .ok (.ifCond .ne 10, 3) := by decide +kernel
theorem dX6_turned_91 : decode cX6_turned 91 = .ok (.iload_n 3, 1) := by decide +kernel
theorem dX6_turned_92 : decode cX6_turned 92 = .ok (.invokestatic 369, 3) := by decide +kernel
theorem dX6_turned_95 : decode cX6_turned 95 = .ok (.goto 4, 3) := by decide +kernel
theorem dX6_turned_98 : decode cX6_turned 98 = .ok (.iload_n 3, 1) := by decide +kernel
theorem dX6_turned_99 : decode cX6_turned 99 = .ok (.ireturn, 1) := by decide +kernel
abbrev rm_X6_turned : Room := { frames := 7, cells := 0, slots := 0, locals := 162 }
def f_X6_turned_L48 (S : St) (x1 : Int32) (x2 : Int32) (x4 : Int32) (z48 : Int32 × Int32) : Option ((Int32 × Int32) ⊕ (Int32)) :=
  if (299 : Int32) < z48.2 then (some (.inr z48.1)) else ((f_X6_isSeenIn  S x4 z48.2 x1).bind (fun (q8 : Int32) => if q8 = 0 then (some (.inl (z48.1, (z48.2 + 1)))) else (lt_v (z48.1 ||| ((1 : Int32) <<< (x4 &&& 31))) (fun (u10 : Int32) => some (.inl (u10, (z48.2 + 1)))))))
def f_X6_turned_L28 (S : St) (x1 : Int32) (x2 : Int32) (z28 : Int32 × Int32) : Option ((Int32 × Int32) ⊕ (Int32)) :=
  chk (ib (st_I S (ky 0 18)) 2) (if (st_A S (ky 0 31) (st_I S (ky 0 18)).toNatClampNeg) ≤ z28.2 then (some (.inr z28.1)) else ((iter (f_X6_turned_L48  S x1 x2 z28.2) FU (z28.1, (st_I S (ky 0 53)))).bind (fun (e11 : Int32) => some (.inl (e11, (z28.2 + 1))))))
def f_X6_turned (S : St) (x1 : Int32) (x2 : Int32) : Option (Int32 × St) :=
  (f_X6_isMan  S x1).bind (fun (q1 : Int32) => if q1 = 0 then (some ((-1 : Int32), S)) else ((f_X6_in   x2 (0 : Int32) (1 : Int32)).bind (fun (q3 : Int32) => if q3 = 0 then (some ((-1 : Int32), S)) else ((f_X6_fillsAll  S ).bind (fun (q5 : St) => (iter (f_X6_turned_L28  q5 x1 x2) FU ((0 : Int32), (0 : Int32))).bind (fun (e13 : Int32) => if x2 = 0 then ((f_X6_bits   e13).bind (fun (q15 : Int32) => some (q15, q5))) else (some (e13, q5))))))))
set_option maxRecDepth 100000 in
set_option maxHeartbeats 4000000 in
theorem k_X6_turned (l : Launch) (g : GG) (hg : gd wd_M g)  (hM : hs wd_M g 0 6) (S : St) (x1 : Int32) (x2 : Int32) (q : Int32 × St) (hf : f_X6_turned  S x1 x2 = some q) : Met l yX6_turned (Cond.code yX6_turned cX6_turned 6 (some .int) :: gw_tbl) rm_X6_turned (va_Pc [.ref (gg_o g 0), .int x1, .int x2] (wI wd_M g S)) (qc_w wd_M g q) 0 0 (aw g) := by
  refine mt_start (own := RX6) hg (by decide) rfl (Nat.le_of_ble_eq_true rfl) (fun p e s m args below meth c ls H locs cx hw hr hlk hl => ?_)
  have hx := cx.1
  have hb := cx.2.1
  have hown := cx.2.2.2.1
  have hts := cx.2.2.2.2.1
  have hl : lv_has ls 6 [(0, .ref (gg_o g 0)), (1, .int x1), (2, .int x2)] := hl
  replace hf := h_top hf
  unfold f_X6_turned at hf
  refine lv_aload_n hx hb dX6_turned_0 rfl (lv_at hl 0 rfl) ?_
  refine lv_iload_n hx hb dX6_turned_1 rfl (lv_at hl 1 rfl) ?_
  refine r_V_i (As := [.int x1]) (rest := []) cx hw hf hM.2.1 (by rw [hM.1]; rfl) lk_X6_410 (fun q1 hq => k_X6_isMan l g hg  hM S x1 q1 hq) ⟨⟨rfl, rfl⟩, Nat.le_of_ble_eq_true rfl, Nat.le_of_ble_eq_true rfl⟩ rfl hl.1 rfl (Nat.le_of_ble_eq_true rfl) dX6_turned_2 ⟨Nat.zero_le _, Nat.zero_le _⟩ (fun q1 H locs hw hf => ?_)
  refine lv_if_eq hx hb dX6_turned_5 (tgt := 17) rfl (fun hc2 => ?_) (fun hc2 => ?_)
  · replace hf := h_pos hc2 hf
    refine lv_iconst (v := -1) hx hb dX6_turned_17 (by decide) ?_
    exact r_iretw cx hw hr hlk hf dX6_turned_18
  replace hf := h_neg hc2 hf
  refine lv_iload_n hx hb dX6_turned_8 rfl (lv_at hl 2 rfl) ?_
  refine lv_iconst (v := 0) hx hb dX6_turned_9 (by decide) ?_
  refine lv_iconst (v := 1) hx hb dX6_turned_10 (by decide) ?_
  refine r_S_i (As := [.int x2, .int (0 : Int32), .int (1 : Int32)]) (rest := []) cx hw hf lk_X6_341 (fun q3 hq => k_X6_in l g hg   S x2 (0 : Int32) (1 : Int32) q3 hq) ⟨⟨rfl, rfl⟩, Nat.le_of_ble_eq_true rfl, Nat.le_of_ble_eq_true rfl⟩ rfl hl.1 rfl (Nat.le_of_ble_eq_true rfl) dX6_turned_11 ⟨Nat.zero_le _, Nat.zero_le _⟩ (fun q3 H locs hw hf => ?_)
  refine lv_if_ne hx hb dX6_turned_14 (tgt := 19) rfl (fun hc4 => ?_) (fun hc4 => ?_)
  · replace hf := h_neg hc4 hf
    refine lv_aload_n hx hb dX6_turned_19 rfl (lv_at hl 0 rfl) ?_
    refine r_V_v (As := []) (rest := []) cx hw hf hM.2.1 (by rw [hM.1]; rfl) lk_X6_452 (fun q5 hq => k_X6_fillsAll l g hg  hM S  q5 hq) ⟨⟨rfl, rfl⟩, Nat.le_of_ble_eq_true rfl, Nat.le_of_ble_eq_true rfl⟩ rfl hl.1 rfl (Nat.le_of_ble_eq_true rfl) dX6_turned_20 ⟨Nat.zero_le _, Nat.zero_le _⟩ (fun q5 H locs hw hf => ?_)
    refine lv_iconst (v := 0) hx hb dX6_turned_23 (by decide) ?_
    refine lv_istore_n hx hb dX6_turned_24 rfl hl (by decide) (lv' := [(3, .int (0 : Int32)), (0, .ref (gg_o g 0)), (1, .int x1), (2, .int x2)]) rfl (fun ls hl => ?_)
    refine lv_iconst (v := 0) hx hb dX6_turned_25 (by decide) ?_
    refine lv_istore hx hb dX6_turned_26 hl (by decide) (lv' := [(4, .int (0 : Int32)), (3, .int (0 : Int32)), (0, .ref (gg_o g 0)), (1, .int x1), (2, .int x2)]) rfl (fun ls hl => ?_)
    have L28 : ∀ (S : St) (x1 : Int32) (x2 : Int32) (aft28 : Int32 → Option (Int32 × St)), (∀ (ls : Array Slot) (H : Heap) (locs : List Loc) (e3 : Int32), lv_has ls 6 [(2, .int x2), (3, .int e3)] → HH wd_M g s S H locs → aft28 e3 = some q → W p l e rm_X6_turned s m args below meth c H locs 0 0 (MQ below (qc_w wd_M g q) args s 0 0 (aw g)) (F0 m 87 ls [])) → ∀ (n28 : Nat) (ls : Array Slot) (H : Heap) (locs : List Loc) (z28 : Int32 × Int32), lv_has ls 6 [(0, .ref (gg_o g 0)), (1, .int x1), (2, .int x2), (3, .int z28.1), (4, .int z28.2)] → HH wd_M g s S H locs → (iter (f_X6_turned_L28  S x1 x2) n28 z28).bind aft28 = some q → W p l e rm_X6_turned s m args below meth c H locs 0 0 (MQ below (qc_w wd_M g q) args s 0 0 (aw g)) (F0 m 28 ls []) := by
      intro S x1 x2 aft28 hX28 n28
      induction n28 with
      | zero => intro ls H locs z28 hl hw hf; exact h_iter0 hf
      | succ n28 ih28 =>
        intro ls H locs z28 hl hw hf
        replace hf := h_iter hf
        unfold f_X6_turned_L28 at hf
        refine lv_iload hx hb dX6_turned_28 (lv_at hl 4 rfl) ?_
        refine lv_aload_n hx hb dX6_turned_30 rfl (lv_at hl 0 rfl) ?_
        refine gf_X6_70 cx hw hM dX6_turned_31 ?_
        refine lv_aload_n hx hb dX6_turned_34 rfl (lv_at hl 0 rfl) ?_
        refine gf_X6_257 cx hw hM dX6_turned_35 ?_
        refine r_iald cx hw (hM.2.2.1 31 rfl) rfl rfl hf dX6_turned_38 (fun hf => ?_)
        refine lv_icmp_ge hx hb dX6_turned_39 (tgt := 87) rfl (fun hc6 => ?_) (fun hc6 => ?_)
        · replace hf := h_pos hc6 hf
          exact hX28 _ _ _ z28.1 (lv_sub hl [2, 3] rfl) hw hf
        replace hf := h_neg hc6 hf
        refine lv_aload_n hx hb dX6_turned_42 rfl (lv_at hl 0 rfl) ?_
        refine gf_X6_345 cx hw hM dX6_turned_43 ?_
        refine lv_istore hx hb dX6_turned_46 hl (by decide) (lv' := [(5, .int (st_I S (ky 0 53))), (0, .ref (gg_o g 0)), (1, .int x1), (2, .int x2), (3, .int z28.1), (4, .int z28.2)]) rfl (fun ls hl => ?_)
        have L48 : ∀ (S : St) (x1 : Int32) (x2 : Int32) (x4 : Int32) (aft48 : Int32 → Option (Int32 × St)), (∀ (ls : Array Slot) (H : Heap) (locs : List Loc) (e3 : Int32), lv_has ls 6 [(0, .ref (gg_o g 0)), (1, .int x1), (2, .int x2), (3, .int e3), (4, .int x4)] → HH wd_M g s S H locs → aft48 e3 = some q → W p l e rm_X6_turned s m args below meth c H locs 0 0 (MQ below (qc_w wd_M g q) args s 0 0 (aw g)) (F0 m 81 ls [])) → ∀ (n48 : Nat) (ls : Array Slot) (H : Heap) (locs : List Loc) (z48 : Int32 × Int32), lv_has ls 6 [(0, .ref (gg_o g 0)), (1, .int x1), (2, .int x2), (3, .int z48.1), (4, .int x4), (5, .int z48.2)] → HH wd_M g s S H locs → (iter (f_X6_turned_L48  S x1 x2 x4) n48 z48).bind aft48 = some q → W p l e rm_X6_turned s m args below meth c H locs 0 0 (MQ below (qc_w wd_M g q) args s 0 0 (aw g)) (F0 m 48 ls []) := by
          intro S x1 x2 x4 aft48 hX48 n48
          induction n48 with
          | zero => intro ls H locs z48 hl hw hf; exact h_iter0 hf
          | succ n48 ih48 =>
            intro ls H locs z48 hl hw hf
            replace hf := h_iter hf
            unfold f_X6_turned_L48 at hf
            refine lv_iload hx hb dX6_turned_48 (lv_at hl 5 rfl) ?_
            refine lv_sipush (v := 299) hx hb dX6_turned_50 (by decide) ?_
            refine lv_icmp_gt hx hb dX6_turned_53 (tgt := 81) rfl (fun hc7 => ?_) (fun hc7 => ?_)
            · replace hf := h_pos hc7 hf
              exact hX48 _ _ _ z48.1 (lv_sub hl [0, 1, 2, 3, 4] rfl) hw hf
            replace hf := h_neg hc7 hf
            refine lv_aload_n hx hb dX6_turned_56 rfl (lv_at hl 0 rfl) ?_
            refine lv_iload hx hb dX6_turned_57 (lv_at hl 4 rfl) ?_
            refine lv_iload hx hb dX6_turned_59 (lv_at hl 5 rfl) ?_
            refine lv_iload_n hx hb dX6_turned_61 rfl (lv_at hl 1 rfl) ?_
            refine r_V_i (As := [.int x4, .int z48.2, .int x1]) (rest := []) cx hw hf hM.2.1 (by rw [hM.1]; rfl) lk_X6_462 (fun q8 hq => k_X6_isSeenIn l g hg  hM S x4 z48.2 x1 q8 hq) ⟨⟨rfl, rfl⟩, Nat.le_of_ble_eq_true rfl, Nat.le_of_ble_eq_true rfl⟩ rfl hl.1 rfl (Nat.le_of_ble_eq_true rfl) dX6_turned_62 ⟨Nat.zero_le _, Nat.zero_le _⟩ (fun q8 H locs hw hf => ?_)
            refine lv_if_eq hx hb dX6_turned_65 (tgt := 75) rfl (fun hc9 => ?_) (fun hc9 => ?_)
            · replace hf := h_pos hc9 hf
              refine lv_iinc hx hb dX6_turned_75 hl (k := 5) rfl (congrArg (HAdd.hAdd _) (show Int32.ofInt (1) = 1 by decide)) (by decide) (lv' := [(5, .int (z48.2 + 1)), (0, .ref (gg_o g 0)), (1, .int x1), (2, .int x2), (3, .int z48.1), (4, .int x4)]) rfl (fun ls hl => ?_)
              refine lv_goto hx hb dX6_turned_78 (tgt := 48) rfl ?_
              exact ih48 _ _ _ (z48.1, (z48.2 + 1)) (lv_sub hl [1, 2, 3, 4, 5, 0] rfl) hw hf
            replace hf := h_neg hc9 hf
            refine lv_iload_n hx hb dX6_turned_68 rfl (lv_at hl 3 rfl) ?_
            refine lv_iconst (v := 1) hx hb dX6_turned_69 (by decide) ?_
            refine lv_iload hx hb dX6_turned_70 (lv_at hl 4 rfl) ?_
            refine lv_ishl hx hb dX6_turned_72 ?_
            refine lv_ior hx hb dX6_turned_73 ?_
            refine r_leti hf (fun u10 hf => ?_)
            refine lv_istore_n hx hb dX6_turned_74 rfl hl (by decide) (lv' := [(3, .int u10), (0, .ref (gg_o g 0)), (1, .int x1), (2, .int x2), (4, .int x4), (5, .int z48.2)]) rfl (fun ls hl => ?_)
            refine lv_iinc hx hb dX6_turned_75 hl (k := 5) rfl (congrArg (HAdd.hAdd _) (show Int32.ofInt (1) = 1 by decide)) (by decide) (lv' := [(5, .int (z48.2 + 1)), (3, .int u10), (0, .ref (gg_o g 0)), (1, .int x1), (2, .int x2), (4, .int x4)]) rfl (fun ls hl => ?_)
            refine lv_goto hx hb dX6_turned_78 (tgt := 48) rfl ?_
            exact ih48 _ _ _ (u10, (z48.2 + 1)) (lv_sub hl [2, 3, 4, 1, 5, 0] rfl) hw hf
        refine L48 S x1 x2 z28.2 _ (fun ls H locs e11 hl hw hf => ?_) FU _ _ _ (z28.1, (st_I S (ky 0 53))) (lv_sub hl [1, 2, 3, 4, 5, 0] rfl) hw (h_assoc hf)
        try dsimp only at hf
        refine lv_iinc hx hb dX6_turned_81 hl (k := 4) rfl (congrArg (HAdd.hAdd _) (show Int32.ofInt (1) = 1 by decide)) (by decide) (lv' := [(4, .int (z28.2 + 1)), (0, .ref (gg_o g 0)), (1, .int x1), (2, .int x2), (3, .int e11)]) rfl (fun ls hl => ?_)
        refine lv_goto hx hb dX6_turned_84 (tgt := 28) rfl ?_
        exact ih28 _ _ _ (e11, (z28.2 + 1)) (lv_sub hl [1, 2, 3, 4, 0] rfl) hw hf
    refine L28 q5 x1 x2 _ (fun ls H locs e13 hl hw hf => ?_) FU _ _ _ ((0 : Int32), (0 : Int32)) (lv_sub hl [2, 3, 4, 1, 0] rfl) hw (h_assoc hf)
    try dsimp only at hf
    refine lv_iload_n hx hb dX6_turned_87 rfl (lv_at hl 0 rfl) ?_
    refine lv_if_ne hx hb dX6_turned_88 (tgt := 98) rfl (fun hc14 => ?_) (fun hc14 => ?_)
    · replace hf := h_neg hc14 hf
      refine lv_iload_n hx hb dX6_turned_98 rfl (lv_at hl 1 rfl) ?_
      exact r_iretw cx hw hr hlk hf dX6_turned_99
    replace hf := h_pos hc14 hf
    refine lv_iload_n hx hb dX6_turned_91 rfl (lv_at hl 1 rfl) ?_
    refine r_S_i (As := [.int e13]) (rest := []) cx hw hf lk_X6_369 (fun q15 hq => k_X6_bits l g hg   q5 e13 q15 hq) ⟨⟨rfl, rfl⟩, Nat.le_of_ble_eq_true rfl, Nat.le_of_ble_eq_true rfl⟩ rfl hl.1 rfl (Nat.le_of_ble_eq_true rfl) dX6_turned_92 ⟨Nat.zero_le _, Nat.zero_le _⟩ (fun q15 H locs hw hf => ?_)
    refine lv_goto hx hb dX6_turned_95 (tgt := 99) rfl ?_
    exact r_iretw cx hw hr hlk hf dX6_turned_99
  replace hf := h_pos hc4 hf
  refine lv_iconst (v := -1) hx hb dX6_turned_17 (by decide) ?_
  exact r_iretw cx hw hr hlk hf dX6_turned_18
theorem dX6_willBe_0 : decode cX6_willBe 0 = .ok (.aload_n 0, 1) := by decide +kernel
theorem dX6_willBe_1 : decode cX6_willBe 1 = .ok (.iload_n 1, 1) := by decide +kernel
theorem dX6_willBe_2 : decode cX6_willBe 2 = .ok (.invokevirtual 410, 3) := by decide +kernel
theorem dX6_willBe_5 : decode cX6_willBe 5 = .ok (.ifCond .eq 10, 3) := by decide +kernel
theorem dX6_willBe_8 : decode cX6_willBe 8 = .ok (.iload_n 2, 1) := by decide +kernel
theorem dX6_willBe_9 : decode cX6_willBe 9 = .ok (.invokestatic 459, 3) := by decide +kernel
theorem dX6_willBe_12 : decode cX6_willBe 12 = .ok (.ifCond .ne 5, 3) := by decide +kernel
theorem dX6_willBe_15 : decode cX6_willBe 15 = .ok (.iconst (-1), 1) := by decide +kernel
theorem dX6_willBe_16 : decode cX6_willBe 16 = .ok (.ireturn, 1) := by decide +kernel
theorem dX6_willBe_17 : decode cX6_willBe 17 = .ok (.aload_n 0, 1) := by decide +kernel
theorem dX6_willBe_18 : decode cX6_willBe 18 = .ok (.invokevirtual 419, 3) := by decide +kernel
theorem dX6_willBe_21 : decode cX6_willBe 21 = .ok (.aload_n 0, 1) := by decide +kernel
theorem dX6_willBe_22 : decode cX6_willBe 22 = .ok (.aload_n 0, 1) := by decide +kernel
theorem dX6_willBe_23 : decode cX6_willBe 23 = .ok (.getfield 345, 3) := by decide +kernel
theorem dX6_willBe_26 : decode cX6_willBe 26 = .ok (.iload_n 2, 1) := by decide +kernel
theorem dX6_willBe_27 : decode cX6_willBe 27 = .ok (.iadd, 1) := by decide +kernel
theorem dX6_willBe_28 : decode cX6_willBe 28 = .ok (.invokevirtual 425, 3) := by decide +kernel
theorem dX6_willBe_31 : decode cX6_willBe 31 = .ok (.aload_n 0, 1) := by decide +kernel
theorem dX6_willBe_32 : decode cX6_willBe 32 = .ok (.getfield 131, 3) := by decide +kernel
theorem dX6_willBe_35 : decode cX6_willBe 35 = .ok (.bipush 36, 2) := by decide +kernel
theorem dX6_willBe_37 : decode cX6_willBe 37 = .ok (.aload_n 0, 1) := by decide +kernel
theorem dX6_willBe_38 : decode cX6_willBe 38 = .ok (.getfield 348, 3) := by decide +kernel
theorem dX6_willBe_41 : decode cX6_willBe 41 = .ok (.imul, 1) := by decide +kernel
theorem dX6_willBe_42 : decode cX6_willBe 42 = .ok (.iload_n 1, 1) := by decide +kernel
theorem dX6_willBe_43 : decode cX6_willBe 43 = .ok (.iadd, 1) := by decide +kernel
theorem dX6_willBe_44 : decode cX6_willBe 44 = .ok (.iaload, 1) := by decide +kernel
theorem dX6_willBe_45 : decode cX6_willBe 45 = .ok (.ireturn, 1) := by decide +kernel
abbrev rm_X6_willBe : Room := { frames := 6, cells := 0, slots := 0, locals := 142 }
def f_X6_willBe (S : St) (x1 : Int32) (x2 : Int32) : Option (Int32 × St) :=
  (f_X6_isMan  S x1).bind (fun (q1 : Int32) => if q1 = 0 then (some ((-1 : Int32), S)) else ((f_X6_isLong   x2).bind (fun (q3 : Int32) => if q3 = 0 then (some ((-1 : Int32), S)) else ((f_X6_copies  S ).bind (fun (q5 : St) => (f_X6_goesTill  q5 ((st_I q5 (ky 0 53)) + x2)).bind (fun (q6 : St) => chk (ib (((36 : Int32) * (st_I q6 (ky 0 57))) + x1) 10800) (some ((st_A q6 (ky 0 56) (((36 : Int32) * (st_I q6 (ky 0 57))) + x1).toNatClampNeg), q6))))))))
set_option maxRecDepth 100000 in
set_option maxHeartbeats 4000000 in
theorem k_X6_willBe (l : Launch) (g : GG) (hg : gd wd_M g)  (hM : hs wd_M g 0 6) (S : St) (x1 : Int32) (x2 : Int32) (q : Int32 × St) (hf : f_X6_willBe  S x1 x2 = some q) : Met l yX6_willBe (Cond.code yX6_willBe cX6_willBe 3 (some .int) :: gw_tbl) rm_X6_willBe (va_Pc [.ref (gg_o g 0), .int x1, .int x2] (wI wd_M g S)) (qc_w wd_M g q) 0 0 (aw g) := by
  refine mt_start (own := RX6) hg (by decide) rfl (Nat.le_of_ble_eq_true rfl) (fun p e s m args below meth c ls H locs cx hw hr hlk hl => ?_)
  have hx := cx.1
  have hb := cx.2.1
  have hown := cx.2.2.2.1
  have hts := cx.2.2.2.2.1
  have hl : lv_has ls 3 [(0, .ref (gg_o g 0)), (1, .int x1), (2, .int x2)] := hl
  replace hf := h_top hf
  unfold f_X6_willBe at hf
  refine lv_aload_n hx hb dX6_willBe_0 rfl (lv_at hl 0 rfl) ?_
  refine lv_iload_n hx hb dX6_willBe_1 rfl (lv_at hl 1 rfl) ?_
  refine r_V_i (As := [.int x1]) (rest := []) cx hw hf hM.2.1 (by rw [hM.1]; rfl) lk_X6_410 (fun q1 hq => k_X6_isMan l g hg  hM S x1 q1 hq) ⟨⟨rfl, rfl⟩, Nat.le_of_ble_eq_true rfl, Nat.le_of_ble_eq_true rfl⟩ rfl hl.1 rfl (Nat.le_of_ble_eq_true rfl) dX6_willBe_2 ⟨Nat.zero_le _, Nat.zero_le _⟩ (fun q1 H locs hw hf => ?_)
  refine lv_if_eq hx hb dX6_willBe_5 (tgt := 15) rfl (fun hc2 => ?_) (fun hc2 => ?_)
  · replace hf := h_pos hc2 hf
    refine lv_iconst (v := -1) hx hb dX6_willBe_15 (by decide) ?_
    exact r_iretw cx hw hr hlk hf dX6_willBe_16
  replace hf := h_neg hc2 hf
  refine lv_iload_n hx hb dX6_willBe_8 rfl (lv_at hl 2 rfl) ?_
  refine r_S_i (As := [.int x2]) (rest := []) cx hw hf lk_X6_459 (fun q3 hq => k_X6_isLong l g hg   S x2 q3 hq) ⟨⟨rfl, rfl⟩, Nat.le_of_ble_eq_true rfl, Nat.le_of_ble_eq_true rfl⟩ rfl hl.1 rfl (Nat.le_of_ble_eq_true rfl) dX6_willBe_9 ⟨Nat.zero_le _, Nat.zero_le _⟩ (fun q3 H locs hw hf => ?_)
  refine lv_if_ne hx hb dX6_willBe_12 (tgt := 17) rfl (fun hc4 => ?_) (fun hc4 => ?_)
  · replace hf := h_neg hc4 hf
    refine lv_aload_n hx hb dX6_willBe_17 rfl (lv_at hl 0 rfl) ?_
    refine r_V_v (As := []) (rest := []) cx hw hf hM.2.1 (by rw [hM.1]; rfl) lk_X6_419 (fun q5 hq => k_X6_copies l g hg  hM S  q5 hq) ⟨⟨rfl, rfl⟩, Nat.le_of_ble_eq_true rfl, Nat.le_of_ble_eq_true rfl⟩ rfl hl.1 rfl (Nat.le_of_ble_eq_true rfl) dX6_willBe_18 ⟨Nat.zero_le _, Nat.zero_le _⟩ (fun q5 H locs hw hf => ?_)
    refine lv_aload_n hx hb dX6_willBe_21 rfl (lv_at hl 0 rfl) ?_
    refine lv_aload_n hx hb dX6_willBe_22 rfl (lv_at hl 0 rfl) ?_
    refine gf_X6_345 cx hw hM dX6_willBe_23 ?_
    refine lv_iload_n hx hb dX6_willBe_26 rfl (lv_at hl 2 rfl) ?_
    refine lv_iadd hx hb dX6_willBe_27 ?_
    refine r_V_v (As := [.int ((st_I q5 (ky 0 53)) + x2)]) (rest := []) cx hw hf hM.2.1 (by rw [hM.1]; rfl) lk_X6_425 (fun q6 hq => k_X6_goesTill l g hg  hM q5 ((st_I q5 (ky 0 53)) + x2) q6 hq) ⟨⟨rfl, rfl⟩, Nat.le_of_ble_eq_true rfl, Nat.le_of_ble_eq_true rfl⟩ rfl hl.1 rfl (Nat.le_of_ble_eq_true rfl) dX6_willBe_28 ⟨Nat.zero_le _, Nat.zero_le _⟩ (fun q6 H locs hw hf => ?_)
    refine lv_aload_n hx hb dX6_willBe_31 rfl (lv_at hl 0 rfl) ?_
    refine gf_X6_131 cx hw hM dX6_willBe_32 ?_
    refine lv_bipush (v := 36) hx hb dX6_willBe_35 (by decide) ?_
    refine lv_aload_n hx hb dX6_willBe_37 rfl (lv_at hl 0 rfl) ?_
    refine gf_X6_348 cx hw hM dX6_willBe_38 ?_
    refine lv_imul hx hb dX6_willBe_41 ?_
    refine lv_iload_n hx hb dX6_willBe_42 rfl (lv_at hl 1 rfl) ?_
    refine lv_iadd hx hb dX6_willBe_43 ?_
    refine r_iald cx hw (hM.2.2.1 56 rfl) rfl rfl hf dX6_willBe_44 (fun hf => ?_)
    exact r_iretw cx hw hr hlk hf dX6_willBe_45
  replace hf := h_pos hc4 hf
  refine lv_iconst (v := -1) hx hb dX6_willBe_15 (by decide) ?_
  exact r_iretw cx hw hr hlk hf dX6_willBe_16
theorem dX6_odds_0 : decode cX6_odds 0 = .ok (.aload_n 0, 1) := by decide +kernel
theorem dX6_odds_1 : decode cX6_odds 1 = .ok (.iload_n 1, 1) := by decide +kernel
theorem dX6_odds_2 : decode cX6_odds 2 = .ok (.invokevirtual 416, 3) := by decide +kernel
theorem dX6_odds_5 : decode cX6_odds 5 = .ok (.ifCond .eq 20, 3) := by decide +kernel
theorem dX6_odds_8 : decode cX6_odds 8 = .ok (.iload_n 2, 1) := by decide +kernel
theorem dX6_odds_9 : decode cX6_odds 9 = .ok (.invokestatic 459, 3) := by decide +kernel
theorem dX6_odds_12 : decode cX6_odds 12 = .ok (.ifCond .eq 13, 3) := by decide +kernel
theorem dX6_odds_15 : decode cX6_odds 15 = .ok (.iload_n 3, 1) := by decide +kernel
theorem dX6_odds_16 : decode cX6_odds 16 = .ok (.iconst 1, 1) := by decide +kernel
theorem dX6_odds_17 : decode cX6_odds 17 = .ok (.bipush 10, 2) := by decide +kernel
theorem dX6_odds_19 : decode cX6_odds 19 = .ok (.invokestatic 341, 3) := by decide +kernel
theorem dX6_odds_22 : decode cX6_odds 22 = .ok (.ifCond .ne 5, 3) := by decide +kernel
theorem dX6_odds_25 : decode cX6_odds 25 = .ok (.iconst (-1), 1) := by decide +kernel
theorem dX6_odds_26 : decode cX6_odds 26 = .ok (.ireturn, 1) := by decide +kernel
theorem dX6_odds_27 : decode cX6_odds 27 = .ok (.iconst 0, 1) := by decide +kernel
theorem dX6_odds_28 : decode cX6_odds 28 = .ok (.istore 4, 2) := by decide +kernel
theorem dX6_odds_30 : decode cX6_odds 30 = .ok (.iconst 0, 1) := by decide +kernel
theorem dX6_odds_31 : decode cX6_odds 31 = .ok (.istore 5, 2) := by decide +kernel
theorem dX6_odds_33 : decode cX6_odds 33 = .ok (.iload 5, 2) := by decide +kernel
theorem dX6_odds_35 : decode cX6_odds 35 = .ok (.iload_n 3, 1) := by decide +kernel
theorem dX6_odds_36 : decode cX6_odds 36 = .ok (.if_icmp .ge 47, 3) := by decide +kernel
theorem dX6_odds_39 : decode cX6_odds 39 = .ok (.aload_n 0, 1) := by decide +kernel
theorem dX6_odds_40 : decode cX6_odds 40 = .ok (.invokevirtual 419, 3) := by decide +kernel
theorem dX6_odds_43 : decode cX6_odds 43 = .ok (.aload_n 0, 1) := by decide +kernel
theorem dX6_odds_44 : decode cX6_odds 44 = .ok (.dup, 1) := by decide +kernel
theorem dX6_odds_45 : decode cX6_odds 45 = .ok (.getfield 351, 3) := by decide +kernel
theorem dX6_odds_48 : decode cX6_odds 48 = .ok (.iload 5, 2) := by decide +kernel
theorem dX6_odds_50 : decode cX6_odds 50 = .ok (.iadd, 1) := by decide +kernel
theorem dX6_odds_51 : decode cX6_odds 51 = .ok (.putfield 351, 3) := by decide +kernel
theorem dX6_odds_54 : decode cX6_odds 54 = .ok (.aload_n 0, 1) := by decide +kernel
theorem dX6_odds_55 : decode cX6_odds 55 = .ok (.aload_n 0, 1) := by decide +kernel
theorem dX6_odds_56 : decode cX6_odds 56 = .ok (.getfield 345, 3) := by decide +kernel
theorem dX6_odds_59 : decode cX6_odds 59 = .ok (.iload_n 2, 1) := by decide +kernel
theorem dX6_odds_60 : decode cX6_odds 60 = .ok (.iadd, 1) := by decide +kernel
theorem dX6_odds_61 : decode cX6_odds 61 = .ok (.invokevirtual 425, 3) := by decide +kernel
theorem dX6_odds_64 : decode cX6_odds 64 = .ok (.aload_n 0, 1) := by decide +kernel
theorem dX6_odds_65 : decode cX6_odds 65 = .ok (.getfield 134, 3) := by decide +kernel
theorem dX6_odds_68 : decode cX6_odds 68 = .ok (.iload_n 1, 1) := by decide +kernel
theorem dX6_odds_69 : decode cX6_odds 69 = .ok (.iaload, 1) := by decide +kernel
theorem dX6_odds_70 : decode cX6_odds 70 = .ok (.iconst (-1), 1) := by decide +kernel
theorem dX6_odds_71 : decode cX6_odds 71 = .ok (.if_icmp .eq 6, 3) := by decide +kernel
theorem dX6_odds_74 : decode cX6_odds 74 = .ok (.iinc 4 1, 3) := by decide +kernel
theorem dX6_odds_77 : decode cX6_odds 77 = .ok (.iinc 5 1, 3) := by decide +kernel
theorem dX6_odds_80 : decode cX6_odds 80 = .ok (.goto (-47), 3) := by decide +kernel
theorem dX6_odds_83 : decode cX6_odds 83 = .ok (.iload 4, 2) := by decide +kernel
theorem dX6_odds_85 : decode cX6_odds 85 = .ok (.ireturn, 1) := by decide +kernel
abbrev rm_X6_odds : Room := { frames := 6, cells := 0, slots := 0, locals := 142 }
def f_X6_odds_L33 (x1 : Int32) (x2 : Int32) (x3 : Int32) (z33 : Int32 × Int32 × St) : Option ((Int32 × Int32 × St) ⊕ (Int32 × St)) :=
  if x3 ≤ z33.2.1 then (some (.inr (z33.1, z33.2.2))) else ((f_X6_copies  z33.2.2 ).bind (fun (q8 : St) => lt_v (up_I q8 (ky 0 60) ((st_I q8 (ky 0 60)) + z33.2.1)) (fun (S9 : St) => (f_X6_goesTill  S9 ((st_I S9 (ky 0 53)) + x2)).bind (fun (q10 : St) => chk (ib x1 8) (if (st_A q10 (ky 0 58) x1.toNatClampNeg) = (-1 : Int32) then (some (.inl (z33.1, (z33.2.1 + 1), q10))) else (some (.inl ((z33.1 + 1), (z33.2.1 + 1), q10))))))))
def f_X6_odds (S : St) (x1 : Int32) (x2 : Int32) (x3 : Int32) : Option (Int32 × St) :=
  (f_X6_isMirror  S x1).bind (fun (q1 : Int32) => if q1 = 0 then (some ((-1 : Int32), S)) else ((f_X6_isLong   x2).bind (fun (q3 : Int32) => if q3 = 0 then (some ((-1 : Int32), S)) else ((f_X6_in   x3 (1 : Int32) (10 : Int32)).bind (fun (q5 : Int32) => if q5 = 0 then (some ((-1 : Int32), S)) else (iter (f_X6_odds_L33   x1 x2 x3) FU ((0 : Int32), (0 : Int32), S)))))))
set_option maxRecDepth 100000 in
set_option maxHeartbeats 4000000 in
theorem k_X6_odds (l : Launch) (g : GG) (hg : gd wd_M g)  (hM : hs wd_M g 0 6) (S : St) (x1 : Int32) (x2 : Int32) (x3 : Int32) (q : Int32 × St) (hf : f_X6_odds  S x1 x2 x3 = some q) : Met l yX6_odds (Cond.code yX6_odds cX6_odds 6 (some .int) :: gw_tbl) rm_X6_odds (va_Pc [.ref (gg_o g 0), .int x1, .int x2, .int x3] (wI wd_M g S)) (qc_w wd_M g q) 0 0 (aw g) := by
  refine mt_start (own := RX6) hg (by decide) rfl (Nat.le_of_ble_eq_true rfl) (fun p e s m args below meth c ls H locs cx hw hr hlk hl => ?_)
  have hx := cx.1
  have hb := cx.2.1
  have hown := cx.2.2.2.1
  have hts := cx.2.2.2.2.1
  have hl : lv_has ls 6 [(0, .ref (gg_o g 0)), (1, .int x1), (2, .int x2), (3, .int x3)] := hl
  replace hf := h_top hf
  unfold f_X6_odds at hf
  refine lv_aload_n hx hb dX6_odds_0 rfl (lv_at hl 0 rfl) ?_
  refine lv_iload_n hx hb dX6_odds_1 rfl (lv_at hl 1 rfl) ?_
  refine r_V_i (As := [.int x1]) (rest := []) cx hw hf hM.2.1 (by rw [hM.1]; rfl) lk_X6_416 (fun q1 hq => k_X6_isMirror l g hg  hM S x1 q1 hq) ⟨⟨rfl, rfl⟩, Nat.le_of_ble_eq_true rfl, Nat.le_of_ble_eq_true rfl⟩ rfl hl.1 rfl (Nat.le_of_ble_eq_true rfl) dX6_odds_2 ⟨Nat.zero_le _, Nat.zero_le _⟩ (fun q1 H locs hw hf => ?_)
  refine lv_if_eq hx hb dX6_odds_5 (tgt := 25) rfl (fun hc2 => ?_) (fun hc2 => ?_)
  · replace hf := h_pos hc2 hf
    refine lv_iconst (v := -1) hx hb dX6_odds_25 (by decide) ?_
    exact r_iretw cx hw hr hlk hf dX6_odds_26
  replace hf := h_neg hc2 hf
  refine lv_iload_n hx hb dX6_odds_8 rfl (lv_at hl 2 rfl) ?_
  refine r_S_i (As := [.int x2]) (rest := []) cx hw hf lk_X6_459 (fun q3 hq => k_X6_isLong l g hg   S x2 q3 hq) ⟨⟨rfl, rfl⟩, Nat.le_of_ble_eq_true rfl, Nat.le_of_ble_eq_true rfl⟩ rfl hl.1 rfl (Nat.le_of_ble_eq_true rfl) dX6_odds_9 ⟨Nat.zero_le _, Nat.zero_le _⟩ (fun q3 H locs hw hf => ?_)
  refine lv_if_eq hx hb dX6_odds_12 (tgt := 25) rfl (fun hc4 => ?_) (fun hc4 => ?_)
  · replace hf := h_pos hc4 hf
    refine lv_iconst (v := -1) hx hb dX6_odds_25 (by decide) ?_
    exact r_iretw cx hw hr hlk hf dX6_odds_26
  replace hf := h_neg hc4 hf
  refine lv_iload_n hx hb dX6_odds_15 rfl (lv_at hl 3 rfl) ?_
  refine lv_iconst (v := 1) hx hb dX6_odds_16 (by decide) ?_
  refine lv_bipush (v := 10) hx hb dX6_odds_17 (by decide) ?_
  refine r_S_i (As := [.int x3, .int (1 : Int32), .int (10 : Int32)]) (rest := []) cx hw hf lk_X6_341 (fun q5 hq => k_X6_in l g hg   S x3 (1 : Int32) (10 : Int32) q5 hq) ⟨⟨rfl, rfl⟩, Nat.le_of_ble_eq_true rfl, Nat.le_of_ble_eq_true rfl⟩ rfl hl.1 rfl (Nat.le_of_ble_eq_true rfl) dX6_odds_19 ⟨Nat.zero_le _, Nat.zero_le _⟩ (fun q5 H locs hw hf => ?_)
  refine lv_if_ne hx hb dX6_odds_22 (tgt := 27) rfl (fun hc6 => ?_) (fun hc6 => ?_)
  · replace hf := h_neg hc6 hf
    refine lv_iconst (v := 0) hx hb dX6_odds_27 (by decide) ?_
    refine lv_istore hx hb dX6_odds_28 hl (by decide) (lv' := [(4, .int (0 : Int32)), (0, .ref (gg_o g 0)), (1, .int x1), (2, .int x2), (3, .int x3)]) rfl (fun ls hl => ?_)
    refine lv_iconst (v := 0) hx hb dX6_odds_30 (by decide) ?_
    refine lv_istore hx hb dX6_odds_31 hl (by decide) (lv' := [(5, .int (0 : Int32)), (4, .int (0 : Int32)), (0, .ref (gg_o g 0)), (1, .int x1), (2, .int x2), (3, .int x3)]) rfl (fun ls hl => ?_)
    have L33 : ∀ (x1 : Int32) (x2 : Int32) (x3 : Int32) (aft33 : (Int32 × St) → Option (Int32 × St)), (∀ v : Int32 × St, aft33 v = some q → (some v : Option (Int32 × St)).bind some = some q) → ∀ (n33 : Nat) (ls : Array Slot) (H : Heap) (locs : List Loc) (z33 : Int32 × Int32 × St), lv_has ls 6 [(0, .ref (gg_o g 0)), (1, .int x1), (2, .int x2), (3, .int x3), (4, .int z33.1), (5, .int z33.2.1)] → HH wd_M g s z33.2.2 H locs → (iter (f_X6_odds_L33   x1 x2 x3) n33 z33).bind aft33 = some q → W p l e rm_X6_odds s m args below meth c H locs 0 0 (MQ below (qc_w wd_M g q) args s 0 0 (aw g)) (F0 m 33 ls []) := by
      intro x1 x2 x3 aft33 hR33 n33
      induction n33 with
      | zero => intro ls H locs z33 hl hw hf; exact h_iter0 hf
      | succ n33 ih33 =>
        intro ls H locs z33 hl hw hf
        replace hf := h_iter hf
        unfold f_X6_odds_L33 at hf
        refine lv_iload hx hb dX6_odds_33 (lv_at hl 5 rfl) ?_
        refine lv_iload_n hx hb dX6_odds_35 rfl (lv_at hl 3 rfl) ?_
        refine lv_icmp_ge hx hb dX6_odds_36 (tgt := 83) rfl (fun hc7 => ?_) (fun hc7 => ?_)
        · replace hf := h_pos hc7 hf
          refine lv_iload hx hb dX6_odds_83 (lv_at hl 4 rfl) ?_
          replace hf := hR33 (z33.1, z33.2.2) hf
          exact r_iretw cx hw hr hlk hf dX6_odds_85
        replace hf := h_neg hc7 hf
        refine lv_aload_n hx hb dX6_odds_39 rfl (lv_at hl 0 rfl) ?_
        refine r_V_v (As := []) (rest := []) cx hw hf hM.2.1 (by rw [hM.1]; rfl) lk_X6_419 (fun q8 hq => k_X6_copies l g hg  hM z33.2.2  q8 hq) ⟨⟨rfl, rfl⟩, Nat.le_of_ble_eq_true rfl, Nat.le_of_ble_eq_true rfl⟩ rfl hl.1 rfl (Nat.le_of_ble_eq_true rfl) dX6_odds_40 ⟨Nat.zero_le _, Nat.zero_le _⟩ (fun q8 H locs hw hf => ?_)
        refine lv_aload_n hx hb dX6_odds_43 rfl (lv_at hl 0 rfl) ?_
        refine lv_dup hx hb dX6_odds_44 rfl ?_
        refine gf_X6_351 cx hw hM dX6_odds_45 ?_
        refine lv_iload hx hb dX6_odds_48 (lv_at hl 5 rfl) ?_
        refine lv_iadd hx hb dX6_odds_50 ?_
        refine pf_X6_351 cx hw hM hf dX6_odds_51 (fun S9 H locs hw hf => ?_)
        refine lv_aload_n hx hb dX6_odds_54 rfl (lv_at hl 0 rfl) ?_
        refine lv_aload_n hx hb dX6_odds_55 rfl (lv_at hl 0 rfl) ?_
        refine gf_X6_345 cx hw hM dX6_odds_56 ?_
        refine lv_iload_n hx hb dX6_odds_59 rfl (lv_at hl 2 rfl) ?_
        refine lv_iadd hx hb dX6_odds_60 ?_
        refine r_V_v (As := [.int ((st_I S9 (ky 0 53)) + x2)]) (rest := []) cx hw hf hM.2.1 (by rw [hM.1]; rfl) lk_X6_425 (fun q10 hq => k_X6_goesTill l g hg  hM S9 ((st_I S9 (ky 0 53)) + x2) q10 hq) ⟨⟨rfl, rfl⟩, Nat.le_of_ble_eq_true rfl, Nat.le_of_ble_eq_true rfl⟩ rfl hl.1 rfl (Nat.le_of_ble_eq_true rfl) dX6_odds_61 ⟨Nat.zero_le _, Nat.zero_le _⟩ (fun q10 H locs hw hf => ?_)
        refine lv_aload_n hx hb dX6_odds_64 rfl (lv_at hl 0 rfl) ?_
        refine gf_X6_134 cx hw hM dX6_odds_65 ?_
        refine lv_iload_n hx hb dX6_odds_68 rfl (lv_at hl 1 rfl) ?_
        refine r_iald cx hw (hM.2.2.1 58 rfl) rfl rfl hf dX6_odds_69 (fun hf => ?_)
        refine lv_iconst (v := -1) hx hb dX6_odds_70 (by decide) ?_
        refine lv_icmp_eq hx hb dX6_odds_71 (tgt := 77) rfl (fun hc11 => ?_) (fun hc11 => ?_)
        · replace hf := h_pos hc11 hf
          refine lv_iinc hx hb dX6_odds_77 hl (k := 5) rfl (congrArg (HAdd.hAdd _) (show Int32.ofInt (1) = 1 by decide)) (by decide) (lv' := [(5, .int (z33.2.1 + 1)), (0, .ref (gg_o g 0)), (1, .int x1), (2, .int x2), (3, .int x3), (4, .int z33.1)]) rfl (fun ls hl => ?_)
          refine lv_goto hx hb dX6_odds_80 (tgt := 33) rfl ?_
          exact ih33 _ _ _ (z33.1, (z33.2.1 + 1), q10) (lv_sub hl [1, 2, 3, 4, 5, 0] rfl) hw hf
        replace hf := h_neg hc11 hf
        refine lv_iinc hx hb dX6_odds_74 hl (k := 4) rfl (congrArg (HAdd.hAdd _) (show Int32.ofInt (1) = 1 by decide)) (by decide) (lv' := [(4, .int (z33.1 + 1)), (0, .ref (gg_o g 0)), (1, .int x1), (2, .int x2), (3, .int x3), (5, .int z33.2.1)]) rfl (fun ls hl => ?_)
        refine lv_iinc hx hb dX6_odds_77 hl (k := 5) rfl (congrArg (HAdd.hAdd _) (show Int32.ofInt (1) = 1 by decide)) (by decide) (lv' := [(5, .int (z33.2.1 + 1)), (4, .int (z33.1 + 1)), (0, .ref (gg_o g 0)), (1, .int x1), (2, .int x2), (3, .int x3)]) rfl (fun ls hl => ?_)
        refine lv_goto hx hb dX6_odds_80 (tgt := 33) rfl ?_
        exact ih33 _ _ _ ((z33.1 + 1), (z33.2.1 + 1), q10) (lv_sub hl [2, 3, 4, 5, 1, 0] rfl) hw hf
    exact L33 x1 x2 x3 some (fun v h => h) FU _ _ _ ((0 : Int32), (0 : Int32), S) (lv_sub hl [2, 3, 4, 5, 1, 0] rfl) hw hf
  replace hf := h_pos hc6 hf
  refine lv_iconst (v := -1) hx hb dX6_odds_25 (by decide) ?_
  exact r_iretw cx hw hr hlk hf dX6_odds_26
theorem dX6_fillsFar_0 : decode cX6_fillsFar 0 = .ok (.iconst 0, 1) := by decide +kernel
theorem dX6_fillsFar_1 : decode cX6_fillsFar 1 = .ok (.istore_n 3, 1) := by decide +kernel
theorem dX6_fillsFar_2 : decode cX6_fillsFar 2 = .ok (.iload_n 3, 1) := by decide +kernel
theorem dX6_fillsFar_3 : decode cX6_fillsFar 3 = .ok (.bipush 8, 2) := by decide +kernel
theorem dX6_fillsFar_5 : decode cX6_fillsFar 5 = .ok (.if_icmp .ge 16, 3) := by decide +kernel
theorem dX6_fillsFar_8 : decode cX6_fillsFar 8 = .ok (.aload_n 0, 1) := by decide +kernel
theorem dX6_fillsFar_9 : decode cX6_fillsFar 9 = .ok (.getfield 152, 3) := by decide +kernel
theorem dX6_fillsFar_12 : decode cX6_fillsFar 12 = .ok (.iload_n 3, 1) := by decide +kernel
theorem dX6_fillsFar_13 : decode cX6_fillsFar 13 = .ok (.iconst (-1), 1) := by decide +kernel
theorem dX6_fillsFar_14 : decode cX6_fillsFar 14 = .ok (.iastore, 1) := by decide +kernel
theorem dX6_fillsFar_15 : decode cX6_fillsFar 15 = .ok (.iinc 3 1, 3) := by decide +kernel
theorem dX6_fillsFar_18 : decode cX6_fillsFar 18 = .ok (.goto (-16), 3) := by decide +kernel
theorem dX6_fillsFar_21 : decode cX6_fillsFar 21 = .ok (.iload_n 2, 1) := by decide +kernel
theorem dX6_fillsFar_22 : decode cX6_fillsFar 22 = .ok (.iload_n 1, 1) := by decide +kernel
theorem dX6_fillsFar_23 : decode cX6_fillsFar 23 = .ok (.ishr, 1) := by decide +kernel
theorem dX6_fillsFar_24 : decode cX6_fillsFar 24 = .ok (.iconst 1, 1) := by decide +kernel
theorem dX6_fillsFar_25 : decode cX6_fillsFar 25 = .ok (.iand, 1) := by decide +kernel
theorem dX6_fillsFar_26 : decode cX6_fillsFar 26 = .ok (.ifCond .ne 4, 3) := by decide +kernel
theorem dX6_fillsFar_29 : decode cX6_fillsFar 29 = .ok (.return_, 1) := by decide +kernel
theorem dX6_fillsFar_30 : decode cX6_fillsFar 30 = .ok (.aload_n 0, 1) := by decide +kernel
theorem dX6_fillsFar_31 : decode cX6_fillsFar 31 = .ok (.getfield 152, 3) := by decide +kernel
theorem dX6_fillsFar_34 : decode cX6_fillsFar 34 = .ok (.iload_n 1, 1) := by decide +kernel
theorem dX6_fillsFar_35 : decode cX6_fillsFar 35 = .ok (.iconst 0, 1) := by decide +kernel
theorem dX6_fillsFar_36 : decode cX6_fillsFar 36 = .ok (.iastore, 1) := by decide +kernel
theorem dX6_fillsFar_37 : decode cX6_fillsFar 37 = .ok (.iconst 0, 1) := by decide +kernel
theorem dX6_fillsFar_38 : decode cX6_fillsFar 38 = .ok (.istore_n 3, 1) := by decide +kernel
theorem dX6_fillsFar_39 : decode cX6_fillsFar 39 = .ok (.iload_n 3, 1) := by decide +kernel
theorem dX6_fillsFar_40 : decode cX6_fillsFar 40 = .ok (.bipush 8, 2) := by decide +kernel
theorem dX6_fillsFar_42 : decode cX6_fillsFar 42 = .ok (.if_icmp .ge 148, 3) := by decide +kernel
theorem dX6_fillsFar_45 : decode cX6_fillsFar 45 = .ok (.iconst 0, 1) := by decide +kernel
theorem dX6_fillsFar_46 : decode cX6_fillsFar 46 = .ok (.istore 4, 2) := by decide +kernel
theorem dX6_fillsFar_48 : decode cX6_fillsFar 48 = .ok (.iload 4, 2) := by decide +kernel
theorem dX6_fillsFar_50 : decode cX6_fillsFar 50 = .ok (.aload_n 0, 1) := by decide +kernel
theorem dX6_fillsFar_51 : decode cX6_fillsFar 51 = .ok (.getfield 52, 3) := by decide +kernel
theorem dX6_fillsFar_54 : decode cX6_fillsFar 54 = .ok (.aload_n 0, 1) := by decide +kernel
theorem dX6_fillsFar_55 : decode cX6_fillsFar 55 = .ok (.getfield 257, 3) := by decide +kernel
theorem dX6_fillsFar_58 : decode cX6_fillsFar 58 = .ok (.iaload, 1) := by decide +kernel
theorem dX6_fillsFar_59 : decode cX6_fillsFar 59 = .ok (.if_icmp .ge 125, 3) := by decide +kernel
theorem dX6_fillsFar_62 : decode cX6_fillsFar 62 = .ok (.aload_n 0, 1) := by decide +kernel
theorem dX6_fillsFar_63 : decode cX6_fillsFar 63 = .ok (.getfield 55, 3) := by decide +kernel
theorem dX6_fillsFar_66 : decode cX6_fillsFar 66 = .ok (.bipush 12, 2) := by decide +kernel
theorem dX6_fillsFar_68 : decode cX6_fillsFar 68 = .ok (.aload_n 0, 1) := by decide +kernel
theorem dX6_fillsFar_69 : decode cX6_fillsFar 69 = .ok (.getfield 257, 3) := by decide +kernel
theorem dX6_fillsFar_72 : decode cX6_fillsFar 72 = .ok (.imul, 1) := by decide +kernel
theorem dX6_fillsFar_73 : decode cX6_fillsFar 73 = .ok (.iload 4, 2) := by decide +kernel
theorem dX6_fillsFar_75 : decode cX6_fillsFar 75 = .ok (.iadd, 1) := by decide +kernel
theorem dX6_fillsFar_76 : decode cX6_fillsFar 76 = .ok (.iaload, 1) := by decide +kernel
theorem dX6_fillsFar_77 : decode cX6_fillsFar 77 = .ok (.istore 5, 2) := by decide +kernel
theorem dX6_fillsFar_79 : decode cX6_fillsFar 79 = .ok (.aload_n 0, 1) := by decide +kernel
theorem dX6_fillsFar_80 : decode cX6_fillsFar 80 = .ok (.getfield 58, 3) := by decide +kernel
theorem dX6_fillsFar_83 : decode cX6_fillsFar 83 = .ok (.bipush 12, 2) := by decide +kernel
theorem dX6_fillsFar_85 : decode cX6_fillsFar 85 = .ok (.aload_n 0, 1) := by decide +kernel
theorem dX6_fillsFar_86 : decode cX6_fillsFar 86 = .ok (.getfield 257, 3) := by decide +kernel
theorem dX6_fillsFar_89 : decode cX6_fillsFar 89 = .ok (.imul, 1) := by decide +kernel
theorem dX6_fillsFar_90 : decode cX6_fillsFar 90 = .ok (.iload 4, 2) := by decide +kernel
theorem dX6_fillsFar_92 : decode cX6_fillsFar 92 = .ok (.iadd, 1) := by decide +kernel
theorem dX6_fillsFar_93 : decode cX6_fillsFar 93 = .ok (.iaload, 1) := by decide +kernel
theorem dX6_fillsFar_94 : decode cX6_fillsFar 94 = .ok (.istore 6, 2) := by decide +kernel
theorem dX6_fillsFar_96 : decode cX6_fillsFar 96 = .ok (.aload_n 0, 1) := by decide +kernel
theorem dX6_fillsFar_97 : decode cX6_fillsFar 97 = .ok (.getfield 152, 3) := by decide +kernel
theorem dX6_fillsFar_100 : decode cX6_fillsFar 100 = .ok (.iload 5, 2) := by decide +kernel
theorem dX6_fillsFar_102 : decode cX6_fillsFar 102 = .ok (.iaload, 1) := by decide +kernel
theorem dX6_fillsFar_103 : decode cX6_fillsFar 103 = .ok (.iload_n 3, 1) := by decide +kernel
theorem dX6_fillsFar_104 : decode cX6_fillsFar 104 = .ok (.if_icmp .ne 33, 3) := by decide +kernel
theorem dX6_fillsFar_107 : decode cX6_fillsFar 107 = .ok (.aload_n 0, 1) := by decide +kernel
theorem dX6_fillsFar_108 : decode cX6_fillsFar 108 = .ok (.getfield 152, 3) := by decide +kernel
theorem dX6_fillsFar_111 : decode cX6_fillsFar 111 = .ok (.iload 6, 2) := by decide +kernel
theorem dX6_fillsFar_113 : decode cX6_fillsFar 113 = .ok (.iaload, 1) := by decide +kernel
theorem dX6_fillsFar_114 : decode cX6_fillsFar 114 = .ok (.ifCond .ge 23, 3) := by decide +kernel
theorem dX6_fillsFar_117 : decode cX6_fillsFar 117 = .ok (.iload_n 2, 1) := by decide +kernel
theorem dX6_fillsFar_118 : decode cX6_fillsFar 118 = .ok (.iload 6, 2) := by decide +kernel
theorem dX6_fillsFar_120 : decode cX6_fillsFar 120 = .ok (.ishr, 1) := by decide +kernel
theorem dX6_fillsFar_121 : decode cX6_fillsFar 121 = .ok (.iconst 1, 1) := by decide +kernel
theorem dX6_fillsFar_122 : decode cX6_fillsFar 122 = .ok (.iand, 1) := by decide +kernel
theorem dX6_fillsFar_123 : decode cX6_fillsFar 123 = .ok (.iconst 1, 1) := by decide +kernel
theorem dX6_fillsFar_124 : decode cX6_fillsFar 124 = .ok (.if_icmp .ne 13, 3) := by decide +kernel
theorem dX6_fillsFar_127 : decode cX6_fillsFar 127 = .ok (.aload_n 0, 1) := by decide +kernel
theorem dX6_fillsFar_128 : decode cX6_fillsFar 128 = .ok (.getfield 152, 3) := by decide +kernel
theorem dX6_fillsFar_131 : decode cX6_fillsFar 131 = .ok (.iload 6, 2) := by decide +kernel
theorem dX6_fillsFar_133 : decode cX6_fillsFar 133 = .ok (.iload_n 3, 1) := by decide +kernel
theorem dX6_fillsFar_134 : decode cX6_fillsFar 134 = .ok (.iconst 1, 1) := by decide +kernel
theorem dX6_fillsFar_135 : decode cX6_fillsFar 135 = .ok (.iadd, 1) := by decide +kernel
theorem dX6_fillsFar_136 : decode cX6_fillsFar 136 = .ok (.iastore, 1) := by decide +kernel
theorem dX6_fillsFar_137 : decode cX6_fillsFar 137 = .ok (.aload_n 0, 1) := by decide +kernel
theorem dX6_fillsFar_138 : decode cX6_fillsFar 138 = .ok (.getfield 152, 3) := by decide +kernel
theorem dX6_fillsFar_141 : decode cX6_fillsFar 141 = .ok (.iload 6, 2) := by decide +kernel
theorem dX6_fillsFar_143 : decode cX6_fillsFar 143 = .ok (.iaload, 1) := by decide +kernel
theorem dX6_fillsFar_144 : decode cX6_fillsFar 144 = .ok (.iload_n 3, 1) := by decide +kernel
theorem dX6_fillsFar_145 : decode cX6_fillsFar 145 = .ok (.if_icmp .ne 33, 3) := by decide +kernel
theorem dX6_fillsFar_148 : decode cX6_fillsFar 148 = .ok (.aload_n 0, 1) := by decide +kernel
theorem dX6_fillsFar_149 : decode cX6_fillsFar 149 = .ok (.getfield 152, 3) := by decide +kernel
theorem dX6_fillsFar_152 : decode cX6_fillsFar 152 = .ok (.iload 5, 2) := by decide +kernel
theorem dX6_fillsFar_154 : decode cX6_fillsFar 154 = .ok (.iaload, 1) := by decide +kernel
theorem dX6_fillsFar_155 : decode cX6_fillsFar 155 = .ok (.ifCond .ge 23, 3) := by decide +kernel
theorem dX6_fillsFar_158 : decode cX6_fillsFar 158 = .ok (.iload_n 2, 1) := by decide +kernel
theorem dX6_fillsFar_159 : decode cX6_fillsFar 159 = .ok (.iload 5, 2) := by decide +kernel
theorem dX6_fillsFar_161 : decode cX6_fillsFar 161 = .ok (.ishr, 1) := by decide +kernel
theorem dX6_fillsFar_162 : decode cX6_fillsFar 162 = .ok (.iconst 1, 1) := by decide +kernel
theorem dX6_fillsFar_163 : decode cX6_fillsFar 163 = .ok (.iand, 1) := by decide +kernel
theorem dX6_fillsFar_164 : decode cX6_fillsFar 164 = .ok (.iconst 1, 1) := by decide +kernel
theorem dX6_fillsFar_165 : decode cX6_fillsFar 165 = .ok (.if_icmp .ne 13, 3) := by decide +kernel
theorem dX6_fillsFar_168 : decode cX6_fillsFar 168 = .ok (.aload_n 0, 1) := by decide +kernel
theorem dX6_fillsFar_169 : decode cX6_fillsFar 169 = .ok (.getfield 152, 3) := by decide +kernel
theorem dX6_fillsFar_172 : decode cX6_fillsFar 172 = .ok (.iload 5, 2) := by decide +kernel
theorem dX6_fillsFar_174 : decode cX6_fillsFar 174 = .ok (.iload_n 3, 1) := by decide +kernel
theorem dX6_fillsFar_175 : decode cX6_fillsFar 175 = .ok (.iconst 1, 1) := by decide +kernel
theorem dX6_fillsFar_176 : decode cX6_fillsFar 176 = .ok (.iadd, 1) := by decide +kernel
theorem dX6_fillsFar_177 : decode cX6_fillsFar 177 = .ok (.iastore, 1) := by decide +kernel
theorem dX6_fillsFar_178 : decode cX6_fillsFar 178 = .ok (.iinc 4 1, 3) := by decide +kernel
theorem dX6_fillsFar_181 : decode cX6_fillsFar 181 = .ok (.goto (-133), 3) := by decide +kernel
theorem dX6_fillsFar_184 : decode cX6_fillsFar 184 = .ok (.iinc 3 1, 3) := by decide +kernel
theorem dX6_fillsFar_187 : decode cX6_fillsFar 187 = .ok (.goto (-148), 3) := by decide +kernel
theorem dX6_fillsFar_190 : decode cX6_fillsFar 190 = .ok (.return_, 1) := by decide +kernel
abbrev rm_X6_fillsFar : Room := { frames := 0, cells := 0, slots := 0, locals := 0 }
def f_X6_fillsFar_L2 (x1 : Int32) (x2 : Int32) (z2 : Int32 × St) : Option ((Int32 × St) ⊕ (St)) :=
  if (8 : Int32) ≤ z2.1 then (some (.inr z2.2)) else (chk (ib z2.1 8) (lt_v (up_A z2.2 (ky 0 66) (upd (st_A z2.2 (ky 0 66)) z2.1.toNatClampNeg (-1 : Int32))) (fun (S2 : St) => some (.inl ((z2.1 + 1), S2)))))
def f_X6_fillsFar_J137 (S : St) (x2 : Int32) (x3 : Int32) (x4 : Int32) (x5 : Int32) (x6 : Int32) : Option ((Int32 × St) ⊕ (St)) :=
  chk (ib x6 8) (if (st_A S (ky 0 66) x6.toNatClampNeg) = x3 then (chk (ib x5 8) (if 0 ≤ (st_A S (ky 0 66) x5.toNatClampNeg) then (some (.inl ((x4 + 1), S))) else (if ((x2 >>> (x5 &&& 31)) &&& (1 : Int32)) = (1 : Int32) then (chk (ib x5 8) (lt_v (up_A S (ky 0 66) (upd (st_A S (ky 0 66)) x5.toNatClampNeg (x3 + (1 : Int32)))) (fun (S14 : St) => some (.inl ((x4 + 1), S14))))) else (some (.inl ((x4 + 1), S)))))) else (some (.inl ((x4 + 1), S))))
def f_X6_fillsFar_L48 (x2 : Int32) (x3 : Int32) (z48 : Int32 × St) : Option ((Int32 × St) ⊕ (St)) :=
  chk (ib (st_I z48.2 (ky 0 18)) 2) (if (st_A z48.2 (ky 0 25) (st_I z48.2 (ky 0 18)).toNatClampNeg) ≤ z48.1 then (some (.inr z48.2)) else (chk (ib (((12 : Int32) * (st_I z48.2 (ky 0 18))) + z48.1) 24) (lt_v (st_A z48.2 (ky 0 26) (((12 : Int32) * (st_I z48.2 (ky 0 18))) + z48.1).toNatClampNeg) (fun (u8 : Int32) => chk (ib (((12 : Int32) * (st_I z48.2 (ky 0 18))) + z48.1) 24) (lt_v (st_A z48.2 (ky 0 27) (((12 : Int32) * (st_I z48.2 (ky 0 18))) + z48.1).toNatClampNeg) (fun (u9 : Int32) => chk (ib u8 8) (if (st_A z48.2 (ky 0 66) u8.toNatClampNeg) = x3 then (chk (ib u9 8) (if 0 ≤ (st_A z48.2 (ky 0 66) u9.toNatClampNeg) then (f_X6_fillsFar_J137  z48.2 x2 x3 z48.1 u8 u9) else (if ((x2 >>> (u9 &&& 31)) &&& (1 : Int32)) = (1 : Int32) then (chk (ib u9 8) (lt_v (up_A z48.2 (ky 0 66) (upd (st_A z48.2 (ky 0 66)) u9.toNatClampNeg (x3 + (1 : Int32)))) (fun (S17 : St) => f_X6_fillsFar_J137  S17 x2 x3 z48.1 u8 u9))) else (f_X6_fillsFar_J137  z48.2 x2 x3 z48.1 u8 u9)))) else (f_X6_fillsFar_J137  z48.2 x2 x3 z48.1 u8 u9))))))))
def f_X6_fillsFar_L39 (x2 : Int32) (z39 : Int32 × St) : Option ((Int32 × St) ⊕ (St)) :=
  if (8 : Int32) ≤ z39.1 then (some (.inr z39.2)) else ((iter (f_X6_fillsFar_L48   x2 z39.1) FU ((0 : Int32), z39.2)).bind (fun (S18 : St) => some (.inl ((z39.1 + 1), S18))))
def f_X6_fillsFar (S : St) (x1 : Int32) (x2 : Int32) : Option (St) :=
  (iter (f_X6_fillsFar_L2   x1 x2) FU ((0 : Int32), S)).bind (fun (S3 : St) => if ((x2 >>> (x1 &&& 31)) &&& (1 : Int32)) = 0 then (some S3) else (chk (ib x1 8) (lt_v (up_A S3 (ky 0 66) (upd (st_A S3 (ky 0 66)) x1.toNatClampNeg (0 : Int32))) (fun (S5 : St) => iter (f_X6_fillsFar_L39   x2) FU ((0 : Int32), S5)))))
set_option maxRecDepth 100000 in
set_option maxHeartbeats 4000000 in
theorem k_X6_fillsFar (l : Launch) (g : GG) (hg : gd wd_M g)  (hM : hs wd_M g 0 6) (S : St) (x1 : Int32) (x2 : Int32) (q : St) (hf : f_X6_fillsFar  S x1 x2 = some q) : Met l yX6_fillsFar (Cond.code yX6_fillsFar cX6_fillsFar 7 none :: gw_tbl) rm_X6_fillsFar (va_Pc [.ref (gg_o g 0), .int x1, .int x2] (wI wd_M g S)) (qc_v wd_M g q) 0 0 (aw g) := by
  refine mt_start (own := RX6) hg (by decide) rfl (Nat.le_of_ble_eq_true rfl) (fun p e s m args below meth c ls H locs cx hw hr hlk hl => ?_)
  have hx := cx.1
  have hb := cx.2.1
  have hown := cx.2.2.2.1
  have hts := cx.2.2.2.2.1
  have hl : lv_has ls 7 [(0, .ref (gg_o g 0)), (1, .int x1), (2, .int x2)] := hl
  replace hf := h_top hf
  unfold f_X6_fillsFar at hf
  refine lv_iconst (v := 0) hx hb dX6_fillsFar_0 (by decide) ?_
  refine lv_istore_n hx hb dX6_fillsFar_1 rfl hl (by decide) (lv' := [(3, .int (0 : Int32)), (0, .ref (gg_o g 0)), (1, .int x1), (2, .int x2)]) rfl (fun ls hl => ?_)
  have L2 : ∀ (x1 : Int32) (x2 : Int32) (aft2 : St → Option (St)), (∀ (ls : Array Slot) (H : Heap) (locs : List Loc) (S1 : St), lv_has ls 7 [(0, .ref (gg_o g 0)), (1, .int x1), (2, .int x2)] → HH wd_M g s S1 H locs → aft2 S1 = some q → W p l e rm_X6_fillsFar s m args below meth c H locs 0 0 (MQ below (qc_v wd_M g q) args s 0 0 (aw g)) (F0 m 21 ls [])) → ∀ (n2 : Nat) (ls : Array Slot) (H : Heap) (locs : List Loc) (z2 : Int32 × St), lv_has ls 7 [(0, .ref (gg_o g 0)), (1, .int x1), (2, .int x2), (3, .int z2.1)] → HH wd_M g s z2.2 H locs → (iter (f_X6_fillsFar_L2   x1 x2) n2 z2).bind aft2 = some q → W p l e rm_X6_fillsFar s m args below meth c H locs 0 0 (MQ below (qc_v wd_M g q) args s 0 0 (aw g)) (F0 m 2 ls []) := by
    intro x1 x2 aft2 hX2 n2
    induction n2 with
    | zero => intro ls H locs z2 hl hw hf; exact h_iter0 hf
    | succ n2 ih2 =>
      intro ls H locs z2 hl hw hf
      replace hf := h_iter hf
      unfold f_X6_fillsFar_L2 at hf
      refine lv_iload_n hx hb dX6_fillsFar_2 rfl (lv_at hl 3 rfl) ?_
      refine lv_bipush (v := 8) hx hb dX6_fillsFar_3 (by decide) ?_
      refine lv_icmp_ge hx hb dX6_fillsFar_5 (tgt := 21) rfl (fun hc1 => ?_) (fun hc1 => ?_)
      · replace hf := h_pos hc1 hf
        exact hX2 _ _ _ z2.2 (lv_sub hl [0, 1, 2] rfl) hw hf
      replace hf := h_neg hc1 hf
      refine lv_aload_n hx hb dX6_fillsFar_8 rfl (lv_at hl 0 rfl) ?_
      refine gf_X6_152 cx hw hM dX6_fillsFar_9 ?_
      refine lv_iload_n hx hb dX6_fillsFar_12 rfl (lv_at hl 3 rfl) ?_
      refine lv_iconst (v := -1) hx hb dX6_fillsFar_13 (by decide) ?_
      refine r_iast cx hw (hM.2.2.1 66 rfl) rfl rfl hf dX6_fillsFar_14 (fun S2 H locs hw hf => ?_)
      refine lv_iinc hx hb dX6_fillsFar_15 hl (k := 3) rfl (congrArg (HAdd.hAdd _) (show Int32.ofInt (1) = 1 by decide)) (by decide) (lv' := [(3, .int (z2.1 + 1)), (0, .ref (gg_o g 0)), (1, .int x1), (2, .int x2)]) rfl (fun ls hl => ?_)
      refine lv_goto hx hb dX6_fillsFar_18 (tgt := 2) rfl ?_
      exact ih2 _ _ _ ((z2.1 + 1), S2) (lv_sub hl [1, 2, 3, 0] rfl) hw hf
  refine L2 x1 x2 _ (fun ls H locs S3 hl hw hf => ?_) FU _ _ _ ((0 : Int32), S) (lv_sub hl [1, 2, 3, 0] rfl) hw (h_assoc hf)
  try dsimp only at hf
  refine lv_iload_n hx hb dX6_fillsFar_21 rfl (lv_at hl 2 rfl) ?_
  refine lv_iload_n hx hb dX6_fillsFar_22 rfl (lv_at hl 1 rfl) ?_
  refine lv_ishr hx hb dX6_fillsFar_23 ?_
  refine lv_iconst (v := 1) hx hb dX6_fillsFar_24 (by decide) ?_
  refine lv_iand hx hb dX6_fillsFar_25 ?_
  refine lv_if_ne hx hb dX6_fillsFar_26 (tgt := 30) rfl (fun hc4 => ?_) (fun hc4 => ?_)
  · replace hf := h_neg hc4 hf
    refine lv_aload_n hx hb dX6_fillsFar_30 rfl (lv_at hl 0 rfl) ?_
    refine gf_X6_152 cx hw hM dX6_fillsFar_31 ?_
    refine lv_iload_n hx hb dX6_fillsFar_34 rfl (lv_at hl 1 rfl) ?_
    refine lv_iconst (v := 0) hx hb dX6_fillsFar_35 (by decide) ?_
    refine r_iast cx hw (hM.2.2.1 66 rfl) rfl rfl hf dX6_fillsFar_36 (fun S5 H locs hw hf => ?_)
    refine lv_iconst (v := 0) hx hb dX6_fillsFar_37 (by decide) ?_
    refine lv_istore_n hx hb dX6_fillsFar_38 rfl hl (by decide) (lv' := [(3, .int (0 : Int32)), (0, .ref (gg_o g 0)), (1, .int x1), (2, .int x2)]) rfl (fun ls hl => ?_)
    have L39 : ∀ (x2 : Int32) (aft39 : St → Option (St)), (∀ v : St, aft39 v = some q → (some v : Option (St)).bind some = some q) → ∀ (n39 : Nat) (ls : Array Slot) (H : Heap) (locs : List Loc) (z39 : Int32 × St), lv_has ls 7 [(0, .ref (gg_o g 0)), (2, .int x2), (3, .int z39.1)] → HH wd_M g s z39.2 H locs → (iter (f_X6_fillsFar_L39   x2) n39 z39).bind aft39 = some q → W p l e rm_X6_fillsFar s m args below meth c H locs 0 0 (MQ below (qc_v wd_M g q) args s 0 0 (aw g)) (F0 m 39 ls []) := by
      intro x2 aft39 hR39 n39
      induction n39 with
      | zero => intro ls H locs z39 hl hw hf; exact h_iter0 hf
      | succ n39 ih39 =>
        intro ls H locs z39 hl hw hf
        replace hf := h_iter hf
        unfold f_X6_fillsFar_L39 at hf
        refine lv_iload_n hx hb dX6_fillsFar_39 rfl (lv_at hl 2 rfl) ?_
        refine lv_bipush (v := 8) hx hb dX6_fillsFar_40 (by decide) ?_
        refine lv_icmp_ge hx hb dX6_fillsFar_42 (tgt := 190) rfl (fun hc6 => ?_) (fun hc6 => ?_)
        · replace hf := h_pos hc6 hf
          replace hf := hR39 z39.2 hf
          exact r_vret cx hw hr hlk hf dX6_fillsFar_190
        replace hf := h_neg hc6 hf
        refine lv_iconst (v := 0) hx hb dX6_fillsFar_45 (by decide) ?_
        refine lv_istore hx hb dX6_fillsFar_46 hl (by decide) (lv' := [(4, .int (0 : Int32)), (0, .ref (gg_o g 0)), (2, .int x2), (3, .int z39.1)]) rfl (fun ls hl => ?_)
        have L48 : ∀ (x2 : Int32) (x3 : Int32) (aft48 : St → Option (St)), (∀ (ls : Array Slot) (H : Heap) (locs : List Loc) (S1 : St), lv_has ls 7 [(0, .ref (gg_o g 0)), (2, .int x2), (3, .int x3)] → HH wd_M g s S1 H locs → aft48 S1 = some q → W p l e rm_X6_fillsFar s m args below meth c H locs 0 0 (MQ below (qc_v wd_M g q) args s 0 0 (aw g)) (F0 m 184 ls [])) → ∀ (n48 : Nat) (ls : Array Slot) (H : Heap) (locs : List Loc) (z48 : Int32 × St), lv_has ls 7 [(0, .ref (gg_o g 0)), (2, .int x2), (3, .int x3), (4, .int z48.1)] → HH wd_M g s z48.2 H locs → (iter (f_X6_fillsFar_L48   x2 x3) n48 z48).bind aft48 = some q → W p l e rm_X6_fillsFar s m args below meth c H locs 0 0 (MQ below (qc_v wd_M g q) args s 0 0 (aw g)) (F0 m 48 ls []) := by
          intro x2 x3 aft48 hX48 n48
          induction n48 with
          | zero => intro ls H locs z48 hl hw hf; exact h_iter0 hf
          | succ n48 ih48 =>
            intro ls H locs z48 hl hw hf
            replace hf := h_iter hf
            unfold f_X6_fillsFar_L48 at hf
            have J137 : ∀ (ls : Array Slot) (H : Heap) (locs : List Loc) (S : St) (x4 : Int32) (x5 : Int32) (x6 : Int32), lv_has ls 7 [(0, .ref (gg_o g 0)), (2, .int x2), (3, .int x3), (4, .int x4), (5, .int x5), (6, .int x6)] → HH wd_M g s S H locs → (f_X6_fillsFar_J137  S x2 x3 x4 x5 x6).bind (it_K (f_X6_fillsFar_L48   x2 x3) n48 aft48) = some q → W p l e rm_X6_fillsFar s m args below meth c H locs 0 0 (MQ below (qc_v wd_M g q) args s 0 0 (aw g)) (F0 m 137 ls []) := by
              intro ls H locs S x4 x5 x6 hl hw hf
              unfold f_X6_fillsFar_J137 at hf
              refine lv_aload_n hx hb dX6_fillsFar_137 rfl (lv_at hl 0 rfl) ?_
              refine gf_X6_152 cx hw hM dX6_fillsFar_138 ?_
              refine lv_iload hx hb dX6_fillsFar_141 (lv_at hl 5 rfl) ?_
              refine r_iald cx hw (hM.2.2.1 66 rfl) rfl rfl hf dX6_fillsFar_143 (fun hf => ?_)
              refine lv_iload_n hx hb dX6_fillsFar_144 rfl (lv_at hl 2 rfl) ?_
              refine lv_icmp_ne hx hb dX6_fillsFar_145 (tgt := 178) rfl (fun hc11 => ?_) (fun hc11 => ?_)
              · replace hf := h_neg hc11 hf
                refine lv_iinc hx hb dX6_fillsFar_178 hl (k := 3) rfl (congrArg (HAdd.hAdd _) (show Int32.ofInt (1) = 1 by decide)) (by decide) (lv' := [(4, .int (x4 + 1)), (0, .ref (gg_o g 0)), (2, .int x2), (3, .int x3), (5, .int x5), (6, .int x6)]) rfl (fun ls hl => ?_)
                refine lv_goto hx hb dX6_fillsFar_181 (tgt := 48) rfl ?_
                exact ih48 _ _ _ ((x4 + 1), S) (lv_sub hl [1, 2, 3, 0] rfl) hw hf
              replace hf := h_pos hc11 hf
              refine lv_aload_n hx hb dX6_fillsFar_148 rfl (lv_at hl 0 rfl) ?_
              refine gf_X6_152 cx hw hM dX6_fillsFar_149 ?_
              refine lv_iload hx hb dX6_fillsFar_152 (lv_at hl 4 rfl) ?_
              refine r_iald cx hw (hM.2.2.1 66 rfl) rfl rfl hf dX6_fillsFar_154 (fun hf => ?_)
              refine lv_if_ge hx hb dX6_fillsFar_155 (tgt := 178) rfl (fun hc12 => ?_) (fun hc12 => ?_)
              · replace hf := h_pos hc12 hf
                refine lv_iinc hx hb dX6_fillsFar_178 hl (k := 3) rfl (congrArg (HAdd.hAdd _) (show Int32.ofInt (1) = 1 by decide)) (by decide) (lv' := [(4, .int (x4 + 1)), (0, .ref (gg_o g 0)), (2, .int x2), (3, .int x3), (5, .int x5), (6, .int x6)]) rfl (fun ls hl => ?_)
                refine lv_goto hx hb dX6_fillsFar_181 (tgt := 48) rfl ?_
                exact ih48 _ _ _ ((x4 + 1), S) (lv_sub hl [1, 2, 3, 0] rfl) hw hf
              replace hf := h_neg hc12 hf
              refine lv_iload_n hx hb dX6_fillsFar_158 rfl (lv_at hl 1 rfl) ?_
              refine lv_iload hx hb dX6_fillsFar_159 (lv_at hl 4 rfl) ?_
              refine lv_ishr hx hb dX6_fillsFar_161 ?_
              refine lv_iconst (v := 1) hx hb dX6_fillsFar_162 (by decide) ?_
              refine lv_iand hx hb dX6_fillsFar_163 ?_
              refine lv_iconst (v := 1) hx hb dX6_fillsFar_164 (by decide) ?_
              refine lv_icmp_ne hx hb dX6_fillsFar_165 (tgt := 178) rfl (fun hc13 => ?_) (fun hc13 => ?_)
              · replace hf := h_neg hc13 hf
                refine lv_iinc hx hb dX6_fillsFar_178 hl (k := 3) rfl (congrArg (HAdd.hAdd _) (show Int32.ofInt (1) = 1 by decide)) (by decide) (lv' := [(4, .int (x4 + 1)), (0, .ref (gg_o g 0)), (2, .int x2), (3, .int x3), (5, .int x5), (6, .int x6)]) rfl (fun ls hl => ?_)
                refine lv_goto hx hb dX6_fillsFar_181 (tgt := 48) rfl ?_
                exact ih48 _ _ _ ((x4 + 1), S) (lv_sub hl [1, 2, 3, 0] rfl) hw hf
              replace hf := h_pos hc13 hf
              refine lv_aload_n hx hb dX6_fillsFar_168 rfl (lv_at hl 0 rfl) ?_
              refine gf_X6_152 cx hw hM dX6_fillsFar_169 ?_
              refine lv_iload hx hb dX6_fillsFar_172 (lv_at hl 4 rfl) ?_
              refine lv_iload_n hx hb dX6_fillsFar_174 rfl (lv_at hl 2 rfl) ?_
              refine lv_iconst (v := 1) hx hb dX6_fillsFar_175 (by decide) ?_
              refine lv_iadd hx hb dX6_fillsFar_176 ?_
              refine r_iast cx hw (hM.2.2.1 66 rfl) rfl rfl hf dX6_fillsFar_177 (fun S14 H locs hw hf => ?_)
              refine lv_iinc hx hb dX6_fillsFar_178 hl (k := 3) rfl (congrArg (HAdd.hAdd _) (show Int32.ofInt (1) = 1 by decide)) (by decide) (lv' := [(4, .int (x4 + 1)), (0, .ref (gg_o g 0)), (2, .int x2), (3, .int x3), (5, .int x5), (6, .int x6)]) rfl (fun ls hl => ?_)
              refine lv_goto hx hb dX6_fillsFar_181 (tgt := 48) rfl ?_
              exact ih48 _ _ _ ((x4 + 1), S14) (lv_sub hl [1, 2, 3, 0] rfl) hw hf
            refine lv_iload hx hb dX6_fillsFar_48 (lv_at hl 3 rfl) ?_
            refine lv_aload_n hx hb dX6_fillsFar_50 rfl (lv_at hl 0 rfl) ?_
            refine gf_X6_52 cx hw hM dX6_fillsFar_51 ?_
            refine lv_aload_n hx hb dX6_fillsFar_54 rfl (lv_at hl 0 rfl) ?_
            refine gf_X6_257 cx hw hM dX6_fillsFar_55 ?_
            refine r_iald cx hw (hM.2.2.1 25 rfl) rfl rfl hf dX6_fillsFar_58 (fun hf => ?_)
            refine lv_icmp_ge hx hb dX6_fillsFar_59 (tgt := 184) rfl (fun hc7 => ?_) (fun hc7 => ?_)
            · replace hf := h_pos hc7 hf
              exact hX48 _ _ _ z48.2 (lv_sub hl [0, 1, 2] rfl) hw hf
            replace hf := h_neg hc7 hf
            refine lv_aload_n hx hb dX6_fillsFar_62 rfl (lv_at hl 0 rfl) ?_
            refine gf_X6_55 cx hw hM dX6_fillsFar_63 ?_
            refine lv_bipush (v := 12) hx hb dX6_fillsFar_66 (by decide) ?_
            refine lv_aload_n hx hb dX6_fillsFar_68 rfl (lv_at hl 0 rfl) ?_
            refine gf_X6_257 cx hw hM dX6_fillsFar_69 ?_
            refine lv_imul hx hb dX6_fillsFar_72 ?_
            refine lv_iload hx hb dX6_fillsFar_73 (lv_at hl 3 rfl) ?_
            refine lv_iadd hx hb dX6_fillsFar_75 ?_
            refine r_iald cx hw (hM.2.2.1 26 rfl) rfl rfl hf dX6_fillsFar_76 (fun hf => ?_)
            refine r_leti hf (fun u8 hf => ?_)
            refine lv_istore hx hb dX6_fillsFar_77 hl (by decide) (lv' := [(5, .int u8), (0, .ref (gg_o g 0)), (2, .int x2), (3, .int x3), (4, .int z48.1)]) rfl (fun ls hl => ?_)
            refine lv_aload_n hx hb dX6_fillsFar_79 rfl (lv_at hl 1 rfl) ?_
            refine gf_X6_58 cx hw hM dX6_fillsFar_80 ?_
            refine lv_bipush (v := 12) hx hb dX6_fillsFar_83 (by decide) ?_
            refine lv_aload_n hx hb dX6_fillsFar_85 rfl (lv_at hl 1 rfl) ?_
            refine gf_X6_257 cx hw hM dX6_fillsFar_86 ?_
            refine lv_imul hx hb dX6_fillsFar_89 ?_
            refine lv_iload hx hb dX6_fillsFar_90 (lv_at hl 4 rfl) ?_
            refine lv_iadd hx hb dX6_fillsFar_92 ?_
            refine r_iald cx hw (hM.2.2.1 27 rfl) rfl rfl hf dX6_fillsFar_93 (fun hf => ?_)
            refine r_leti hf (fun u9 hf => ?_)
            refine lv_istore hx hb dX6_fillsFar_94 hl (by decide) (lv' := [(6, .int u9), (5, .int u8), (0, .ref (gg_o g 0)), (2, .int x2), (3, .int x3), (4, .int z48.1)]) rfl (fun ls hl => ?_)
            refine lv_aload_n hx hb dX6_fillsFar_96 rfl (lv_at hl 2 rfl) ?_
            refine gf_X6_152 cx hw hM dX6_fillsFar_97 ?_
            refine lv_iload hx hb dX6_fillsFar_100 (lv_at hl 1 rfl) ?_
            refine r_iald cx hw (hM.2.2.1 66 rfl) rfl rfl hf dX6_fillsFar_102 (fun hf => ?_)
            refine lv_iload_n hx hb dX6_fillsFar_103 rfl (lv_at hl 4 rfl) ?_
            refine lv_icmp_ne hx hb dX6_fillsFar_104 (tgt := 137) rfl (fun hc10 => ?_) (fun hc10 => ?_)
            · replace hf := h_neg hc10 hf
              exact J137 _ _ _ z48.2 z48.1 u8 u9 (lv_sub hl [2, 3, 4, 5, 1, 0] rfl) hw hf
            replace hf := h_pos hc10 hf
            refine lv_aload_n hx hb dX6_fillsFar_107 rfl (lv_at hl 2 rfl) ?_
            refine gf_X6_152 cx hw hM dX6_fillsFar_108 ?_
            refine lv_iload hx hb dX6_fillsFar_111 (lv_at hl 0 rfl) ?_
            refine r_iald cx hw (hM.2.2.1 66 rfl) rfl rfl hf dX6_fillsFar_113 (fun hf => ?_)
            refine lv_if_ge hx hb dX6_fillsFar_114 (tgt := 137) rfl (fun hc15 => ?_) (fun hc15 => ?_)
            · replace hf := h_pos hc15 hf
              exact J137 _ _ _ z48.2 z48.1 u8 u9 (lv_sub hl [2, 3, 4, 5, 1, 0] rfl) hw hf
            replace hf := h_neg hc15 hf
            refine lv_iload_n hx hb dX6_fillsFar_117 rfl (lv_at hl 3 rfl) ?_
            refine lv_iload hx hb dX6_fillsFar_118 (lv_at hl 0 rfl) ?_
            refine lv_ishr hx hb dX6_fillsFar_120 ?_
            refine lv_iconst (v := 1) hx hb dX6_fillsFar_121 (by decide) ?_
            refine lv_iand hx hb dX6_fillsFar_122 ?_
            refine lv_iconst (v := 1) hx hb dX6_fillsFar_123 (by decide) ?_
            refine lv_icmp_ne hx hb dX6_fillsFar_124 (tgt := 137) rfl (fun hc16 => ?_) (fun hc16 => ?_)
            · replace hf := h_neg hc16 hf
              exact J137 _ _ _ z48.2 z48.1 u8 u9 (lv_sub hl [2, 3, 4, 5, 1, 0] rfl) hw hf
            replace hf := h_pos hc16 hf
            refine lv_aload_n hx hb dX6_fillsFar_127 rfl (lv_at hl 2 rfl) ?_
            refine gf_X6_152 cx hw hM dX6_fillsFar_128 ?_
            refine lv_iload hx hb dX6_fillsFar_131 (lv_at hl 0 rfl) ?_
            refine lv_iload_n hx hb dX6_fillsFar_133 rfl (lv_at hl 4 rfl) ?_
            refine lv_iconst (v := 1) hx hb dX6_fillsFar_134 (by decide) ?_
            refine lv_iadd hx hb dX6_fillsFar_135 ?_
            refine r_iast cx hw (hM.2.2.1 66 rfl) rfl rfl hf dX6_fillsFar_136 (fun S17 H locs hw hf => ?_)
            exact J137 _ _ _ S17 z48.1 u8 u9 (lv_sub hl [2, 3, 4, 5, 1, 0] rfl) hw hf
        refine L48 x2 z39.1 _ (fun ls H locs S18 hl hw hf => ?_) FU _ _ _ ((0 : Int32), z39.2) (lv_sub hl [1, 2, 3, 0] rfl) hw (h_assoc hf)
        try dsimp only at hf
        refine lv_iinc hx hb dX6_fillsFar_184 hl (k := 2) rfl (congrArg (HAdd.hAdd _) (show Int32.ofInt (1) = 1 by decide)) (by decide) (lv' := [(3, .int (z39.1 + 1)), (0, .ref (gg_o g 0)), (2, .int x2)]) rfl (fun ls hl => ?_)
        refine lv_goto hx hb dX6_fillsFar_187 (tgt := 39) rfl ?_
        exact ih39 _ _ _ ((z39.1 + 1), S18) (lv_sub hl [1, 2, 0] rfl) hw hf
    exact L39 x2 some (fun v h => h) FU _ _ _ ((0 : Int32), S5) (lv_sub hl [1, 3, 0] rfl) hw hf
  replace hf := h_pos hc4 hf
  exact r_vret cx hw hr hlk hf dX6_fillsFar_29
theorem dX6_view_0 : decode cX6_view 0 = .ok (.aload_n 0, 1) := by decide +kernel
theorem dX6_view_1 : decode cX6_view 1 = .ok (.iload_n 1, 1) := by decide +kernel
theorem dX6_view_2 : decode cX6_view 2 = .ok (.invokevirtual 410, 3) := by decide +kernel
theorem dX6_view_5 : decode cX6_view 5 = .ok (.ifCond .eq 29, 3) := by decide +kernel
theorem dX6_view_8 : decode cX6_view 8 = .ok (.aload_n 0, 1) := by decide +kernel
theorem dX6_view_9 : decode cX6_view 9 = .ok (.iload_n 2, 1) := by decide +kernel
theorem dX6_view_10 : decode cX6_view 10 = .ok (.invokevirtual 437, 3) := by decide +kernel
theorem dX6_view_13 : decode cX6_view 13 = .ok (.ifCond .eq 21, 3) := by decide +kernel
theorem dX6_view_16 : decode cX6_view 16 = .ok (.aload_n 0, 1) := by decide +kernel
theorem dX6_view_17 : decode cX6_view 17 = .ok (.iload_n 3, 1) := by decide +kernel
theorem dX6_view_18 : decode cX6_view 18 = .ok (.invokevirtual 413, 3) := by decide +kernel
theorem dX6_view_21 : decode cX6_view 21 = .ok (.ifCond .eq 13, 3) := by decide +kernel
theorem dX6_view_24 : decode cX6_view 24 = .ok (.iload 4, 2) := by decide +kernel
theorem dX6_view_26 : decode cX6_view 26 = .ok (.iconst 0, 1) := by decide +kernel
theorem dX6_view_27 : decode cX6_view 27 = .ok (.iconst 1, 1) := by decide +kernel
theorem dX6_view_28 : decode cX6_view 28 = .ok (.invokestatic 341, 3) := by decide +kernel
theorem dX6_view_31 : decode cX6_view 31 = .ok (.ifCond .ne 5, 3) := by decide +kernel
theorem dX6_view_34 : decode cX6_view 34 = .ok (.iconst (-1), 1) := by decide +kernel
theorem dX6_view_35 : decode cX6_view 35 = .ok (.ireturn, 1) := by decide +kernel
theorem dX6_view_36 : decode cX6_view 36 = .ok (.aload_n 0, 1) := by decide +kernel
theorem dX6_view_37 : decode cX6_view 37 = .ok (.invokevirtual 452, 3) := by decide +kernel
theorem dX6_view_40 : decode cX6_view 40 = .ok (.aload_n 0, 1) := by decide +kernel
theorem dX6_view_41 : decode cX6_view 41 = .ok (.aload_n 0, 1) := by decide +kernel
theorem dX6_view_42 : decode cX6_view 42 = .ok (.getfield 131, 3) := by decide +kernel
theorem dX6_view_45 : decode cX6_view 45 = .ok (.bipush 36, 2) := by decide +kernel
theorem dX6_view_47 : decode cX6_view 47 = .ok (.aload_n 0, 1) := by decide +kernel
theorem dX6_view_48 : decode cX6_view 48 = .ok (.getfield 345, 3) := by decide +kernel
theorem dX6_view_51 : decode cX6_view 51 = .ok (.imul, 1) := by decide +kernel
theorem dX6_view_52 : decode cX6_view 52 = .ok (.iload_n 1, 1) := by decide +kernel
theorem dX6_view_53 : decode cX6_view 53 = .ok (.iadd, 1) := by decide +kernel
theorem dX6_view_54 : decode cX6_view 54 = .ok (.iaload, 1) := by decide +kernel
theorem dX6_view_55 : decode cX6_view 55 = .ok (.sipush 255, 3) := by decide +kernel
theorem dX6_view_58 : decode cX6_view 58 = .ok (.invokevirtual 465, 3) := by decide +kernel
theorem dX6_view_61 : decode cX6_view 61 = .ok (.aload_n 0, 1) := by decide +kernel
theorem dX6_view_62 : decode cX6_view 62 = .ok (.getfield 345, 3) := by decide +kernel
theorem dX6_view_65 : decode cX6_view 65 = .ok (.istore 5, 2) := by decide +kernel
theorem dX6_view_67 : decode cX6_view 67 = .ok (.iload 5, 2) := by decide +kernel
theorem dX6_view_69 : decode cX6_view 69 = .ok (.sipush 299, 3) := by decide +kernel
theorem dX6_view_72 : decode cX6_view 72 = .ok (.if_icmp .gt 90, 3) := by decide +kernel
theorem dX6_view_75 : decode cX6_view 75 = .ok (.iconst 0, 1) := by decide +kernel
theorem dX6_view_76 : decode cX6_view 76 = .ok (.istore 6, 2) := by decide +kernel
theorem dX6_view_78 : decode cX6_view 78 = .ok (.iload 6, 2) := by decide +kernel
theorem dX6_view_80 : decode cX6_view 80 = .ok (.aload_n 0, 1) := by decide +kernel
theorem dX6_view_81 : decode cX6_view 81 = .ok (.getfield 70, 3) := by decide +kernel
theorem dX6_view_84 : decode cX6_view 84 = .ok (.aload_n 0, 1) := by decide +kernel
theorem dX6_view_85 : decode cX6_view 85 = .ok (.getfield 257, 3) := by decide +kernel
theorem dX6_view_88 : decode cX6_view 88 = .ok (.iaload, 1) := by decide +kernel
theorem dX6_view_89 : decode cX6_view 89 = .ok (.if_icmp .ge 67, 3) := by decide +kernel
theorem dX6_view_92 : decode cX6_view 92 = .ok (.aload_n 0, 1) := by decide +kernel
theorem dX6_view_93 : decode cX6_view 93 = .ok (.getfield 152, 3) := by decide +kernel
theorem dX6_view_96 : decode cX6_view 96 = .ok (.aload_n 0, 1) := by decide +kernel
theorem dX6_view_97 : decode cX6_view 97 = .ok (.iload 6, 2) := by decide +kernel
theorem dX6_view_99 : decode cX6_view 99 = .ok (.iload 5, 2) := by decide +kernel
theorem dX6_view_101 : decode cX6_view 101 = .ok (.invokevirtual 392, 3) := by decide +kernel
theorem dX6_view_104 : decode cX6_view 104 = .ok (.iaload, 1) := by decide +kernel
theorem dX6_view_105 : decode cX6_view 105 = .ok (.istore 7, 2) := by decide +kernel
theorem dX6_view_107 : decode cX6_view 107 = .ok (.iload 7, 2) := by decide +kernel
theorem dX6_view_109 : decode cX6_view 109 = .ok (.ifCond .lt 41, 3) := by decide +kernel
theorem dX6_view_112 : decode cX6_view 112 = .ok (.iload 7, 2) := by decide +kernel
theorem dX6_view_114 : decode cX6_view 114 = .ok (.iload 5, 2) := by decide +kernel
theorem dX6_view_116 : decode cX6_view 116 = .ok (.aload_n 0, 1) := by decide +kernel
theorem dX6_view_117 : decode cX6_view 117 = .ok (.getfield 345, 3) := by decide +kernel
theorem dX6_view_120 : decode cX6_view 120 = .ok (.isub, 1) := by decide +kernel
theorem dX6_view_121 : decode cX6_view 121 = .ok (.if_icmp .gt 29, 3) := by decide +kernel
theorem dX6_view_124 : decode cX6_view 124 = .ok (.aload_n 0, 1) := by decide +kernel
theorem dX6_view_125 : decode cX6_view 125 = .ok (.iload 6, 2) := by decide +kernel
theorem dX6_view_127 : decode cX6_view 127 = .ok (.iload 5, 2) := by decide +kernel
theorem dX6_view_129 : decode cX6_view 129 = .ok (.iload_n 2, 1) := by decide +kernel
theorem dX6_view_130 : decode cX6_view 130 = .ok (.iload_n 3, 1) := by decide +kernel
theorem dX6_view_131 : decode cX6_view 131 = .ok (.invokevirtual 455, 3) := by decide +kernel
theorem dX6_view_134 : decode cX6_view 134 = .ok (.ifCond .eq 16, 3) := by decide +kernel
theorem dX6_view_137 : decode cX6_view 137 = .ok (.iload 4, 2) := by decide +kernel
theorem dX6_view_139 : decode cX6_view 139 = .ok (.ifCond .ne 8, 3) := by decide +kernel
theorem dX6_view_142 : decode cX6_view 142 = .ok (.iload 5, 2) := by decide +kernel
theorem dX6_view_144 : decode cX6_view 144 = .ok (.goto 5, 3) := by decide +kernel
theorem dX6_view_147 : decode cX6_view 147 = .ok (.iload 6, 2) := by decide +kernel
theorem dX6_view_149 : decode cX6_view 149 = .ok (.ireturn, 1) := by decide +kernel
theorem dX6_view_150 : decode cX6_view 150 = .ok (.iinc 6 1, 3) := by decide +kernel
theorem dX6_view_153 : decode cX6_view 153 = .ok (.goto (-75), 3) := by decide +kernel
theorem dX6_view_156 : decode cX6_view 156 = .ok (.iinc 5 1, 3) := by decide +kernel
theorem dX6_view_159 : decode cX6_view 159 = .ok (.goto (-92), 3) := by decide +kernel
theorem dX6_view_162 : decode cX6_view 162 = .ok (.bipush (-2), 2) := by decide +kernel
theorem dX6_view_164 : decode cX6_view 164 = .ok (.ireturn, 1) := by decide +kernel
abbrev rm_X6_view : Room := { frames := 7, cells := 0, slots := 0, locals := 162 }
def f_X6_view_L78 (S : St) (x2 : Int32) (x3 : Int32) (x4 : Int32) (x5 : Int32) (z78 : Int32) : Option ((Int32) ⊕ ((Unit) ⊕ (Int32 × St))) :=
  chk (ib (st_I S (ky 0 18)) 2) (if (st_A S (ky 0 31) (st_I S (ky 0 18)).toNatClampNeg) ≤ z78 then (some (.inr (.inl ()))) else ((f_X6_hungIn  S z78 x5).bind (fun (q13 : Int32) => chk (ib q13 8) (if (st_A S (ky 0 66) q13.toNatClampNeg) < 0 then (some (.inl (z78 + 1))) else (if (x5 - (st_I S (ky 0 53))) < (st_A S (ky 0 66) q13.toNatClampNeg) then (some (.inl (z78 + 1))) else ((f_X6_showsRoom  S z78 x5 x2 x3).bind (fun (q16 : Int32) => if q16 = 0 then (some (.inl (z78 + 1))) else (if x4 = 0 then (some (.inr (.inr (x5, S)))) else (some (.inr (.inr (z78, S))))))))))))
def f_X6_view_L67 (S : St) (x2 : Int32) (x3 : Int32) (x4 : Int32) (z67 : Int32) : Option ((Int32) ⊕ ((Int32 × Int32) ⊕ (Int32 × St))) :=
  if (299 : Int32) < z67 then (some (.inr (.inr ((-2 : Int32), S)))) else ((iter (f_X6_view_L78  S x2 x3 x4 z67) FU (0 : Int32)).bind fun z => match z with | .inl z => (fun _ => some (.inl (z67 + 1))) z | .inr v20 => some (.inr (.inr v20)))
def f_X6_view (S : St) (x1 : Int32) (x2 : Int32) (x3 : Int32) (x4 : Int32) : Option (Int32 × St) :=
  (f_X6_isMan  S x1).bind (fun (q1 : Int32) => if q1 = 0 then (some ((-1 : Int32), S)) else ((f_X6_isRoom  S x2).bind (fun (q3 : Int32) => if q3 = 0 then (some ((-1 : Int32), S)) else ((f_X6_isPast  S x3).bind (fun (q5 : Int32) => if q5 = 0 then (some ((-1 : Int32), S)) else ((f_X6_in   x4 (0 : Int32) (1 : Int32)).bind (fun (q7 : Int32) => if q7 = 0 then (some ((-1 : Int32), S)) else ((f_X6_fillsAll  S ).bind (fun (q9 : St) => chk (ib (((36 : Int32) * (st_I q9 (ky 0 53))) + x1) 10800) ((f_X6_fillsFar  q9 (st_A q9 (ky 0 56) (((36 : Int32) * (st_I q9 (ky 0 53))) + x1).toNatClampNeg) (255 : Int32)).bind (fun (q10 : St) => (iter (f_X6_view_L67  q10 x2 x3 x4) FU (st_I q10 (ky 0 53))).bind fun z => match z with | .inl z => (fun (u24 : Int32 × Int32) => (fun (e21 : Int32) (e22 : Int32) => if x4 = 0 then (some (e21, q10)) else (some (e22, q10))) u24.1 u24.2) z | .inr v25 => some v25)))))))))))
set_option maxRecDepth 100000 in
set_option maxHeartbeats 4000000 in
theorem k_X6_view (l : Launch) (g : GG) (hg : gd wd_M g)  (hM : hs wd_M g 0 6) (S : St) (x1 : Int32) (x2 : Int32) (x3 : Int32) (x4 : Int32) (q : Int32 × St) (hf : f_X6_view  S x1 x2 x3 x4 = some q) : Met l yX6_view (Cond.code yX6_view cX6_view 8 (some .int) :: gw_tbl) rm_X6_view (va_Pc [.ref (gg_o g 0), .int x1, .int x2, .int x3, .int x4] (wI wd_M g S)) (qc_w wd_M g q) 0 0 (aw g) := by
  refine mt_start (own := RX6) hg (by decide) rfl (Nat.le_of_ble_eq_true rfl) (fun p e s m args below meth c ls H locs cx hw hr hlk hl => ?_)
  have hx := cx.1
  have hb := cx.2.1
  have hown := cx.2.2.2.1
  have hts := cx.2.2.2.2.1
  have hl : lv_has ls 8 [(0, .ref (gg_o g 0)), (1, .int x1), (2, .int x2), (3, .int x3), (4, .int x4)] := hl
  replace hf := h_top hf
  unfold f_X6_view at hf
  refine lv_aload_n hx hb dX6_view_0 rfl (lv_at hl 0 rfl) ?_
  refine lv_iload_n hx hb dX6_view_1 rfl (lv_at hl 1 rfl) ?_
  refine r_V_i (As := [.int x1]) (rest := []) cx hw hf hM.2.1 (by rw [hM.1]; rfl) lk_X6_410 (fun q1 hq => k_X6_isMan l g hg  hM S x1 q1 hq) ⟨⟨rfl, rfl⟩, Nat.le_of_ble_eq_true rfl, Nat.le_of_ble_eq_true rfl⟩ rfl hl.1 rfl (Nat.le_of_ble_eq_true rfl) dX6_view_2 ⟨Nat.zero_le _, Nat.zero_le _⟩ (fun q1 H locs hw hf => ?_)
  refine lv_if_eq hx hb dX6_view_5 (tgt := 34) rfl (fun hc2 => ?_) (fun hc2 => ?_)
  · replace hf := h_pos hc2 hf
    refine lv_iconst (v := -1) hx hb dX6_view_34 (by decide) ?_
    exact r_iretw cx hw hr hlk hf dX6_view_35
  replace hf := h_neg hc2 hf
  refine lv_aload_n hx hb dX6_view_8 rfl (lv_at hl 0 rfl) ?_
  refine lv_iload_n hx hb dX6_view_9 rfl (lv_at hl 2 rfl) ?_
  refine r_V_i (As := [.int x2]) (rest := []) cx hw hf hM.2.1 (by rw [hM.1]; rfl) lk_X6_437 (fun q3 hq => k_X6_isRoom l g hg  hM S x2 q3 hq) ⟨⟨rfl, rfl⟩, Nat.le_of_ble_eq_true rfl, Nat.le_of_ble_eq_true rfl⟩ rfl hl.1 rfl (Nat.le_of_ble_eq_true rfl) dX6_view_10 ⟨Nat.zero_le _, Nat.zero_le _⟩ (fun q3 H locs hw hf => ?_)
  refine lv_if_eq hx hb dX6_view_13 (tgt := 34) rfl (fun hc4 => ?_) (fun hc4 => ?_)
  · replace hf := h_pos hc4 hf
    refine lv_iconst (v := -1) hx hb dX6_view_34 (by decide) ?_
    exact r_iretw cx hw hr hlk hf dX6_view_35
  replace hf := h_neg hc4 hf
  refine lv_aload_n hx hb dX6_view_16 rfl (lv_at hl 0 rfl) ?_
  refine lv_iload_n hx hb dX6_view_17 rfl (lv_at hl 3 rfl) ?_
  refine r_V_i (As := [.int x3]) (rest := []) cx hw hf hM.2.1 (by rw [hM.1]; rfl) lk_X6_413 (fun q5 hq => k_X6_isPast l g hg  hM S x3 q5 hq) ⟨⟨rfl, rfl⟩, Nat.le_of_ble_eq_true rfl, Nat.le_of_ble_eq_true rfl⟩ rfl hl.1 rfl (Nat.le_of_ble_eq_true rfl) dX6_view_18 ⟨Nat.zero_le _, Nat.zero_le _⟩ (fun q5 H locs hw hf => ?_)
  refine lv_if_eq hx hb dX6_view_21 (tgt := 34) rfl (fun hc6 => ?_) (fun hc6 => ?_)
  · replace hf := h_pos hc6 hf
    refine lv_iconst (v := -1) hx hb dX6_view_34 (by decide) ?_
    exact r_iretw cx hw hr hlk hf dX6_view_35
  replace hf := h_neg hc6 hf
  refine lv_iload hx hb dX6_view_24 (lv_at hl 4 rfl) ?_
  refine lv_iconst (v := 0) hx hb dX6_view_26 (by decide) ?_
  refine lv_iconst (v := 1) hx hb dX6_view_27 (by decide) ?_
  refine r_S_i (As := [.int x4, .int (0 : Int32), .int (1 : Int32)]) (rest := []) cx hw hf lk_X6_341 (fun q7 hq => k_X6_in l g hg   S x4 (0 : Int32) (1 : Int32) q7 hq) ⟨⟨rfl, rfl⟩, Nat.le_of_ble_eq_true rfl, Nat.le_of_ble_eq_true rfl⟩ rfl hl.1 rfl (Nat.le_of_ble_eq_true rfl) dX6_view_28 ⟨Nat.zero_le _, Nat.zero_le _⟩ (fun q7 H locs hw hf => ?_)
  refine lv_if_ne hx hb dX6_view_31 (tgt := 36) rfl (fun hc8 => ?_) (fun hc8 => ?_)
  · replace hf := h_neg hc8 hf
    refine lv_aload_n hx hb dX6_view_36 rfl (lv_at hl 0 rfl) ?_
    refine r_V_v (As := []) (rest := []) cx hw hf hM.2.1 (by rw [hM.1]; rfl) lk_X6_452 (fun q9 hq => k_X6_fillsAll l g hg  hM S  q9 hq) ⟨⟨rfl, rfl⟩, Nat.le_of_ble_eq_true rfl, Nat.le_of_ble_eq_true rfl⟩ rfl hl.1 rfl (Nat.le_of_ble_eq_true rfl) dX6_view_37 ⟨Nat.zero_le _, Nat.zero_le _⟩ (fun q9 H locs hw hf => ?_)
    refine lv_aload_n hx hb dX6_view_40 rfl (lv_at hl 0 rfl) ?_
    refine lv_aload_n hx hb dX6_view_41 rfl (lv_at hl 0 rfl) ?_
    refine gf_X6_131 cx hw hM dX6_view_42 ?_
    refine lv_bipush (v := 36) hx hb dX6_view_45 (by decide) ?_
    refine lv_aload_n hx hb dX6_view_47 rfl (lv_at hl 0 rfl) ?_
    refine gf_X6_345 cx hw hM dX6_view_48 ?_
    refine lv_imul hx hb dX6_view_51 ?_
    refine lv_iload_n hx hb dX6_view_52 rfl (lv_at hl 1 rfl) ?_
    refine lv_iadd hx hb dX6_view_53 ?_
    refine r_iald cx hw (hM.2.2.1 56 rfl) rfl rfl hf dX6_view_54 (fun hf => ?_)
    refine lv_sipush (v := 255) hx hb dX6_view_55 (by decide) ?_
    refine r_V_v (As := [.int (st_A q9 (ky 0 56) (((36 : Int32) * (st_I q9 (ky 0 53))) + x1).toNatClampNeg), .int (255 : Int32)]) (rest := []) cx hw hf hM.2.1 (by rw [hM.1]; rfl) lk_X6_465 (fun q10 hq => k_X6_fillsFar l g hg  hM q9 (st_A q9 (ky 0 56) (((36 : Int32) * (st_I q9 (ky 0 53))) + x1).toNatClampNeg) (255 : Int32) q10 hq) ⟨⟨rfl, rfl⟩, Nat.le_of_ble_eq_true rfl, Nat.le_of_ble_eq_true rfl⟩ rfl hl.1 rfl (Nat.le_of_ble_eq_true rfl) dX6_view_58 ⟨Nat.zero_le _, Nat.zero_le _⟩ (fun q10 H locs hw hf => ?_)
    refine lv_aload_n hx hb dX6_view_61 rfl (lv_at hl 0 rfl) ?_
    refine gf_X6_345 cx hw hM dX6_view_62 ?_
    refine lv_istore hx hb dX6_view_65 hl (by decide) (lv' := [(5, .int (st_I q10 (ky 0 53))), (0, .ref (gg_o g 0)), (1, .int x1), (2, .int x2), (3, .int x3), (4, .int x4)]) rfl (fun ls hl => ?_)
    have L67 : ∀ (S : St) (x2 : Int32) (x3 : Int32) (x4 : Int32) (aft67 : ((Int32 × Int32) ⊕ (Int32 × St)) → Option (Int32 × St)), (∀ (ls : Array Slot) (H : Heap) (locs : List Loc) (e5 : Int32) (e6 : Int32), lv_has ls 8 [(4, .int x4), (5, .int e5), (6, .int e6)] → HH wd_M g s S H locs → aft67 (.inl (e5, e6)) = some q → W p l e rm_X6_view s m args below meth c H locs 0 0 (MQ below (qc_w wd_M g q) args s 0 0 (aw g)) (F0 m 137 ls [])) → (∀ v : Int32 × St, aft67 (.inr v) = some q → (some v : Option (Int32 × St)).bind some = some q) → ∀ (n67 : Nat) (ls : Array Slot) (H : Heap) (locs : List Loc) (z67 : Int32), lv_has ls 8 [(0, .ref (gg_o g 0)), (2, .int x2), (3, .int x3), (4, .int x4), (5, .int z67)] → HH wd_M g s S H locs → (iter (f_X6_view_L67  S x2 x3 x4) n67 z67).bind aft67 = some q → W p l e rm_X6_view s m args below meth c H locs 0 0 (MQ below (qc_w wd_M g q) args s 0 0 (aw g)) (F0 m 67 ls []) := by
      intro S x2 x3 x4 aft67 hX67 hR67 n67
      induction n67 with
      | zero => intro ls H locs z67 hl hw hf; exact h_iter0 hf
      | succ n67 ih67 =>
        intro ls H locs z67 hl hw hf
        replace hf := h_iter hf
        unfold f_X6_view_L67 at hf
        refine lv_iload hx hb dX6_view_67 (lv_at hl 4 rfl) ?_
        refine lv_sipush (v := 299) hx hb dX6_view_69 (by decide) ?_
        refine lv_icmp_gt hx hb dX6_view_72 (tgt := 162) rfl (fun hc11 => ?_) (fun hc11 => ?_)
        · replace hf := h_pos hc11 hf
          refine lv_bipush (v := -2) hx hb dX6_view_162 (by decide) ?_
          replace hf := hR67 ((-2 : Int32), S) hf
          exact r_iretw cx hw hr hlk hf dX6_view_164
        replace hf := h_neg hc11 hf
        refine lv_iconst (v := 0) hx hb dX6_view_75 (by decide) ?_
        refine lv_istore hx hb dX6_view_76 hl (by decide) (lv' := [(6, .int (0 : Int32)), (0, .ref (gg_o g 0)), (2, .int x2), (3, .int x3), (4, .int x4), (5, .int z67)]) rfl (fun ls hl => ?_)
        have L78 : ∀ (S : St) (x2 : Int32) (x3 : Int32) (x4 : Int32) (x5 : Int32) (aft78 : ((Unit) ⊕ (Int32 × St)) → Option (Int32 × St)), (∀ (ls : Array Slot) (H : Heap) (locs : List Loc) , lv_has ls 8 [(0, .ref (gg_o g 0)), (2, .int x2), (3, .int x3), (4, .int x4), (5, .int x5)] → HH wd_M g s S H locs → aft78 (.inl ()) = some q → W p l e rm_X6_view s m args below meth c H locs 0 0 (MQ below (qc_w wd_M g q) args s 0 0 (aw g)) (F0 m 156 ls [])) → (∀ v : Int32 × St, aft78 (.inr v) = some q → (some v : Option (Int32 × St)).bind some = some q) → ∀ (n78 : Nat) (ls : Array Slot) (H : Heap) (locs : List Loc) (z78 : Int32), lv_has ls 8 [(0, .ref (gg_o g 0)), (2, .int x2), (3, .int x3), (4, .int x4), (5, .int x5), (6, .int z78)] → HH wd_M g s S H locs → (iter (f_X6_view_L78  S x2 x3 x4 x5) n78 z78).bind aft78 = some q → W p l e rm_X6_view s m args below meth c H locs 0 0 (MQ below (qc_w wd_M g q) args s 0 0 (aw g)) (F0 m 78 ls []) := by
          intro S x2 x3 x4 x5 aft78 hX78 hR78 n78
          induction n78 with
          | zero => intro ls H locs z78 hl hw hf; exact h_iter0 hf
          | succ n78 ih78 =>
            intro ls H locs z78 hl hw hf
            replace hf := h_iter hf
            unfold f_X6_view_L78 at hf
            refine lv_iload hx hb dX6_view_78 (lv_at hl 5 rfl) ?_
            refine lv_aload_n hx hb dX6_view_80 rfl (lv_at hl 0 rfl) ?_
            refine gf_X6_70 cx hw hM dX6_view_81 ?_
            refine lv_aload_n hx hb dX6_view_84 rfl (lv_at hl 0 rfl) ?_
            refine gf_X6_257 cx hw hM dX6_view_85 ?_
            refine r_iald cx hw (hM.2.2.1 31 rfl) rfl rfl hf dX6_view_88 (fun hf => ?_)
            refine lv_icmp_ge hx hb dX6_view_89 (tgt := 156) rfl (fun hc12 => ?_) (fun hc12 => ?_)
            · replace hf := h_pos hc12 hf
              exact hX78 _ _ _ (lv_sub hl [0, 1, 2, 3, 4] rfl) hw hf
            replace hf := h_neg hc12 hf
            refine lv_aload_n hx hb dX6_view_92 rfl (lv_at hl 0 rfl) ?_
            refine gf_X6_152 cx hw hM dX6_view_93 ?_
            refine lv_aload_n hx hb dX6_view_96 rfl (lv_at hl 0 rfl) ?_
            refine lv_iload hx hb dX6_view_97 (lv_at hl 5 rfl) ?_
            refine lv_iload hx hb dX6_view_99 (lv_at hl 4 rfl) ?_
            refine r_V_i (As := [.int z78, .int x5]) (rest := [.ref (gg_a g (ky 0 66))]) cx hw hf hM.2.1 (by rw [hM.1]; rfl) lk_X6_392 (fun q13 hq => k_X6_hungIn l g hg  hM S z78 x5 q13 hq) ⟨⟨rfl, rfl⟩, Nat.le_of_ble_eq_true rfl, Nat.le_of_ble_eq_true rfl⟩ rfl hl.1 rfl (Nat.le_of_ble_eq_true rfl) dX6_view_101 ⟨Nat.zero_le _, Nat.zero_le _⟩ (fun q13 H locs hw hf => ?_)
            refine r_iald cx hw (hM.2.2.1 66 rfl) rfl rfl hf dX6_view_104 (fun hf => ?_)
            refine lv_istore hx hb dX6_view_105 hl (by decide) (lv' := [(7, .int (st_A S (ky 0 66) q13.toNatClampNeg)), (0, .ref (gg_o g 0)), (2, .int x2), (3, .int x3), (4, .int x4), (5, .int x5), (6, .int z78)]) rfl (fun ls hl => ?_)
            refine lv_iload hx hb dX6_view_107 (lv_at hl 0 rfl) ?_
            refine lv_if_lt hx hb dX6_view_109 (tgt := 150) rfl (fun hc14 => ?_) (fun hc14 => ?_)
            · replace hf := h_pos hc14 hf
              refine lv_iinc hx hb dX6_view_150 hl (k := 6) rfl (congrArg (HAdd.hAdd _) (show Int32.ofInt (1) = 1 by decide)) (by decide) (lv' := [(6, .int (z78 + 1)), (7, .int (st_A S (ky 0 66) q13.toNatClampNeg)), (0, .ref (gg_o g 0)), (2, .int x2), (3, .int x3), (4, .int x4), (5, .int x5)]) rfl (fun ls hl => ?_)
              refine lv_goto hx hb dX6_view_153 (tgt := 78) rfl ?_
              exact ih78 _ _ _ (z78 + 1) (lv_sub hl [2, 3, 4, 5, 6, 0] rfl) hw hf
            replace hf := h_neg hc14 hf
            refine lv_iload hx hb dX6_view_112 (lv_at hl 0 rfl) ?_
            refine lv_iload hx hb dX6_view_114 (lv_at hl 5 rfl) ?_
            refine lv_aload_n hx hb dX6_view_116 rfl (lv_at hl 1 rfl) ?_
            refine gf_X6_345 cx hw hM dX6_view_117 ?_
            refine lv_isub hx hb dX6_view_120 ?_
            refine lv_icmp_gt hx hb dX6_view_121 (tgt := 150) rfl (fun hc15 => ?_) (fun hc15 => ?_)
            · replace hf := h_pos hc15 hf
              refine lv_iinc hx hb dX6_view_150 hl (k := 6) rfl (congrArg (HAdd.hAdd _) (show Int32.ofInt (1) = 1 by decide)) (by decide) (lv' := [(6, .int (z78 + 1)), (7, .int (st_A S (ky 0 66) q13.toNatClampNeg)), (0, .ref (gg_o g 0)), (2, .int x2), (3, .int x3), (4, .int x4), (5, .int x5)]) rfl (fun ls hl => ?_)
              refine lv_goto hx hb dX6_view_153 (tgt := 78) rfl ?_
              exact ih78 _ _ _ (z78 + 1) (lv_sub hl [2, 3, 4, 5, 6, 0] rfl) hw hf
            replace hf := h_neg hc15 hf
            refine lv_aload_n hx hb dX6_view_124 rfl (lv_at hl 1 rfl) ?_
            refine lv_iload hx hb dX6_view_125 (lv_at hl 6 rfl) ?_
            refine lv_iload hx hb dX6_view_127 (lv_at hl 5 rfl) ?_
            refine lv_iload_n hx hb dX6_view_129 rfl (lv_at hl 2 rfl) ?_
            refine lv_iload_n hx hb dX6_view_130 rfl (lv_at hl 3 rfl) ?_
            refine r_V_i (As := [.int z78, .int x5, .int x2, .int x3]) (rest := []) cx hw hf hM.2.1 (by rw [hM.1]; rfl) lk_X6_455 (fun q16 hq => k_X6_showsRoom l g hg  hM S z78 x5 x2 x3 q16 hq) ⟨⟨rfl, rfl⟩, Nat.le_of_ble_eq_true rfl, Nat.le_of_ble_eq_true rfl⟩ rfl hl.1 rfl (Nat.le_of_ble_eq_true rfl) dX6_view_131 ⟨Nat.zero_le _, Nat.zero_le _⟩ (fun q16 H locs hw hf => ?_)
            refine lv_if_eq hx hb dX6_view_134 (tgt := 150) rfl (fun hc17 => ?_) (fun hc17 => ?_)
            · replace hf := h_pos hc17 hf
              refine lv_iinc hx hb dX6_view_150 hl (k := 6) rfl (congrArg (HAdd.hAdd _) (show Int32.ofInt (1) = 1 by decide)) (by decide) (lv' := [(6, .int (z78 + 1)), (7, .int (st_A S (ky 0 66) q13.toNatClampNeg)), (0, .ref (gg_o g 0)), (2, .int x2), (3, .int x3), (4, .int x4), (5, .int x5)]) rfl (fun ls hl => ?_)
              refine lv_goto hx hb dX6_view_153 (tgt := 78) rfl ?_
              exact ih78 _ _ _ (z78 + 1) (lv_sub hl [2, 3, 4, 5, 6, 0] rfl) hw hf
            replace hf := h_neg hc17 hf
            refine lv_iload hx hb dX6_view_137 (lv_at hl 4 rfl) ?_
            refine lv_if_ne hx hb dX6_view_139 (tgt := 147) rfl (fun hc18 => ?_) (fun hc18 => ?_)
            · replace hf := h_neg hc18 hf
              refine lv_iload hx hb dX6_view_147 (lv_at hl 6 rfl) ?_
              replace hf := hR78 (z78, S) hf
              exact r_iretw cx hw hr hlk hf dX6_view_149
            replace hf := h_pos hc18 hf
            refine lv_iload hx hb dX6_view_142 (lv_at hl 5 rfl) ?_
            refine lv_goto hx hb dX6_view_144 (tgt := 149) rfl ?_
            replace hf := hR78 (x5, S) hf
            exact r_iretw cx hw hr hlk hf dX6_view_149
        refine L78 S x2 x3 x4 z67 _ (fun ls H locs  hl hw hf => ?_) ?_ FU _ _ _ (0 : Int32) (lv_sub hl [1, 2, 3, 4, 5, 0] rfl) hw (h_assoc hf)
        · skip
          try dsimp only at hf
          refine lv_iinc hx hb dX6_view_156 hl (k := 4) rfl (congrArg (HAdd.hAdd _) (show Int32.ofInt (1) = 1 by decide)) (by decide) (lv' := [(5, .int (z67 + 1)), (0, .ref (gg_o g 0)), (2, .int x2), (3, .int x3), (4, .int x4)]) rfl (fun ls hl => ?_)
          refine lv_goto hx hb dX6_view_159 (tgt := 67) rfl ?_
          exact ih67 _ _ _ (z67 + 1) (lv_sub hl [1, 2, 3, 4, 0] rfl) hw hf
        exact (fun v h => hR67 v h)
    refine L67 q10 x2 x3 x4 _ (fun ls H locs e21 e22 hl hw hf => ?_) (fun v h => h) FU _ _ _ (st_I q10 (ky 0 53)) (lv_sub hl [1, 3, 4, 5, 0] rfl) hw (h_assoc hf)
    try dsimp only at hf
    refine lv_iload hx hb dX6_view_137 (lv_at hl 0 rfl) ?_
    refine lv_if_ne hx hb dX6_view_139 (tgt := 147) rfl (fun hc23 => ?_) (fun hc23 => ?_)
    · replace hf := h_neg hc23 hf
      refine lv_iload hx hb dX6_view_147 (lv_at hl 2 rfl) ?_
      exact r_iretw cx hw hr hlk hf dX6_view_149
    replace hf := h_pos hc23 hf
    refine lv_iload hx hb dX6_view_142 (lv_at hl 1 rfl) ?_
    refine lv_goto hx hb dX6_view_144 (tgt := 149) rfl ?_
    exact r_iretw cx hw hr hlk hf dX6_view_149
  replace hf := h_pos hc8 hf
  refine lv_iconst (v := -1) hx hb dX6_view_34 (by decide) ?_
  exact r_iretw cx hw hr hlk hf dX6_view_35
theorem dX6_watched_0 : decode cX6_watched 0 = .ok (.iconst 0, 1) := by decide +kernel
theorem dX6_watched_1 : decode cX6_watched 1 = .ok (.istore_n 1, 1) := by decide +kernel
theorem dX6_watched_2 : decode cX6_watched 2 = .ok (.iconst 0, 1) := by decide +kernel
theorem dX6_watched_3 : decode cX6_watched 3 = .ok (.istore_n 2, 1) := by decide +kernel
theorem dX6_watched_4 : decode cX6_watched 4 = .ok (.iload_n 2, 1) := by decide +kernel
theorem dX6_watched_5 : decode cX6_watched 5 = .ok (.aload_n 0, 1) := by decide +kernel
theorem dX6_watched_6 : decode cX6_watched 6 = .ok (.getfield 70, 3) := by decide +kernel
theorem dX6_watched_9 : decode cX6_watched 9 = .ok (.aload_n 0, 1) := by decide +kernel
theorem dX6_watched_10 : decode cX6_watched 10 = .ok (.getfield 257, 3) := by decide +kernel
theorem dX6_watched_13 : decode cX6_watched 13 = .ok (.iaload, 1) := by decide +kernel
theorem dX6_watched_14 : decode cX6_watched 14 = .ok (.if_icmp .ge 45, 3) := by decide +kernel
theorem dX6_watched_17 : decode cX6_watched 17 = .ok (.aload_n 0, 1) := by decide +kernel
theorem dX6_watched_18 : decode cX6_watched 18 = .ok (.iload_n 2, 1) := by decide +kernel
theorem dX6_watched_19 : decode cX6_watched 19 = .ok (.aload_n 0, 1) := by decide +kernel
theorem dX6_watched_20 : decode cX6_watched 20 = .ok (.getfield 348, 3) := by decide +kernel
theorem dX6_watched_23 : decode cX6_watched 23 = .ok (.invokevirtual 388, 3) := by decide +kernel
theorem dX6_watched_26 : decode cX6_watched 26 = .ok (.ifCond .ne 27, 3) := by decide +kernel
theorem dX6_watched_29 : decode cX6_watched 29 = .ok (.aload_n 0, 1) := by decide +kernel
theorem dX6_watched_30 : decode cX6_watched 30 = .ok (.getfield 134, 3) := by decide +kernel
theorem dX6_watched_33 : decode cX6_watched 33 = .ok (.iload_n 2, 1) := by decide +kernel
theorem dX6_watched_34 : decode cX6_watched 34 = .ok (.iaload, 1) := by decide +kernel
theorem dX6_watched_35 : decode cX6_watched 35 = .ok (.iconst (-1), 1) := by decide +kernel
theorem dX6_watched_36 : decode cX6_watched 36 = .ok (.if_icmp .ne 17, 3) := by decide +kernel
theorem dX6_watched_39 : decode cX6_watched 39 = .ok (.iload_n 1, 1) := by decide +kernel
theorem dX6_watched_40 : decode cX6_watched 40 = .ok (.iconst 1, 1) := by decide +kernel
theorem dX6_watched_41 : decode cX6_watched 41 = .ok (.aload_n 0, 1) := by decide +kernel
theorem dX6_watched_42 : decode cX6_watched 42 = .ok (.iload_n 2, 1) := by decide +kernel
theorem dX6_watched_43 : decode cX6_watched 43 = .ok (.aload_n 0, 1) := by decide +kernel
theorem dX6_watched_44 : decode cX6_watched 44 = .ok (.getfield 348, 3) := by decide +kernel
theorem dX6_watched_47 : decode cX6_watched 47 = .ok (.invokevirtual 392, 3) := by decide +kernel
theorem dX6_watched_50 : decode cX6_watched 50 = .ok (.ishl, 1) := by decide +kernel
theorem dX6_watched_51 : decode cX6_watched 51 = .ok (.ior, 1) := by decide +kernel
theorem dX6_watched_52 : decode cX6_watched 52 = .ok (.istore_n 1, 1) := by decide +kernel
theorem dX6_watched_53 : decode cX6_watched 53 = .ok (.iinc 2 1, 3) := by decide +kernel
theorem dX6_watched_56 : decode cX6_watched 56 = .ok (.goto (-52), 3) := by decide +kernel
theorem dX6_watched_59 : decode cX6_watched 59 = .ok (.iload_n 1, 1) := by decide +kernel
theorem dX6_watched_60 : decode cX6_watched 60 = .ok (.ireturn, 1) := by decide +kernel
abbrev rm_X6_watched : Room := { frames := 1, cells := 0, slots := 0, locals := 22 }
def f_X6_watched_L4 (S : St)  (z4 : Int32 × Int32) : Option ((Int32 × Int32) ⊕ (Int32)) :=
  chk (ib (st_I S (ky 0 18)) 2) (if (st_A S (ky 0 31) (st_I S (ky 0 18)).toNatClampNeg) ≤ z4.2 then (some (.inr z4.1)) else ((f_X6_isTurned  S z4.2 (st_I S (ky 0 57))).bind (fun (q2 : Int32) => if q2 = 0 then (chk (ib z4.2 8) (if (st_A S (ky 0 58) z4.2.toNatClampNeg) = (-1 : Int32) then ((f_X6_hungIn  S z4.2 (st_I S (ky 0 57))).bind (fun (q5 : Int32) => some (.inl ((z4.1 ||| ((1 : Int32) <<< (q5 &&& 31))), (z4.2 + 1))))) else (some (.inl (z4.1, (z4.2 + 1)))))) else (some (.inl (z4.1, (z4.2 + 1)))))))
def f_X6_watched (S : St)  : Option (Int32) :=
  iter (f_X6_watched_L4  S ) FU ((0 : Int32), (0 : Int32))
set_option maxRecDepth 100000 in
set_option maxHeartbeats 4000000 in
theorem k_X6_watched (l : Launch) (g : GG) (hg : gd wd_M g)  (hM : hs wd_M g 0 6) (S : St)  (q : Int32) (hf : f_X6_watched  S  = some q) : Met l yX6_watched (Cond.code yX6_watched cX6_watched 3 (some .int) :: gw_tbl) rm_X6_watched (va_Pc [.ref (gg_o g 0)] (wI wd_M g S)) (qc_i wd_M g S q) 0 0 (aw g) := by
  refine mt_start (own := RX6) hg (by decide) rfl (Nat.le_of_ble_eq_true rfl) (fun p e s m args below meth c ls H locs cx hw hr hlk hl => ?_)
  have hx := cx.1
  have hb := cx.2.1
  have hown := cx.2.2.2.1
  have hts := cx.2.2.2.2.1
  have hl : lv_has ls 3 [(0, .ref (gg_o g 0))] := hl
  replace hf := h_top hf
  unfold f_X6_watched at hf
  refine lv_iconst (v := 0) hx hb dX6_watched_0 (by decide) ?_
  refine lv_istore_n hx hb dX6_watched_1 rfl hl (by decide) (lv' := [(1, .int (0 : Int32)), (0, .ref (gg_o g 0))]) rfl (fun ls hl => ?_)
  refine lv_iconst (v := 0) hx hb dX6_watched_2 (by decide) ?_
  refine lv_istore_n hx hb dX6_watched_3 rfl hl (by decide) (lv' := [(2, .int (0 : Int32)), (1, .int (0 : Int32)), (0, .ref (gg_o g 0))]) rfl (fun ls hl => ?_)
  have L4 : ∀  (aft4 : Int32 → Option (Int32)), (∀ v : Int32, aft4 v = some q → (some v : Option (Int32)).bind some = some q) → ∀ (n4 : Nat) (ls : Array Slot) (H : Heap) (locs : List Loc) (z4 : Int32 × Int32), lv_has ls 3 [(0, .ref (gg_o g 0)), (1, .int z4.1), (2, .int z4.2)] → HH wd_M g s S H locs → (iter (f_X6_watched_L4  S ) n4 z4).bind aft4 = some q → W p l e rm_X6_watched s m args below meth c H locs 0 0 (MQ below (qc_i wd_M g S q) args s 0 0 (aw g)) (F0 m 4 ls []) := by
    intro aft4 hR4 n4
    induction n4 with
    | zero => intro ls H locs z4 hl hw hf; exact h_iter0 hf
    | succ n4 ih4 =>
      intro ls H locs z4 hl hw hf
      replace hf := h_iter hf
      unfold f_X6_watched_L4 at hf
      refine lv_iload_n hx hb dX6_watched_4 rfl (lv_at hl 2 rfl) ?_
      refine lv_aload_n hx hb dX6_watched_5 rfl (lv_at hl 0 rfl) ?_
      refine gf_X6_70 cx hw hM dX6_watched_6 ?_
      refine lv_aload_n hx hb dX6_watched_9 rfl (lv_at hl 0 rfl) ?_
      refine gf_X6_257 cx hw hM dX6_watched_10 ?_
      refine r_iald cx hw (hM.2.2.1 31 rfl) rfl rfl hf dX6_watched_13 (fun hf => ?_)
      refine lv_icmp_ge hx hb dX6_watched_14 (tgt := 59) rfl (fun hc1 => ?_) (fun hc1 => ?_)
      · replace hf := h_pos hc1 hf
        refine lv_iload_n hx hb dX6_watched_59 rfl (lv_at hl 1 rfl) ?_
        replace hf := hR4 z4.1 hf
        exact r_iret cx hw hr hlk hf dX6_watched_60
      replace hf := h_neg hc1 hf
      refine lv_aload_n hx hb dX6_watched_17 rfl (lv_at hl 0 rfl) ?_
      refine lv_iload_n hx hb dX6_watched_18 rfl (lv_at hl 2 rfl) ?_
      refine lv_aload_n hx hb dX6_watched_19 rfl (lv_at hl 0 rfl) ?_
      refine gf_X6_348 cx hw hM dX6_watched_20 ?_
      refine r_V_i (As := [.int z4.2, .int (st_I S (ky 0 57))]) (rest := []) cx hw hf hM.2.1 (by rw [hM.1]; rfl) lk_X6_388 (fun q2 hq => k_X6_isTurned l g hg  hM S z4.2 (st_I S (ky 0 57)) q2 hq) ⟨⟨rfl, rfl⟩, Nat.le_of_ble_eq_true rfl, Nat.le_of_ble_eq_true rfl⟩ rfl hl.1 rfl (Nat.le_of_ble_eq_true rfl) dX6_watched_23 ⟨Nat.zero_le _, Nat.zero_le _⟩ (fun q2 H locs hw hf => ?_)
      refine lv_if_ne hx hb dX6_watched_26 (tgt := 53) rfl (fun hc3 => ?_) (fun hc3 => ?_)
      · replace hf := h_neg hc3 hf
        refine lv_iinc hx hb dX6_watched_53 hl (k := 2) rfl (congrArg (HAdd.hAdd _) (show Int32.ofInt (1) = 1 by decide)) (by decide) (lv' := [(2, .int (z4.2 + 1)), (0, .ref (gg_o g 0)), (1, .int z4.1)]) rfl (fun ls hl => ?_)
        refine lv_goto hx hb dX6_watched_56 (tgt := 4) rfl ?_
        exact ih4 _ _ _ (z4.1, (z4.2 + 1)) (lv_sub hl [1, 2, 0] rfl) hw hf
      replace hf := h_pos hc3 hf
      refine lv_aload_n hx hb dX6_watched_29 rfl (lv_at hl 0 rfl) ?_
      refine gf_X6_134 cx hw hM dX6_watched_30 ?_
      refine lv_iload_n hx hb dX6_watched_33 rfl (lv_at hl 2 rfl) ?_
      refine r_iald cx hw (hM.2.2.1 58 rfl) rfl rfl hf dX6_watched_34 (fun hf => ?_)
      refine lv_iconst (v := -1) hx hb dX6_watched_35 (by decide) ?_
      refine lv_icmp_ne hx hb dX6_watched_36 (tgt := 53) rfl (fun hc4 => ?_) (fun hc4 => ?_)
      · replace hf := h_neg hc4 hf
        refine lv_iinc hx hb dX6_watched_53 hl (k := 2) rfl (congrArg (HAdd.hAdd _) (show Int32.ofInt (1) = 1 by decide)) (by decide) (lv' := [(2, .int (z4.2 + 1)), (0, .ref (gg_o g 0)), (1, .int z4.1)]) rfl (fun ls hl => ?_)
        refine lv_goto hx hb dX6_watched_56 (tgt := 4) rfl ?_
        exact ih4 _ _ _ (z4.1, (z4.2 + 1)) (lv_sub hl [1, 2, 0] rfl) hw hf
      replace hf := h_pos hc4 hf
      refine lv_iload_n hx hb dX6_watched_39 rfl (lv_at hl 1 rfl) ?_
      refine lv_iconst (v := 1) hx hb dX6_watched_40 (by decide) ?_
      refine lv_aload_n hx hb dX6_watched_41 rfl (lv_at hl 0 rfl) ?_
      refine lv_iload_n hx hb dX6_watched_42 rfl (lv_at hl 2 rfl) ?_
      refine lv_aload_n hx hb dX6_watched_43 rfl (lv_at hl 0 rfl) ?_
      refine gf_X6_348 cx hw hM dX6_watched_44 ?_
      refine r_V_i (As := [.int z4.2, .int (st_I S (ky 0 57))]) (rest := [.int (1 : Int32), .int z4.1]) cx hw hf hM.2.1 (by rw [hM.1]; rfl) lk_X6_392 (fun q5 hq => k_X6_hungIn l g hg  hM S z4.2 (st_I S (ky 0 57)) q5 hq) ⟨⟨rfl, rfl⟩, Nat.le_of_ble_eq_true rfl, Nat.le_of_ble_eq_true rfl⟩ rfl hl.1 rfl (Nat.le_of_ble_eq_true rfl) dX6_watched_47 ⟨Nat.zero_le _, Nat.zero_le _⟩ (fun q5 H locs hw hf => ?_)
      refine lv_ishl hx hb dX6_watched_50 ?_
      refine lv_ior hx hb dX6_watched_51 ?_
      refine lv_istore_n hx hb dX6_watched_52 rfl hl (by decide) (lv' := [(1, .int (z4.1 ||| ((1 : Int32) <<< (q5 &&& 31)))), (0, .ref (gg_o g 0)), (2, .int z4.2)]) rfl (fun ls hl => ?_)
      refine lv_iinc hx hb dX6_watched_53 hl (k := 2) rfl (congrArg (HAdd.hAdd _) (show Int32.ofInt (1) = 1 by decide)) (by decide) (lv' := [(2, .int (z4.2 + 1)), (1, .int (z4.1 ||| ((1 : Int32) <<< (q5 &&& 31)))), (0, .ref (gg_o g 0))]) rfl (fun ls hl => ?_)
      refine lv_goto hx hb dX6_watched_56 (tgt := 4) rfl ?_
      exact ih4 _ _ _ ((z4.1 ||| ((1 : Int32) <<< (q5 &&& 31))), (z4.2 + 1)) (lv_sub hl [2, 1, 0] rfl) hw hf
  exact L4 some (fun v h => h) FU _ _ _ ((0 : Int32), (0 : Int32)) (lv_sub hl [2, 1, 0] rfl) hw hf
theorem dX6_hidden_0 : decode cX6_hidden 0 = .ok (.aload_n 0, 1) := by decide +kernel
theorem dX6_hidden_1 : decode cX6_hidden 1 = .ok (.iload_n 1, 1) := by decide +kernel
theorem dX6_hidden_2 : decode cX6_hidden 2 = .ok (.invokevirtual 437, 3) := by decide +kernel
theorem dX6_hidden_5 : decode cX6_hidden 5 = .ok (.ifCond .eq 20, 3) := by decide +kernel
theorem dX6_hidden_8 : decode cX6_hidden 8 = .ok (.aload_n 0, 1) := by decide +kernel
theorem dX6_hidden_9 : decode cX6_hidden 9 = .ok (.iload_n 2, 1) := by decide +kernel
theorem dX6_hidden_10 : decode cX6_hidden 10 = .ok (.invokevirtual 437, 3) := by decide +kernel
theorem dX6_hidden_13 : decode cX6_hidden 13 = .ok (.ifCond .eq 12, 3) := by decide +kernel
theorem dX6_hidden_16 : decode cX6_hidden 16 = .ok (.iload_n 3, 1) := by decide +kernel
theorem dX6_hidden_17 : decode cX6_hidden 17 = .ok (.iconst 0, 1) := by decide +kernel
theorem dX6_hidden_18 : decode cX6_hidden 18 = .ok (.iconst 1, 1) := by decide +kernel
theorem dX6_hidden_19 : decode cX6_hidden 19 = .ok (.invokestatic 341, 3) := by decide +kernel
theorem dX6_hidden_22 : decode cX6_hidden 22 = .ok (.ifCond .ne 5, 3) := by decide +kernel
theorem dX6_hidden_25 : decode cX6_hidden 25 = .ok (.iconst (-1), 1) := by decide +kernel
theorem dX6_hidden_26 : decode cX6_hidden 26 = .ok (.ireturn, 1) := by decide +kernel
theorem dX6_hidden_27 : decode cX6_hidden 27 = .ok (.aload_n 0, 1) := by decide +kernel
theorem dX6_hidden_28 : decode cX6_hidden 28 = .ok (.invokevirtual 419, 3) := by decide +kernel
theorem dX6_hidden_31 : decode cX6_hidden 31 = .ok (.sipush 255, 3) := by decide +kernel
theorem dX6_hidden_34 : decode cX6_hidden 34 = .ok (.aload_n 0, 1) := by decide +kernel
theorem dX6_hidden_35 : decode cX6_hidden 35 = .ok (.invokevirtual 468, 3) := by decide +kernel
theorem dX6_hidden_38 : decode cX6_hidden 38 = .ok (.iconst (-1), 1) := by decide +kernel
theorem dX6_hidden_39 : decode cX6_hidden 39 = .ok (.ixor, 1) := by decide +kernel
theorem dX6_hidden_40 : decode cX6_hidden 40 = .ok (.iand, 1) := by decide +kernel
theorem dX6_hidden_41 : decode cX6_hidden 41 = .ok (.istore 4, 2) := by decide +kernel
theorem dX6_hidden_43 : decode cX6_hidden 43 = .ok (.aload_n 0, 1) := by decide +kernel
theorem dX6_hidden_44 : decode cX6_hidden 44 = .ok (.iload_n 2, 1) := by decide +kernel
theorem dX6_hidden_45 : decode cX6_hidden 45 = .ok (.iload 4, 2) := by decide +kernel
theorem dX6_hidden_47 : decode cX6_hidden 47 = .ok (.invokevirtual 465, 3) := by decide +kernel
theorem dX6_hidden_50 : decode cX6_hidden 50 = .ok (.aload_n 0, 1) := by decide +kernel
theorem dX6_hidden_51 : decode cX6_hidden 51 = .ok (.getfield 152, 3) := by decide +kernel
theorem dX6_hidden_54 : decode cX6_hidden 54 = .ok (.iload_n 1, 1) := by decide +kernel
theorem dX6_hidden_55 : decode cX6_hidden 55 = .ok (.iaload, 1) := by decide +kernel
theorem dX6_hidden_56 : decode cX6_hidden 56 = .ok (.ifCond .ge 6, 3) := by decide +kernel
theorem dX6_hidden_59 : decode cX6_hidden 59 = .ok (.bipush (-2), 2) := by decide +kernel
theorem dX6_hidden_61 : decode cX6_hidden 61 = .ok (.ireturn, 1) := by decide +kernel
theorem dX6_hidden_62 : decode cX6_hidden 62 = .ok (.iload_n 3, 1) := by decide +kernel
theorem dX6_hidden_63 : decode cX6_hidden 63 = .ok (.ifCond .ne 10, 3) := by decide +kernel
theorem dX6_hidden_66 : decode cX6_hidden 66 = .ok (.aload_n 0, 1) := by decide +kernel
theorem dX6_hidden_67 : decode cX6_hidden 67 = .ok (.getfield 152, 3) := by decide +kernel
theorem dX6_hidden_70 : decode cX6_hidden 70 = .ok (.iload_n 1, 1) := by decide +kernel
theorem dX6_hidden_71 : decode cX6_hidden 71 = .ok (.iaload, 1) := by decide +kernel
theorem dX6_hidden_72 : decode cX6_hidden 72 = .ok (.ireturn, 1) := by decide +kernel
theorem dX6_hidden_73 : decode cX6_hidden 73 = .ok (.iload_n 1, 1) := by decide +kernel
theorem dX6_hidden_74 : decode cX6_hidden 74 = .ok (.iload_n 2, 1) := by decide +kernel
theorem dX6_hidden_75 : decode cX6_hidden 75 = .ok (.if_icmp .ne 5, 3) := by decide +kernel
theorem dX6_hidden_78 : decode cX6_hidden 78 = .ok (.iload_n 1, 1) := by decide +kernel
theorem dX6_hidden_79 : decode cX6_hidden 79 = .ok (.ireturn, 1) := by decide +kernel
theorem dX6_hidden_80 : decode cX6_hidden 80 = .ok (.iconst 1, 1) := by decide +kernel
theorem dX6_hidden_81 : decode cX6_hidden 81 = .ok (.istore 5, 2) := by decide +kernel
theorem dX6_hidden_83 : decode cX6_hidden 83 = .ok (.aload_n 0, 1) := by decide +kernel
theorem dX6_hidden_84 : decode cX6_hidden 84 = .ok (.getfield 152, 3) := by decide +kernel
theorem dX6_hidden_87 : decode cX6_hidden 87 = .ok (.aload_n 0, 1) := by decide +kernel
theorem dX6_hidden_88 : decode cX6_hidden 88 = .ok (.iload_n 1, 1) := by decide +kernel
theorem dX6_hidden_89 : decode cX6_hidden 89 = .ok (.iload 5, 2) := by decide +kernel
theorem dX6_hidden_91 : decode cX6_hidden 91 = .ok (.invokevirtual 385, 3) := by decide +kernel
theorem dX6_hidden_94 : decode cX6_hidden 94 = .ok (.iaload, 1) := by decide +kernel
theorem dX6_hidden_95 : decode cX6_hidden 95 = .ok (.aload_n 0, 1) := by decide +kernel
theorem dX6_hidden_96 : decode cX6_hidden 96 = .ok (.getfield 152, 3) := by decide +kernel
theorem dX6_hidden_99 : decode cX6_hidden 99 = .ok (.iload_n 1, 1) := by decide +kernel
theorem dX6_hidden_100 : decode cX6_hidden 100 = .ok (.iaload, 1) := by decide +kernel
theorem dX6_hidden_101 : decode cX6_hidden 101 = .ok (.iconst 1, 1) := by decide +kernel
theorem dX6_hidden_102 : decode cX6_hidden 102 = .ok (.isub, 1) := by decide +kernel
theorem dX6_hidden_103 : decode cX6_hidden 103 = .ok (.if_icmp .eq 9, 3) := by decide +kernel
theorem dX6_hidden_106 : decode cX6_hidden 106 = .ok (.iinc 5 1, 3) := by decide +kernel
theorem dX6_hidden_109 : decode cX6_hidden 109 = .ok (.goto (-26), 3) := by decide +kernel
theorem dX6_hidden_112 : decode cX6_hidden 112 = .ok (.aload_n 0, 1) := by decide +kernel
theorem dX6_hidden_113 : decode cX6_hidden 113 = .ok (.iload_n 1, 1) := by decide +kernel
theorem dX6_hidden_114 : decode cX6_hidden 114 = .ok (.iload 5, 2) := by decide +kernel
theorem dX6_hidden_116 : decode cX6_hidden 116 = .ok (.invokevirtual 385, 3) := by decide +kernel
theorem dX6_hidden_119 : decode cX6_hidden 119 = .ok (.ireturn, 1) := by decide +kernel
abbrev rm_X6_hidden : Room := { frames := 2, cells := 0, slots := 0, locals := 44 }
def f_X6_hidden_L83 (S : St) (x1 : Int32) (z83 : Int32) : Option ((Int32) ⊕ (Int32)) :=
  (f_X6_through  S x1 z83).bind (fun (q14 : Int32) => chk (ib q14 8) (chk (ib x1 8) (if (st_A S (ky 0 66) q14.toNatClampNeg) = ((st_A S (ky 0 66) x1.toNatClampNeg) - (1 : Int32)) then (some (.inr z83)) else (some (.inl (z83 + 1))))))
def f_X6_hidden (S : St) (x1 : Int32) (x2 : Int32) (x3 : Int32) : Option (Int32 × St) :=
  (f_X6_isRoom  S x1).bind (fun (q1 : Int32) => if q1 = 0 then (some ((-1 : Int32), S)) else ((f_X6_isRoom  S x2).bind (fun (q3 : Int32) => if q3 = 0 then (some ((-1 : Int32), S)) else ((f_X6_in   x3 (0 : Int32) (1 : Int32)).bind (fun (q5 : Int32) => if q5 = 0 then (some ((-1 : Int32), S)) else ((f_X6_copies  S ).bind (fun (q7 : St) => (f_X6_watched  q7 ).bind (fun (q8 : Int32) => lt_v ((255 : Int32) &&& (q8 ^^^ (-1 : Int32))) (fun (u9 : Int32) => (f_X6_fillsFar  q7 x2 u9).bind (fun (q10 : St) => chk (ib x1 8) (if 0 ≤ (st_A q10 (ky 0 66) x1.toNatClampNeg) then (if x3 = 0 then (chk (ib x1 8) (some ((st_A q10 (ky 0 66) x1.toNatClampNeg), q10))) else (if x1 = x2 then (some (x1, q10)) else ((iter (f_X6_hidden_L83  q10 x1) FU (1 : Int32)).bind (fun (e16 : Int32) => (f_X6_through  q10 x1 e16).bind (fun (q17 : Int32) => some (q17, q10)))))) else (some ((-2 : Int32), q10)))))))))))))
set_option maxRecDepth 100000 in
set_option maxHeartbeats 4000000 in
theorem k_X6_hidden (l : Launch) (g : GG) (hg : gd wd_M g)  (hM : hs wd_M g 0 6) (S : St) (x1 : Int32) (x2 : Int32) (x3 : Int32) (q : Int32 × St) (hf : f_X6_hidden  S x1 x2 x3 = some q) : Met l yX6_hidden (Cond.code yX6_hidden cX6_hidden 6 (some .int) :: gw_tbl) rm_X6_hidden (va_Pc [.ref (gg_o g 0), .int x1, .int x2, .int x3] (wI wd_M g S)) (qc_w wd_M g q) 0 0 (aw g) := by
  refine mt_start (own := RX6) hg (by decide) rfl (Nat.le_of_ble_eq_true rfl) (fun p e s m args below meth c ls H locs cx hw hr hlk hl => ?_)
  have hx := cx.1
  have hb := cx.2.1
  have hown := cx.2.2.2.1
  have hts := cx.2.2.2.2.1
  have hl : lv_has ls 6 [(0, .ref (gg_o g 0)), (1, .int x1), (2, .int x2), (3, .int x3)] := hl
  replace hf := h_top hf
  unfold f_X6_hidden at hf
  refine lv_aload_n hx hb dX6_hidden_0 rfl (lv_at hl 0 rfl) ?_
  refine lv_iload_n hx hb dX6_hidden_1 rfl (lv_at hl 1 rfl) ?_
  refine r_V_i (As := [.int x1]) (rest := []) cx hw hf hM.2.1 (by rw [hM.1]; rfl) lk_X6_437 (fun q1 hq => k_X6_isRoom l g hg  hM S x1 q1 hq) ⟨⟨rfl, rfl⟩, Nat.le_of_ble_eq_true rfl, Nat.le_of_ble_eq_true rfl⟩ rfl hl.1 rfl (Nat.le_of_ble_eq_true rfl) dX6_hidden_2 ⟨Nat.zero_le _, Nat.zero_le _⟩ (fun q1 H locs hw hf => ?_)
  refine lv_if_eq hx hb dX6_hidden_5 (tgt := 25) rfl (fun hc2 => ?_) (fun hc2 => ?_)
  · replace hf := h_pos hc2 hf
    refine lv_iconst (v := -1) hx hb dX6_hidden_25 (by decide) ?_
    exact r_iretw cx hw hr hlk hf dX6_hidden_26
  replace hf := h_neg hc2 hf
  refine lv_aload_n hx hb dX6_hidden_8 rfl (lv_at hl 0 rfl) ?_
  refine lv_iload_n hx hb dX6_hidden_9 rfl (lv_at hl 2 rfl) ?_
  refine r_V_i (As := [.int x2]) (rest := []) cx hw hf hM.2.1 (by rw [hM.1]; rfl) lk_X6_437 (fun q3 hq => k_X6_isRoom l g hg  hM S x2 q3 hq) ⟨⟨rfl, rfl⟩, Nat.le_of_ble_eq_true rfl, Nat.le_of_ble_eq_true rfl⟩ rfl hl.1 rfl (Nat.le_of_ble_eq_true rfl) dX6_hidden_10 ⟨Nat.zero_le _, Nat.zero_le _⟩ (fun q3 H locs hw hf => ?_)
  refine lv_if_eq hx hb dX6_hidden_13 (tgt := 25) rfl (fun hc4 => ?_) (fun hc4 => ?_)
  · replace hf := h_pos hc4 hf
    refine lv_iconst (v := -1) hx hb dX6_hidden_25 (by decide) ?_
    exact r_iretw cx hw hr hlk hf dX6_hidden_26
  replace hf := h_neg hc4 hf
  refine lv_iload_n hx hb dX6_hidden_16 rfl (lv_at hl 3 rfl) ?_
  refine lv_iconst (v := 0) hx hb dX6_hidden_17 (by decide) ?_
  refine lv_iconst (v := 1) hx hb dX6_hidden_18 (by decide) ?_
  refine r_S_i (As := [.int x3, .int (0 : Int32), .int (1 : Int32)]) (rest := []) cx hw hf lk_X6_341 (fun q5 hq => k_X6_in l g hg   S x3 (0 : Int32) (1 : Int32) q5 hq) ⟨⟨rfl, rfl⟩, Nat.le_of_ble_eq_true rfl, Nat.le_of_ble_eq_true rfl⟩ rfl hl.1 rfl (Nat.le_of_ble_eq_true rfl) dX6_hidden_19 ⟨Nat.zero_le _, Nat.zero_le _⟩ (fun q5 H locs hw hf => ?_)
  refine lv_if_ne hx hb dX6_hidden_22 (tgt := 27) rfl (fun hc6 => ?_) (fun hc6 => ?_)
  · replace hf := h_neg hc6 hf
    refine lv_aload_n hx hb dX6_hidden_27 rfl (lv_at hl 0 rfl) ?_
    refine r_V_v (As := []) (rest := []) cx hw hf hM.2.1 (by rw [hM.1]; rfl) lk_X6_419 (fun q7 hq => k_X6_copies l g hg  hM S  q7 hq) ⟨⟨rfl, rfl⟩, Nat.le_of_ble_eq_true rfl, Nat.le_of_ble_eq_true rfl⟩ rfl hl.1 rfl (Nat.le_of_ble_eq_true rfl) dX6_hidden_28 ⟨Nat.zero_le _, Nat.zero_le _⟩ (fun q7 H locs hw hf => ?_)
    refine lv_sipush (v := 255) hx hb dX6_hidden_31 (by decide) ?_
    refine lv_aload_n hx hb dX6_hidden_34 rfl (lv_at hl 0 rfl) ?_
    refine r_V_i (As := []) (rest := [.int (255 : Int32)]) cx hw hf hM.2.1 (by rw [hM.1]; rfl) lk_X6_468 (fun q8 hq => k_X6_watched l g hg  hM q7  q8 hq) ⟨⟨rfl, rfl⟩, Nat.le_of_ble_eq_true rfl, Nat.le_of_ble_eq_true rfl⟩ rfl hl.1 rfl (Nat.le_of_ble_eq_true rfl) dX6_hidden_35 ⟨Nat.zero_le _, Nat.zero_le _⟩ (fun q8 H locs hw hf => ?_)
    refine lv_iconst (v := -1) hx hb dX6_hidden_38 (by decide) ?_
    refine lv_ixor hx hb dX6_hidden_39 ?_
    refine lv_iand hx hb dX6_hidden_40 ?_
    refine r_leti hf (fun u9 hf => ?_)
    refine lv_istore hx hb dX6_hidden_41 hl (by decide) (lv' := [(4, .int u9), (0, .ref (gg_o g 0)), (1, .int x1), (2, .int x2), (3, .int x3)]) rfl (fun ls hl => ?_)
    refine lv_aload_n hx hb dX6_hidden_43 rfl (lv_at hl 1 rfl) ?_
    refine lv_iload_n hx hb dX6_hidden_44 rfl (lv_at hl 3 rfl) ?_
    refine lv_iload hx hb dX6_hidden_45 (lv_at hl 0 rfl) ?_
    refine r_V_v (As := [.int x2, .int u9]) (rest := []) cx hw hf hM.2.1 (by rw [hM.1]; rfl) lk_X6_465 (fun q10 hq => k_X6_fillsFar l g hg  hM q7 x2 u9 q10 hq) ⟨⟨rfl, rfl⟩, Nat.le_of_ble_eq_true rfl, Nat.le_of_ble_eq_true rfl⟩ rfl hl.1 rfl (Nat.le_of_ble_eq_true rfl) dX6_hidden_47 ⟨Nat.zero_le _, Nat.zero_le _⟩ (fun q10 H locs hw hf => ?_)
    refine lv_aload_n hx hb dX6_hidden_50 rfl (lv_at hl 1 rfl) ?_
    refine gf_X6_152 cx hw hM dX6_hidden_51 ?_
    refine lv_iload_n hx hb dX6_hidden_54 rfl (lv_at hl 2 rfl) ?_
    refine r_iald cx hw (hM.2.2.1 66 rfl) rfl rfl hf dX6_hidden_55 (fun hf => ?_)
    refine lv_if_ge hx hb dX6_hidden_56 (tgt := 62) rfl (fun hc11 => ?_) (fun hc11 => ?_)
    · replace hf := h_pos hc11 hf
      refine lv_iload_n hx hb dX6_hidden_62 rfl (lv_at hl 4 rfl) ?_
      refine lv_if_ne hx hb dX6_hidden_63 (tgt := 73) rfl (fun hc12 => ?_) (fun hc12 => ?_)
      · replace hf := h_neg hc12 hf
        refine lv_iload_n hx hb dX6_hidden_73 rfl (lv_at hl 2 rfl) ?_
        refine lv_iload_n hx hb dX6_hidden_74 rfl (lv_at hl 3 rfl) ?_
        refine lv_icmp_ne hx hb dX6_hidden_75 (tgt := 80) rfl (fun hc13 => ?_) (fun hc13 => ?_)
        · replace hf := h_neg hc13 hf
          refine lv_iconst (v := 1) hx hb dX6_hidden_80 (by decide) ?_
          refine lv_istore hx hb dX6_hidden_81 hl (by decide) (lv' := [(5, .int (1 : Int32)), (4, .int u9), (0, .ref (gg_o g 0)), (1, .int x1), (2, .int x2), (3, .int x3)]) rfl (fun ls hl => ?_)
          have L83 : ∀ (S : St) (x1 : Int32) (aft83 : Int32 → Option (Int32 × St)), (∀ (ls : Array Slot) (H : Heap) (locs : List Loc) (e5 : Int32), lv_has ls 6 [(0, .ref (gg_o g 0)), (1, .int x1), (5, .int e5)] → HH wd_M g s S H locs → aft83 e5 = some q → W p l e rm_X6_hidden s m args below meth c H locs 0 0 (MQ below (qc_w wd_M g q) args s 0 0 (aw g)) (F0 m 112 ls [])) → ∀ (n83 : Nat) (ls : Array Slot) (H : Heap) (locs : List Loc) (z83 : Int32), lv_has ls 6 [(0, .ref (gg_o g 0)), (1, .int x1), (5, .int z83)] → HH wd_M g s S H locs → (iter (f_X6_hidden_L83  S x1) n83 z83).bind aft83 = some q → W p l e rm_X6_hidden s m args below meth c H locs 0 0 (MQ below (qc_w wd_M g q) args s 0 0 (aw g)) (F0 m 83 ls []) := by
            intro S x1 aft83 hX83 n83
            induction n83 with
            | zero => intro ls H locs z83 hl hw hf; exact h_iter0 hf
            | succ n83 ih83 =>
              intro ls H locs z83 hl hw hf
              replace hf := h_iter hf
              unfold f_X6_hidden_L83 at hf
              refine lv_aload_n hx hb dX6_hidden_83 rfl (lv_at hl 0 rfl) ?_
              refine gf_X6_152 cx hw hM dX6_hidden_84 ?_
              refine lv_aload_n hx hb dX6_hidden_87 rfl (lv_at hl 0 rfl) ?_
              refine lv_iload_n hx hb dX6_hidden_88 rfl (lv_at hl 1 rfl) ?_
              refine lv_iload hx hb dX6_hidden_89 (lv_at hl 2 rfl) ?_
              refine r_V_i (As := [.int x1, .int z83]) (rest := [.ref (gg_a g (ky 0 66))]) cx hw hf hM.2.1 (by rw [hM.1]; rfl) lk_X6_385 (fun q14 hq => k_X6_through l g hg  hM S x1 z83 q14 hq) ⟨⟨rfl, rfl⟩, Nat.le_of_ble_eq_true rfl, Nat.le_of_ble_eq_true rfl⟩ rfl hl.1 rfl (Nat.le_of_ble_eq_true rfl) dX6_hidden_91 ⟨Nat.zero_le _, Nat.zero_le _⟩ (fun q14 H locs hw hf => ?_)
              refine r_iald cx hw (hM.2.2.1 66 rfl) rfl rfl hf dX6_hidden_94 (fun hf => ?_)
              refine lv_aload_n hx hb dX6_hidden_95 rfl (lv_at hl 0 rfl) ?_
              refine gf_X6_152 cx hw hM dX6_hidden_96 ?_
              refine lv_iload_n hx hb dX6_hidden_99 rfl (lv_at hl 1 rfl) ?_
              refine r_iald cx hw (hM.2.2.1 66 rfl) rfl rfl hf dX6_hidden_100 (fun hf => ?_)
              refine lv_iconst (v := 1) hx hb dX6_hidden_101 (by decide) ?_
              refine lv_isub hx hb dX6_hidden_102 ?_
              refine lv_icmp_eq hx hb dX6_hidden_103 (tgt := 112) rfl (fun hc15 => ?_) (fun hc15 => ?_)
              · replace hf := h_pos hc15 hf
                exact hX83 _ _ _ z83 (lv_sub hl [0, 1, 2] rfl) hw hf
              replace hf := h_neg hc15 hf
              refine lv_iinc hx hb dX6_hidden_106 hl (k := 2) rfl (congrArg (HAdd.hAdd _) (show Int32.ofInt (1) = 1 by decide)) (by decide) (lv' := [(5, .int (z83 + 1)), (0, .ref (gg_o g 0)), (1, .int x1)]) rfl (fun ls hl => ?_)
              refine lv_goto hx hb dX6_hidden_109 (tgt := 83) rfl ?_
              exact ih83 _ _ _ (z83 + 1) (lv_sub hl [1, 2, 0] rfl) hw hf
          refine L83 q10 x1 _ (fun ls H locs e16 hl hw hf => ?_) FU _ _ _ (1 : Int32) (lv_sub hl [2, 3, 0] rfl) hw (h_assoc hf)
          try dsimp only at hf
          refine lv_aload_n hx hb dX6_hidden_112 rfl (lv_at hl 0 rfl) ?_
          refine lv_iload_n hx hb dX6_hidden_113 rfl (lv_at hl 1 rfl) ?_
          refine lv_iload hx hb dX6_hidden_114 (lv_at hl 2 rfl) ?_
          refine r_V_i (As := [.int x1, .int e16]) (rest := []) cx hw hf hM.2.1 (by rw [hM.1]; rfl) lk_X6_385 (fun q17 hq => k_X6_through l g hg  hM q10 x1 e16 q17 hq) ⟨⟨rfl, rfl⟩, Nat.le_of_ble_eq_true rfl, Nat.le_of_ble_eq_true rfl⟩ rfl hl.1 rfl (Nat.le_of_ble_eq_true rfl) dX6_hidden_116 ⟨Nat.zero_le _, Nat.zero_le _⟩ (fun q17 H locs hw hf => ?_)
          exact r_iretw cx hw hr hlk hf dX6_hidden_119
        replace hf := h_pos hc13 hf
        refine lv_iload_n hx hb dX6_hidden_78 rfl (lv_at hl 2 rfl) ?_
        exact r_iretw cx hw hr hlk hf dX6_hidden_79
      replace hf := h_pos hc12 hf
      refine lv_aload_n hx hb dX6_hidden_66 rfl (lv_at hl 1 rfl) ?_
      refine gf_X6_152 cx hw hM dX6_hidden_67 ?_
      refine lv_iload_n hx hb dX6_hidden_70 rfl (lv_at hl 2 rfl) ?_
      refine r_iald cx hw (hM.2.2.1 66 rfl) rfl rfl hf dX6_hidden_71 (fun hf => ?_)
      exact r_iretw cx hw hr hlk hf dX6_hidden_72
    replace hf := h_neg hc11 hf
    refine lv_bipush (v := -2) hx hb dX6_hidden_59 (by decide) ?_
    exact r_iretw cx hw hr hlk hf dX6_hidden_61
  replace hf := h_pos hc6 hf
  refine lv_iconst (v := -1) hx hb dX6_hidden_25 (by decide) ?_
  exact r_iretw cx hw hr hlk hf dX6_hidden_26
theorem dX6_seenFrom_0 : decode cX6_seenFrom 0 = .ok (.iconst 0, 1) := by decide +kernel
theorem dX6_seenFrom_1 : decode cX6_seenFrom 1 = .ok (.istore_n 2, 1) := by decide +kernel
theorem dX6_seenFrom_2 : decode cX6_seenFrom 2 = .ok (.iconst 0, 1) := by decide +kernel
theorem dX6_seenFrom_3 : decode cX6_seenFrom 3 = .ok (.istore_n 3, 1) := by decide +kernel
theorem dX6_seenFrom_4 : decode cX6_seenFrom 4 = .ok (.iload_n 3, 1) := by decide +kernel
theorem dX6_seenFrom_5 : decode cX6_seenFrom 5 = .ok (.aload_n 0, 1) := by decide +kernel
theorem dX6_seenFrom_6 : decode cX6_seenFrom 6 = .ok (.getfield 70, 3) := by decide +kernel
theorem dX6_seenFrom_9 : decode cX6_seenFrom 9 = .ok (.aload_n 0, 1) := by decide +kernel
theorem dX6_seenFrom_10 : decode cX6_seenFrom 10 = .ok (.getfield 257, 3) := by decide +kernel
theorem dX6_seenFrom_13 : decode cX6_seenFrom 13 = .ok (.iaload, 1) := by decide +kernel
theorem dX6_seenFrom_14 : decode cX6_seenFrom 14 = .ok (.if_icmp .ge 39, 3) := by decide +kernel
theorem dX6_seenFrom_17 : decode cX6_seenFrom 17 = .ok (.aload_n 0, 1) := by decide +kernel
theorem dX6_seenFrom_18 : decode cX6_seenFrom 18 = .ok (.iload_n 3, 1) := by decide +kernel
theorem dX6_seenFrom_19 : decode cX6_seenFrom 19 = .ok (.aload_n 0, 1) := by decide +kernel
theorem dX6_seenFrom_20 : decode cX6_seenFrom 20 = .ok (.getfield 348, 3) := by decide +kernel
theorem dX6_seenFrom_23 : decode cX6_seenFrom 23 = .ok (.invokevirtual 392, 3) := by decide +kernel
theorem dX6_seenFrom_26 : decode cX6_seenFrom 26 = .ok (.iload_n 1, 1) := by decide +kernel
theorem dX6_seenFrom_27 : decode cX6_seenFrom 27 = .ok (.if_icmp .ne 20, 3) := by decide +kernel
theorem dX6_seenFrom_30 : decode cX6_seenFrom 30 = .ok (.iload_n 2, 1) := by decide +kernel
theorem dX6_seenFrom_31 : decode cX6_seenFrom 31 = .ok (.aload_n 0, 1) := by decide +kernel
theorem dX6_seenFrom_32 : decode cX6_seenFrom 32 = .ok (.iload_n 3, 1) := by decide +kernel
theorem dX6_seenFrom_33 : decode cX6_seenFrom 33 = .ok (.aload_n 0, 1) := by decide +kernel
theorem dX6_seenFrom_34 : decode cX6_seenFrom 34 = .ok (.iload_n 3, 1) := by decide +kernel
theorem dX6_seenFrom_35 : decode cX6_seenFrom 35 = .ok (.aload_n 0, 1) := by decide +kernel
theorem dX6_seenFrom_36 : decode cX6_seenFrom 36 = .ok (.getfield 348, 3) := by decide +kernel
theorem dX6_seenFrom_39 : decode cX6_seenFrom 39 = .ok (.invokevirtual 395, 3) := by decide +kernel
theorem dX6_seenFrom_42 : decode cX6_seenFrom 42 = .ok (.invokevirtual 422, 3) := by decide +kernel
theorem dX6_seenFrom_45 : decode cX6_seenFrom 45 = .ok (.ior, 1) := by decide +kernel
theorem dX6_seenFrom_46 : decode cX6_seenFrom 46 = .ok (.istore_n 2, 1) := by decide +kernel
theorem dX6_seenFrom_47 : decode cX6_seenFrom 47 = .ok (.iinc 3 1, 3) := by decide +kernel
theorem dX6_seenFrom_50 : decode cX6_seenFrom 50 = .ok (.goto (-46), 3) := by decide +kernel
theorem dX6_seenFrom_53 : decode cX6_seenFrom 53 = .ok (.iload_n 2, 1) := by decide +kernel
theorem dX6_seenFrom_54 : decode cX6_seenFrom 54 = .ok (.ireturn, 1) := by decide +kernel
abbrev rm_X6_seenFrom : Room := { frames := 2, cells := 0, slots := 0, locals := 46 }
def f_X6_seenFrom_L4 (S : St) (x1 : Int32) (z4 : Int32 × Int32) : Option ((Int32 × Int32) ⊕ (Int32)) :=
  chk (ib (st_I S (ky 0 18)) 2) (if (st_A S (ky 0 31) (st_I S (ky 0 18)).toNatClampNeg) ≤ z4.2 then (some (.inr z4.1)) else ((f_X6_hungIn  S z4.2 (st_I S (ky 0 57))).bind (fun (q2 : Int32) => if q2 = x1 then ((f_X6_showsAt  S z4.2 (st_I S (ky 0 57))).bind (fun (q4 : Int32) => (f_X6_menShown  S z4.2 q4).bind (fun (q5 : Int32) => some (.inl ((z4.1 ||| q5), (z4.2 + 1)))))) else (some (.inl (z4.1, (z4.2 + 1)))))))
def f_X6_seenFrom (S : St) (x1 : Int32) : Option (Int32) :=
  iter (f_X6_seenFrom_L4  S x1) FU ((0 : Int32), (0 : Int32))
set_option maxRecDepth 100000 in
set_option maxHeartbeats 4000000 in
theorem k_X6_seenFrom (l : Launch) (g : GG) (hg : gd wd_M g)  (hM : hs wd_M g 0 6) (S : St) (x1 : Int32) (q : Int32) (hf : f_X6_seenFrom  S x1 = some q) : Met l yX6_seenFrom (Cond.code yX6_seenFrom cX6_seenFrom 4 (some .int) :: gw_tbl) rm_X6_seenFrom (va_Pc [.ref (gg_o g 0), .int x1] (wI wd_M g S)) (qc_i wd_M g S q) 0 0 (aw g) := by
  refine mt_start (own := RX6) hg (by decide) rfl (Nat.le_of_ble_eq_true rfl) (fun p e s m args below meth c ls H locs cx hw hr hlk hl => ?_)
  have hx := cx.1
  have hb := cx.2.1
  have hown := cx.2.2.2.1
  have hts := cx.2.2.2.2.1
  have hl : lv_has ls 4 [(0, .ref (gg_o g 0)), (1, .int x1)] := hl
  replace hf := h_top hf
  unfold f_X6_seenFrom at hf
  refine lv_iconst (v := 0) hx hb dX6_seenFrom_0 (by decide) ?_
  refine lv_istore_n hx hb dX6_seenFrom_1 rfl hl (by decide) (lv' := [(2, .int (0 : Int32)), (0, .ref (gg_o g 0)), (1, .int x1)]) rfl (fun ls hl => ?_)
  refine lv_iconst (v := 0) hx hb dX6_seenFrom_2 (by decide) ?_
  refine lv_istore_n hx hb dX6_seenFrom_3 rfl hl (by decide) (lv' := [(3, .int (0 : Int32)), (2, .int (0 : Int32)), (0, .ref (gg_o g 0)), (1, .int x1)]) rfl (fun ls hl => ?_)
  have L4 : ∀ (x1 : Int32) (aft4 : Int32 → Option (Int32)), (∀ v : Int32, aft4 v = some q → (some v : Option (Int32)).bind some = some q) → ∀ (n4 : Nat) (ls : Array Slot) (H : Heap) (locs : List Loc) (z4 : Int32 × Int32), lv_has ls 4 [(0, .ref (gg_o g 0)), (1, .int x1), (2, .int z4.1), (3, .int z4.2)] → HH wd_M g s S H locs → (iter (f_X6_seenFrom_L4  S x1) n4 z4).bind aft4 = some q → W p l e rm_X6_seenFrom s m args below meth c H locs 0 0 (MQ below (qc_i wd_M g S q) args s 0 0 (aw g)) (F0 m 4 ls []) := by
    intro x1 aft4 hR4 n4
    induction n4 with
    | zero => intro ls H locs z4 hl hw hf; exact h_iter0 hf
    | succ n4 ih4 =>
      intro ls H locs z4 hl hw hf
      replace hf := h_iter hf
      unfold f_X6_seenFrom_L4 at hf
      refine lv_iload_n hx hb dX6_seenFrom_4 rfl (lv_at hl 3 rfl) ?_
      refine lv_aload_n hx hb dX6_seenFrom_5 rfl (lv_at hl 0 rfl) ?_
      refine gf_X6_70 cx hw hM dX6_seenFrom_6 ?_
      refine lv_aload_n hx hb dX6_seenFrom_9 rfl (lv_at hl 0 rfl) ?_
      refine gf_X6_257 cx hw hM dX6_seenFrom_10 ?_
      refine r_iald cx hw (hM.2.2.1 31 rfl) rfl rfl hf dX6_seenFrom_13 (fun hf => ?_)
      refine lv_icmp_ge hx hb dX6_seenFrom_14 (tgt := 53) rfl (fun hc1 => ?_) (fun hc1 => ?_)
      · replace hf := h_pos hc1 hf
        refine lv_iload_n hx hb dX6_seenFrom_53 rfl (lv_at hl 2 rfl) ?_
        replace hf := hR4 z4.1 hf
        exact r_iret cx hw hr hlk hf dX6_seenFrom_54
      replace hf := h_neg hc1 hf
      refine lv_aload_n hx hb dX6_seenFrom_17 rfl (lv_at hl 0 rfl) ?_
      refine lv_iload_n hx hb dX6_seenFrom_18 rfl (lv_at hl 3 rfl) ?_
      refine lv_aload_n hx hb dX6_seenFrom_19 rfl (lv_at hl 0 rfl) ?_
      refine gf_X6_348 cx hw hM dX6_seenFrom_20 ?_
      refine r_V_i (As := [.int z4.2, .int (st_I S (ky 0 57))]) (rest := []) cx hw hf hM.2.1 (by rw [hM.1]; rfl) lk_X6_392 (fun q2 hq => k_X6_hungIn l g hg  hM S z4.2 (st_I S (ky 0 57)) q2 hq) ⟨⟨rfl, rfl⟩, Nat.le_of_ble_eq_true rfl, Nat.le_of_ble_eq_true rfl⟩ rfl hl.1 rfl (Nat.le_of_ble_eq_true rfl) dX6_seenFrom_23 ⟨Nat.zero_le _, Nat.zero_le _⟩ (fun q2 H locs hw hf => ?_)
      refine lv_iload_n hx hb dX6_seenFrom_26 rfl (lv_at hl 1 rfl) ?_
      refine lv_icmp_ne hx hb dX6_seenFrom_27 (tgt := 47) rfl (fun hc3 => ?_) (fun hc3 => ?_)
      · replace hf := h_neg hc3 hf
        refine lv_iinc hx hb dX6_seenFrom_47 hl (k := 3) rfl (congrArg (HAdd.hAdd _) (show Int32.ofInt (1) = 1 by decide)) (by decide) (lv' := [(3, .int (z4.2 + 1)), (0, .ref (gg_o g 0)), (1, .int x1), (2, .int z4.1)]) rfl (fun ls hl => ?_)
        refine lv_goto hx hb dX6_seenFrom_50 (tgt := 4) rfl ?_
        exact ih4 _ _ _ (z4.1, (z4.2 + 1)) (lv_sub hl [1, 2, 3, 0] rfl) hw hf
      replace hf := h_pos hc3 hf
      refine lv_iload_n hx hb dX6_seenFrom_30 rfl (lv_at hl 2 rfl) ?_
      refine lv_aload_n hx hb dX6_seenFrom_31 rfl (lv_at hl 0 rfl) ?_
      refine lv_iload_n hx hb dX6_seenFrom_32 rfl (lv_at hl 3 rfl) ?_
      refine lv_aload_n hx hb dX6_seenFrom_33 rfl (lv_at hl 0 rfl) ?_
      refine lv_iload_n hx hb dX6_seenFrom_34 rfl (lv_at hl 3 rfl) ?_
      refine lv_aload_n hx hb dX6_seenFrom_35 rfl (lv_at hl 0 rfl) ?_
      refine gf_X6_348 cx hw hM dX6_seenFrom_36 ?_
      refine r_V_i (As := [.int z4.2, .int (st_I S (ky 0 57))]) (rest := [.int z4.2, .ref (gg_o g 0), .int z4.1]) cx hw hf hM.2.1 (by rw [hM.1]; rfl) lk_X6_395 (fun q4 hq => k_X6_showsAt l g hg  hM S z4.2 (st_I S (ky 0 57)) q4 hq) ⟨⟨rfl, rfl⟩, Nat.le_of_ble_eq_true rfl, Nat.le_of_ble_eq_true rfl⟩ rfl hl.1 rfl (Nat.le_of_ble_eq_true rfl) dX6_seenFrom_39 ⟨Nat.zero_le _, Nat.zero_le _⟩ (fun q4 H locs hw hf => ?_)
      refine r_V_i (As := [.int z4.2, .int q4]) (rest := [.int z4.1]) cx hw hf hM.2.1 (by rw [hM.1]; rfl) lk_X6_422 (fun q5 hq => k_X6_menShown l g hg  hM S z4.2 q4 q5 hq) ⟨⟨rfl, rfl⟩, Nat.le_of_ble_eq_true rfl, Nat.le_of_ble_eq_true rfl⟩ rfl hl.1 rfl (Nat.le_of_ble_eq_true rfl) dX6_seenFrom_42 ⟨Nat.zero_le _, Nat.zero_le _⟩ (fun q5 H locs hw hf => ?_)
      refine lv_ior hx hb dX6_seenFrom_45 ?_
      refine lv_istore_n hx hb dX6_seenFrom_46 rfl hl (by decide) (lv' := [(2, .int (z4.1 ||| q5)), (0, .ref (gg_o g 0)), (1, .int x1), (3, .int z4.2)]) rfl (fun ls hl => ?_)
      refine lv_iinc hx hb dX6_seenFrom_47 hl (k := 3) rfl (congrArg (HAdd.hAdd _) (show Int32.ofInt (1) = 1 by decide)) (by decide) (lv' := [(3, .int (z4.2 + 1)), (2, .int (z4.1 ||| q5)), (0, .ref (gg_o g 0)), (1, .int x1)]) rfl (fun ls hl => ?_)
      refine lv_goto hx hb dX6_seenFrom_50 (tgt := 4) rfl ?_
      exact ih4 _ _ _ ((z4.1 ||| q5), (z4.2 + 1)) (lv_sub hl [2, 3, 1, 0] rfl) hw hf
  exact L4 x1 some (fun v h => h) FU _ _ _ ((0 : Int32), (0 : Int32)) (lv_sub hl [2, 3, 1, 0] rfl) hw hf
theorem dX6_stand_0 : decode cX6_stand 0 = .ok (.iload_n 1, 1) := by decide +kernel
theorem dX6_stand_1 : decode cX6_stand 1 = .ok (.iconst 0, 1) := by decide +kernel
theorem dX6_stand_2 : decode cX6_stand 2 = .ok (.iconst 1, 1) := by decide +kernel
theorem dX6_stand_3 : decode cX6_stand 3 = .ok (.invokestatic 341, 3) := by decide +kernel
theorem dX6_stand_6 : decode cX6_stand 6 = .ok (.ifCond .ne 5, 3) := by decide +kernel
theorem dX6_stand_9 : decode cX6_stand 9 = .ok (.iconst (-1), 1) := by decide +kernel
theorem dX6_stand_10 : decode cX6_stand 10 = .ok (.ireturn, 1) := by decide +kernel
theorem dX6_stand_11 : decode cX6_stand 11 = .ok (.aload_n 0, 1) := by decide +kernel
theorem dX6_stand_12 : decode cX6_stand 12 = .ok (.getfield 49, 3) := by decide +kernel
theorem dX6_stand_15 : decode cX6_stand 15 = .ok (.aload_n 0, 1) := by decide +kernel
theorem dX6_stand_16 : decode cX6_stand 16 = .ok (.getfield 257, 3) := by decide +kernel
theorem dX6_stand_19 : decode cX6_stand 19 = .ok (.iaload, 1) := by decide +kernel
theorem dX6_stand_20 : decode cX6_stand 20 = .ok (.ifCond .ne 6, 3) := by decide +kernel
theorem dX6_stand_23 : decode cX6_stand 23 = .ok (.bipush (-2), 2) := by decide +kernel
theorem dX6_stand_25 : decode cX6_stand 25 = .ok (.ireturn, 1) := by decide +kernel
theorem dX6_stand_26 : decode cX6_stand 26 = .ok (.aload_n 0, 1) := by decide +kernel
theorem dX6_stand_27 : decode cX6_stand 27 = .ok (.invokevirtual 419, 3) := by decide +kernel
theorem dX6_stand_30 : decode cX6_stand 30 = .ok (.iconst 0, 1) := by decide +kernel
theorem dX6_stand_31 : decode cX6_stand 31 = .ok (.istore_n 2, 1) := by decide +kernel
theorem dX6_stand_32 : decode cX6_stand 32 = .ok (.iconst 1, 1) := by decide +kernel
theorem dX6_stand_33 : decode cX6_stand 33 = .ok (.istore_n 3, 1) := by decide +kernel
theorem dX6_stand_34 : decode cX6_stand 34 = .ok (.iload_n 3, 1) := by decide +kernel
theorem dX6_stand_35 : decode cX6_stand 35 = .ok (.aload_n 0, 1) := by decide +kernel
theorem dX6_stand_36 : decode cX6_stand 36 = .ok (.getfield 49, 3) := by decide +kernel
theorem dX6_stand_39 : decode cX6_stand 39 = .ok (.aload_n 0, 1) := by decide +kernel
theorem dX6_stand_40 : decode cX6_stand 40 = .ok (.getfield 257, 3) := by decide +kernel
theorem dX6_stand_43 : decode cX6_stand 43 = .ok (.iaload, 1) := by decide +kernel
theorem dX6_stand_44 : decode cX6_stand 44 = .ok (.if_icmp .ge 30, 3) := by decide +kernel
theorem dX6_stand_47 : decode cX6_stand 47 = .ok (.aload_n 0, 1) := by decide +kernel
theorem dX6_stand_48 : decode cX6_stand 48 = .ok (.iload_n 3, 1) := by decide +kernel
theorem dX6_stand_49 : decode cX6_stand 49 = .ok (.invokevirtual 471, 3) := by decide +kernel
theorem dX6_stand_52 : decode cX6_stand 52 = .ok (.invokestatic 369, 3) := by decide +kernel
theorem dX6_stand_55 : decode cX6_stand 55 = .ok (.aload_n 0, 1) := by decide +kernel
theorem dX6_stand_56 : decode cX6_stand 56 = .ok (.iload_n 2, 1) := by decide +kernel
theorem dX6_stand_57 : decode cX6_stand 57 = .ok (.invokevirtual 471, 3) := by decide +kernel
theorem dX6_stand_60 : decode cX6_stand 60 = .ok (.invokestatic 369, 3) := by decide +kernel
theorem dX6_stand_63 : decode cX6_stand 63 = .ok (.if_icmp .le 5, 3) := by decide +kernel
theorem dX6_stand_66 : decode cX6_stand 66 = .ok (.iload_n 3, 1) := by decide +kernel
theorem dX6_stand_67 : decode cX6_stand 67 = .ok (.istore_n 2, 1) := by decide +kernel
theorem dX6_stand_68 : decode cX6_stand 68 = .ok (.iinc 3 1, 3) := by decide +kernel
theorem dX6_stand_71 : decode cX6_stand 71 = .ok (.goto (-37), 3) := by decide +kernel
theorem dX6_stand_74 : decode cX6_stand 74 = .ok (.iload_n 1, 1) := by decide +kernel
theorem dX6_stand_75 : decode cX6_stand 75 = .ok (.ifCond .ne 7, 3) := by decide +kernel
theorem dX6_stand_78 : decode cX6_stand 78 = .ok (.iload_n 2, 1) := by decide +kernel
theorem dX6_stand_79 : decode cX6_stand 79 = .ok (.goto 11, 3) := by decide +kernel
theorem dX6_stand_82 : decode cX6_stand 82 = .ok (.aload_n 0, 1) := by decide +kernel
theorem dX6_stand_83 : decode cX6_stand 83 = .ok (.iload_n 2, 1) := by decide +kernel
theorem dX6_stand_84 : decode cX6_stand 84 = .ok (.invokevirtual 471, 3) := by decide +kernel
theorem dX6_stand_87 : decode cX6_stand 87 = .ok (.invokestatic 369, 3) := by decide +kernel
theorem dX6_stand_90 : decode cX6_stand 90 = .ok (.ireturn, 1) := by decide +kernel
abbrev rm_X6_stand : Room := { frames := 3, cells := 0, slots := 0, locals := 69 }
def f_X6_stand_L34 (S : St) (x1 : Int32) (z34 : Int32 × Int32) : Option ((Int32 × Int32) ⊕ (Int32)) :=
  chk (ib (st_I S (ky 0 18)) 2) (if (st_A S (ky 0 24) (st_I S (ky 0 18)).toNatClampNeg) ≤ z34.2 then (some (.inr z34.1)) else ((f_X6_seenFrom  S z34.2).bind (fun (q6 : Int32) => (f_X6_bits   q6).bind (fun (q7 : Int32) => (f_X6_seenFrom  S z34.1).bind (fun (q8 : Int32) => (f_X6_bits   q8).bind (fun (q9 : Int32) => if q7 ≤ q9 then (some (.inl (z34.1, (z34.2 + 1)))) else (some (.inl (z34.2, (z34.2 + 1))))))))))
def f_X6_stand (S : St) (x1 : Int32) : Option (Int32 × St) :=
  (f_X6_in   x1 (0 : Int32) (1 : Int32)).bind (fun (q1 : Int32) => if q1 = 0 then (some ((-1 : Int32), S)) else (chk (ib (st_I S (ky 0 18)) 2) (if (st_A S (ky 0 24) (st_I S (ky 0 18)).toNatClampNeg) = 0 then (some ((-2 : Int32), S)) else ((f_X6_copies  S ).bind (fun (q4 : St) => (iter (f_X6_stand_L34  q4 x1) FU ((0 : Int32), (1 : Int32))).bind (fun (e11 : Int32) => if x1 = 0 then (some (e11, q4)) else ((f_X6_seenFrom  q4 e11).bind (fun (q13 : Int32) => (f_X6_bits   q13).bind (fun (q14 : Int32) => some (q14, q4))))))))))
set_option maxRecDepth 100000 in
set_option maxHeartbeats 4000000 in
theorem k_X6_stand (l : Launch) (g : GG) (hg : gd wd_M g)  (hM : hs wd_M g 0 6) (S : St) (x1 : Int32) (q : Int32 × St) (hf : f_X6_stand  S x1 = some q) : Met l yX6_stand (Cond.code yX6_stand cX6_stand 4 (some .int) :: gw_tbl) rm_X6_stand (va_Pc [.ref (gg_o g 0), .int x1] (wI wd_M g S)) (qc_w wd_M g q) 0 0 (aw g) := by
  refine mt_start (own := RX6) hg (by decide) rfl (Nat.le_of_ble_eq_true rfl) (fun p e s m args below meth c ls H locs cx hw hr hlk hl => ?_)
  have hx := cx.1
  have hb := cx.2.1
  have hown := cx.2.2.2.1
  have hts := cx.2.2.2.2.1
  have hl : lv_has ls 4 [(0, .ref (gg_o g 0)), (1, .int x1)] := hl
  replace hf := h_top hf
  unfold f_X6_stand at hf
  refine lv_iload_n hx hb dX6_stand_0 rfl (lv_at hl 1 rfl) ?_
  refine lv_iconst (v := 0) hx hb dX6_stand_1 (by decide) ?_
  refine lv_iconst (v := 1) hx hb dX6_stand_2 (by decide) ?_
  refine r_S_i (As := [.int x1, .int (0 : Int32), .int (1 : Int32)]) (rest := []) cx hw hf lk_X6_341 (fun q1 hq => k_X6_in l g hg   S x1 (0 : Int32) (1 : Int32) q1 hq) ⟨⟨rfl, rfl⟩, Nat.le_of_ble_eq_true rfl, Nat.le_of_ble_eq_true rfl⟩ rfl hl.1 rfl (Nat.le_of_ble_eq_true rfl) dX6_stand_3 ⟨Nat.zero_le _, Nat.zero_le _⟩ (fun q1 H locs hw hf => ?_)
  refine lv_if_ne hx hb dX6_stand_6 (tgt := 11) rfl (fun hc2 => ?_) (fun hc2 => ?_)
  · replace hf := h_neg hc2 hf
    refine lv_aload_n hx hb dX6_stand_11 rfl (lv_at hl 0 rfl) ?_
    refine gf_X6_49 cx hw hM dX6_stand_12 ?_
    refine lv_aload_n hx hb dX6_stand_15 rfl (lv_at hl 0 rfl) ?_
    refine gf_X6_257 cx hw hM dX6_stand_16 ?_
    refine r_iald cx hw (hM.2.2.1 24 rfl) rfl rfl hf dX6_stand_19 (fun hf => ?_)
    refine lv_if_ne hx hb dX6_stand_20 (tgt := 26) rfl (fun hc3 => ?_) (fun hc3 => ?_)
    · replace hf := h_neg hc3 hf
      refine lv_aload_n hx hb dX6_stand_26 rfl (lv_at hl 0 rfl) ?_
      refine r_V_v (As := []) (rest := []) cx hw hf hM.2.1 (by rw [hM.1]; rfl) lk_X6_419 (fun q4 hq => k_X6_copies l g hg  hM S  q4 hq) ⟨⟨rfl, rfl⟩, Nat.le_of_ble_eq_true rfl, Nat.le_of_ble_eq_true rfl⟩ rfl hl.1 rfl (Nat.le_of_ble_eq_true rfl) dX6_stand_27 ⟨Nat.zero_le _, Nat.zero_le _⟩ (fun q4 H locs hw hf => ?_)
      refine lv_iconst (v := 0) hx hb dX6_stand_30 (by decide) ?_
      refine lv_istore_n hx hb dX6_stand_31 rfl hl (by decide) (lv' := [(2, .int (0 : Int32)), (0, .ref (gg_o g 0)), (1, .int x1)]) rfl (fun ls hl => ?_)
      refine lv_iconst (v := 1) hx hb dX6_stand_32 (by decide) ?_
      refine lv_istore_n hx hb dX6_stand_33 rfl hl (by decide) (lv' := [(3, .int (1 : Int32)), (2, .int (0 : Int32)), (0, .ref (gg_o g 0)), (1, .int x1)]) rfl (fun ls hl => ?_)
      have L34 : ∀ (S : St) (x1 : Int32) (aft34 : Int32 → Option (Int32 × St)), (∀ (ls : Array Slot) (H : Heap) (locs : List Loc) (e2 : Int32), lv_has ls 4 [(0, .ref (gg_o g 0)), (1, .int x1), (2, .int e2)] → HH wd_M g s S H locs → aft34 e2 = some q → W p l e rm_X6_stand s m args below meth c H locs 0 0 (MQ below (qc_w wd_M g q) args s 0 0 (aw g)) (F0 m 74 ls [])) → ∀ (n34 : Nat) (ls : Array Slot) (H : Heap) (locs : List Loc) (z34 : Int32 × Int32), lv_has ls 4 [(0, .ref (gg_o g 0)), (1, .int x1), (2, .int z34.1), (3, .int z34.2)] → HH wd_M g s S H locs → (iter (f_X6_stand_L34  S x1) n34 z34).bind aft34 = some q → W p l e rm_X6_stand s m args below meth c H locs 0 0 (MQ below (qc_w wd_M g q) args s 0 0 (aw g)) (F0 m 34 ls []) := by
        intro S x1 aft34 hX34 n34
        induction n34 with
        | zero => intro ls H locs z34 hl hw hf; exact h_iter0 hf
        | succ n34 ih34 =>
          intro ls H locs z34 hl hw hf
          replace hf := h_iter hf
          unfold f_X6_stand_L34 at hf
          refine lv_iload_n hx hb dX6_stand_34 rfl (lv_at hl 3 rfl) ?_
          refine lv_aload_n hx hb dX6_stand_35 rfl (lv_at hl 0 rfl) ?_
          refine gf_X6_49 cx hw hM dX6_stand_36 ?_
          refine lv_aload_n hx hb dX6_stand_39 rfl (lv_at hl 0 rfl) ?_
          refine gf_X6_257 cx hw hM dX6_stand_40 ?_
          refine r_iald cx hw (hM.2.2.1 24 rfl) rfl rfl hf dX6_stand_43 (fun hf => ?_)
          refine lv_icmp_ge hx hb dX6_stand_44 (tgt := 74) rfl (fun hc5 => ?_) (fun hc5 => ?_)
          · replace hf := h_pos hc5 hf
            exact hX34 _ _ _ z34.1 (lv_sub hl [0, 1, 2] rfl) hw hf
          replace hf := h_neg hc5 hf
          refine lv_aload_n hx hb dX6_stand_47 rfl (lv_at hl 0 rfl) ?_
          refine lv_iload_n hx hb dX6_stand_48 rfl (lv_at hl 3 rfl) ?_
          refine r_V_i (As := [.int z34.2]) (rest := []) cx hw hf hM.2.1 (by rw [hM.1]; rfl) lk_X6_471 (fun q6 hq => k_X6_seenFrom l g hg  hM S z34.2 q6 hq) ⟨⟨rfl, rfl⟩, Nat.le_of_ble_eq_true rfl, Nat.le_of_ble_eq_true rfl⟩ rfl hl.1 rfl (Nat.le_of_ble_eq_true rfl) dX6_stand_49 ⟨Nat.zero_le _, Nat.zero_le _⟩ (fun q6 H locs hw hf => ?_)
          refine r_S_i (As := [.int q6]) (rest := []) cx hw hf lk_X6_369 (fun q7 hq => k_X6_bits l g hg   S q6 q7 hq) ⟨⟨rfl, rfl⟩, Nat.le_of_ble_eq_true rfl, Nat.le_of_ble_eq_true rfl⟩ rfl hl.1 rfl (Nat.le_of_ble_eq_true rfl) dX6_stand_52 ⟨Nat.zero_le _, Nat.zero_le _⟩ (fun q7 H locs hw hf => ?_)
          refine lv_aload_n hx hb dX6_stand_55 rfl (lv_at hl 0 rfl) ?_
          refine lv_iload_n hx hb dX6_stand_56 rfl (lv_at hl 2 rfl) ?_
          refine r_V_i (As := [.int z34.1]) (rest := [.int q7]) cx hw hf hM.2.1 (by rw [hM.1]; rfl) lk_X6_471 (fun q8 hq => k_X6_seenFrom l g hg  hM S z34.1 q8 hq) ⟨⟨rfl, rfl⟩, Nat.le_of_ble_eq_true rfl, Nat.le_of_ble_eq_true rfl⟩ rfl hl.1 rfl (Nat.le_of_ble_eq_true rfl) dX6_stand_57 ⟨Nat.zero_le _, Nat.zero_le _⟩ (fun q8 H locs hw hf => ?_)
          refine r_S_i (As := [.int q8]) (rest := [.int q7]) cx hw hf lk_X6_369 (fun q9 hq => k_X6_bits l g hg   S q8 q9 hq) ⟨⟨rfl, rfl⟩, Nat.le_of_ble_eq_true rfl, Nat.le_of_ble_eq_true rfl⟩ rfl hl.1 rfl (Nat.le_of_ble_eq_true rfl) dX6_stand_60 ⟨Nat.zero_le _, Nat.zero_le _⟩ (fun q9 H locs hw hf => ?_)
          refine lv_icmp_le hx hb dX6_stand_63 (tgt := 68) rfl (fun hc10 => ?_) (fun hc10 => ?_)
          · replace hf := h_pos hc10 hf
            refine lv_iinc hx hb dX6_stand_68 hl (k := 3) rfl (congrArg (HAdd.hAdd _) (show Int32.ofInt (1) = 1 by decide)) (by decide) (lv' := [(3, .int (z34.2 + 1)), (0, .ref (gg_o g 0)), (1, .int x1), (2, .int z34.1)]) rfl (fun ls hl => ?_)
            refine lv_goto hx hb dX6_stand_71 (tgt := 34) rfl ?_
            exact ih34 _ _ _ (z34.1, (z34.2 + 1)) (lv_sub hl [1, 2, 3, 0] rfl) hw hf
          replace hf := h_neg hc10 hf
          refine lv_iload_n hx hb dX6_stand_66 rfl (lv_at hl 3 rfl) ?_
          refine lv_istore_n hx hb dX6_stand_67 rfl hl (by decide) (lv' := [(2, .int z34.2), (0, .ref (gg_o g 0)), (1, .int x1), (3, .int z34.2)]) rfl (fun ls hl => ?_)
          refine lv_iinc hx hb dX6_stand_68 hl (k := 3) rfl (congrArg (HAdd.hAdd _) (show Int32.ofInt (1) = 1 by decide)) (by decide) (lv' := [(3, .int (z34.2 + 1)), (2, .int z34.2), (0, .ref (gg_o g 0)), (1, .int x1)]) rfl (fun ls hl => ?_)
          refine lv_goto hx hb dX6_stand_71 (tgt := 34) rfl ?_
          exact ih34 _ _ _ (z34.2, (z34.2 + 1)) (lv_sub hl [2, 3, 1, 0] rfl) hw hf
      refine L34 q4 x1 _ (fun ls H locs e11 hl hw hf => ?_) FU _ _ _ ((0 : Int32), (1 : Int32)) (lv_sub hl [2, 3, 1, 0] rfl) hw (h_assoc hf)
      try dsimp only at hf
      refine lv_iload_n hx hb dX6_stand_74 rfl (lv_at hl 1 rfl) ?_
      refine lv_if_ne hx hb dX6_stand_75 (tgt := 82) rfl (fun hc12 => ?_) (fun hc12 => ?_)
      · replace hf := h_neg hc12 hf
        refine lv_aload_n hx hb dX6_stand_82 rfl (lv_at hl 0 rfl) ?_
        refine lv_iload_n hx hb dX6_stand_83 rfl (lv_at hl 2 rfl) ?_
        refine r_V_i (As := [.int e11]) (rest := []) cx hw hf hM.2.1 (by rw [hM.1]; rfl) lk_X6_471 (fun q13 hq => k_X6_seenFrom l g hg  hM q4 e11 q13 hq) ⟨⟨rfl, rfl⟩, Nat.le_of_ble_eq_true rfl, Nat.le_of_ble_eq_true rfl⟩ rfl hl.1 rfl (Nat.le_of_ble_eq_true rfl) dX6_stand_84 ⟨Nat.zero_le _, Nat.zero_le _⟩ (fun q13 H locs hw hf => ?_)
        refine r_S_i (As := [.int q13]) (rest := []) cx hw hf lk_X6_369 (fun q14 hq => k_X6_bits l g hg   q4 q13 q14 hq) ⟨⟨rfl, rfl⟩, Nat.le_of_ble_eq_true rfl, Nat.le_of_ble_eq_true rfl⟩ rfl hl.1 rfl (Nat.le_of_ble_eq_true rfl) dX6_stand_87 ⟨Nat.zero_le _, Nat.zero_le _⟩ (fun q14 H locs hw hf => ?_)
        exact r_iretw cx hw hr hlk hf dX6_stand_90
      replace hf := h_pos hc12 hf
      refine lv_iload_n hx hb dX6_stand_78 rfl (lv_at hl 2 rfl) ?_
      refine lv_goto hx hb dX6_stand_79 (tgt := 90) rfl ?_
      exact r_iretw cx hw hr hlk hf dX6_stand_90
    replace hf := h_pos hc3 hf
    refine lv_bipush (v := -2) hx hb dX6_stand_23 (by decide) ?_
    exact r_iretw cx hw hr hlk hf dX6_stand_25
  replace hf := h_pos hc2 hf
  refine lv_iconst (v := -1) hx hb dX6_stand_9 (by decide) ?_
  exact r_iretw cx hw hr hlk hf dX6_stand_10
theorem dX6_hasIn_0 : decode cX6_hasIn 0 = .ok (.aload_n 0, 1) := by decide +kernel
theorem dX6_hasIn_1 : decode cX6_hasIn 1 = .ok (.iload_n 1, 1) := by decide +kernel
theorem dX6_hasIn_2 : decode cX6_hasIn 2 = .ok (.invokevirtual 471, 3) := by decide +kernel
theorem dX6_hasIn_5 : decode cX6_hasIn 5 = .ok (.iload_n 3, 1) := by decide +kernel
theorem dX6_hasIn_6 : decode cX6_hasIn 6 = .ok (.iconst (-1), 1) := by decide +kernel
theorem dX6_hasIn_7 : decode cX6_hasIn 7 = .ok (.ixor, 1) := by decide +kernel
theorem dX6_hasIn_8 : decode cX6_hasIn 8 = .ok (.iand, 1) := by decide +kernel
theorem dX6_hasIn_9 : decode cX6_hasIn 9 = .ok (.invokestatic 369, 3) := by decide +kernel
theorem dX6_hasIn_12 : decode cX6_hasIn 12 = .ok (.iload_n 1, 1) := by decide +kernel
theorem dX6_hasIn_13 : decode cX6_hasIn 13 = .ok (.iload_n 2, 1) := by decide +kernel
theorem dX6_hasIn_14 : decode cX6_hasIn 14 = .ok (.if_icmp .ne 7, 3) := by decide +kernel
theorem dX6_hasIn_17 : decode cX6_hasIn 17 = .ok (.iconst 2, 1) := by decide +kernel
theorem dX6_hasIn_18 : decode cX6_hasIn 18 = .ok (.goto 4, 3) := by decide +kernel
theorem dX6_hasIn_21 : decode cX6_hasIn 21 = .ok (.iconst 0, 1) := by decide +kernel
theorem dX6_hasIn_22 : decode cX6_hasIn 22 = .ok (.isub, 1) := by decide +kernel
theorem dX6_hasIn_23 : decode cX6_hasIn 23 = .ok (.ireturn, 1) := by decide +kernel
abbrev rm_X6_hasIn : Room := { frames := 3, cells := 0, slots := 0, locals := 69 }
def f_X6_hasIn (S : St) (x1 : Int32) (x2 : Int32) (x3 : Int32) : Option (Int32) :=
  (f_X6_seenFrom  S x1).bind (fun (q1 : Int32) => (f_X6_bits   (q1 &&& (x3 ^^^ (-1 : Int32)))).bind (fun (q2 : Int32) => if x1 = x2 then (some (q2 - (2 : Int32))) else (some (q2 - (0 : Int32)))))
set_option maxRecDepth 100000 in
set_option maxHeartbeats 4000000 in
theorem k_X6_hasIn (l : Launch) (g : GG) (hg : gd wd_M g)  (hM : hs wd_M g 0 6) (S : St) (x1 : Int32) (x2 : Int32) (x3 : Int32) (q : Int32) (hf : f_X6_hasIn  S x1 x2 x3 = some q) : Met l yX6_hasIn (Cond.code yX6_hasIn cX6_hasIn 4 (some .int) :: gw_tbl) rm_X6_hasIn (va_Pc [.ref (gg_o g 0), .int x1, .int x2, .int x3] (wI wd_M g S)) (qc_i wd_M g S q) 0 0 (aw g) := by
  refine mt_start (own := RX6) hg (by decide) rfl (Nat.le_of_ble_eq_true rfl) (fun p e s m args below meth c ls H locs cx hw hr hlk hl => ?_)
  have hx := cx.1
  have hb := cx.2.1
  have hown := cx.2.2.2.1
  have hts := cx.2.2.2.2.1
  have hl : lv_has ls 4 [(0, .ref (gg_o g 0)), (1, .int x1), (2, .int x2), (3, .int x3)] := hl
  replace hf := h_top hf
  unfold f_X6_hasIn at hf
  refine lv_aload_n hx hb dX6_hasIn_0 rfl (lv_at hl 0 rfl) ?_
  refine lv_iload_n hx hb dX6_hasIn_1 rfl (lv_at hl 1 rfl) ?_
  refine r_V_i (As := [.int x1]) (rest := []) cx hw hf hM.2.1 (by rw [hM.1]; rfl) lk_X6_471 (fun q1 hq => k_X6_seenFrom l g hg  hM S x1 q1 hq) ⟨⟨rfl, rfl⟩, Nat.le_of_ble_eq_true rfl, Nat.le_of_ble_eq_true rfl⟩ rfl hl.1 rfl (Nat.le_of_ble_eq_true rfl) dX6_hasIn_2 ⟨Nat.zero_le _, Nat.zero_le _⟩ (fun q1 H locs hw hf => ?_)
  refine lv_iload_n hx hb dX6_hasIn_5 rfl (lv_at hl 3 rfl) ?_
  refine lv_iconst (v := -1) hx hb dX6_hasIn_6 (by decide) ?_
  refine lv_ixor hx hb dX6_hasIn_7 ?_
  refine lv_iand hx hb dX6_hasIn_8 ?_
  refine r_S_i (As := [.int (q1 &&& (x3 ^^^ (-1 : Int32)))]) (rest := []) cx hw hf lk_X6_369 (fun q2 hq => k_X6_bits l g hg   S (q1 &&& (x3 ^^^ (-1 : Int32))) q2 hq) ⟨⟨rfl, rfl⟩, Nat.le_of_ble_eq_true rfl, Nat.le_of_ble_eq_true rfl⟩ rfl hl.1 rfl (Nat.le_of_ble_eq_true rfl) dX6_hasIn_9 ⟨Nat.zero_le _, Nat.zero_le _⟩ (fun q2 H locs hw hf => ?_)
  refine lv_iload_n hx hb dX6_hasIn_12 rfl (lv_at hl 1 rfl) ?_
  refine lv_iload_n hx hb dX6_hasIn_13 rfl (lv_at hl 2 rfl) ?_
  refine lv_icmp_ne hx hb dX6_hasIn_14 (tgt := 21) rfl (fun hc3 => ?_) (fun hc3 => ?_)
  · replace hf := h_neg hc3 hf
    refine lv_iconst (v := 0) hx hb dX6_hasIn_21 (by decide) ?_
    refine lv_isub hx hb dX6_hasIn_22 ?_
    exact r_iret cx hw hr hlk hf dX6_hasIn_23
  replace hf := h_pos hc3 hf
  refine lv_iconst (v := 2) hx hb dX6_hasIn_17 (by decide) ?_
  refine lv_goto hx hb dX6_hasIn_18 (tgt := 22) rfl ?_
  refine lv_isub hx hb dX6_hasIn_22 ?_
  exact r_iret cx hw hr hlk hf dX6_hasIn_23
theorem dX6_isResting_0 : decode cX6_isResting 0 = .ok (.iconst 0, 1) := by decide +kernel
theorem dX6_isResting_1 : decode cX6_isResting 1 = .ok (.istore 4, 2) := by decide +kernel
theorem dX6_isResting_3 : decode cX6_isResting 3 = .ok (.iload 4, 2) := by decide +kernel
theorem dX6_isResting_5 : decode cX6_isResting 5 = .ok (.aload_n 0, 1) := by decide +kernel
theorem dX6_isResting_6 : decode cX6_isResting 6 = .ok (.getfield 49, 3) := by decide +kernel
theorem dX6_isResting_9 : decode cX6_isResting 9 = .ok (.aload_n 0, 1) := by decide +kernel
theorem dX6_isResting_10 : decode cX6_isResting 10 = .ok (.getfield 257, 3) := by decide +kernel
theorem dX6_isResting_13 : decode cX6_isResting 13 = .ok (.iaload, 1) := by decide +kernel
theorem dX6_isResting_14 : decode cX6_isResting 14 = .ok (.if_icmp .ge 47, 3) := by decide +kernel
theorem dX6_isResting_17 : decode cX6_isResting 17 = .ok (.aload_n 0, 1) := by decide +kernel
theorem dX6_isResting_18 : decode cX6_isResting 18 = .ok (.iload 4, 2) := by decide +kernel
theorem dX6_isResting_20 : decode cX6_isResting 20 = .ok (.iload_n 2, 1) := by decide +kernel
theorem dX6_isResting_21 : decode cX6_isResting 21 = .ok (.iload_n 3, 1) := by decide +kernel
theorem dX6_isResting_22 : decode cX6_isResting 22 = .ok (.invokevirtual 474, 3) := by decide +kernel
theorem dX6_isResting_25 : decode cX6_isResting 25 = .ok (.aload_n 0, 1) := by decide +kernel
theorem dX6_isResting_26 : decode cX6_isResting 26 = .ok (.iload_n 1, 1) := by decide +kernel
theorem dX6_isResting_27 : decode cX6_isResting 27 = .ok (.iload_n 2, 1) := by decide +kernel
theorem dX6_isResting_28 : decode cX6_isResting 28 = .ok (.iload_n 3, 1) := by decide +kernel
theorem dX6_isResting_29 : decode cX6_isResting 29 = .ok (.invokevirtual 474, 3) := by decide +kernel
theorem dX6_isResting_32 : decode cX6_isResting 32 = .ok (.if_icmp .gt 21, 3) := by decide +kernel
theorem dX6_isResting_35 : decode cX6_isResting 35 = .ok (.aload_n 0, 1) := by decide +kernel
theorem dX6_isResting_36 : decode cX6_isResting 36 = .ok (.iload 4, 2) := by decide +kernel
theorem dX6_isResting_38 : decode cX6_isResting 38 = .ok (.iload_n 1, 1) := by decide +kernel
theorem dX6_isResting_39 : decode cX6_isResting 39 = .ok (.iload_n 3, 1) := by decide +kernel
theorem dX6_isResting_40 : decode cX6_isResting 40 = .ok (.invokevirtual 474, 3) := by decide +kernel
theorem dX6_isResting_43 : decode cX6_isResting 43 = .ok (.aload_n 0, 1) := by decide +kernel
theorem dX6_isResting_44 : decode cX6_isResting 44 = .ok (.iload_n 2, 1) := by decide +kernel
theorem dX6_isResting_45 : decode cX6_isResting 45 = .ok (.iload_n 1, 1) := by decide +kernel
theorem dX6_isResting_46 : decode cX6_isResting 46 = .ok (.iload_n 3, 1) := by decide +kernel
theorem dX6_isResting_47 : decode cX6_isResting 47 = .ok (.invokevirtual 474, 3) := by decide +kernel
theorem dX6_isResting_50 : decode cX6_isResting 50 = .ok (.if_icmp .le 5, 3) := by decide +kernel
theorem dX6_isResting_53 : decode cX6_isResting 53 = .ok (.iconst 0, 1) := by decide +kernel
theorem dX6_isResting_54 : decode cX6_isResting 54 = .ok (.ireturn, 1) := by decide +kernel
theorem dX6_isResting_55 : decode cX6_isResting 55 = .ok (.iinc 4 1, 3) := by decide +kernel
theorem dX6_isResting_58 : decode cX6_isResting 58 = .ok (.goto (-55), 3) := by decide +kernel
theorem dX6_isResting_61 : decode cX6_isResting 61 = .ok (.iconst 1, 1) := by decide +kernel
theorem dX6_isResting_62 : decode cX6_isResting 62 = .ok (.ireturn, 1) := by decide +kernel
abbrev rm_X6_isResting : Room := { frames := 4, cells := 0, slots := 0, locals := 92 }
def f_X6_isResting_L3 (S : St) (x1 : Int32) (x2 : Int32) (x3 : Int32) (z3 : Int32) : Option ((Int32) ⊕ (Int32)) :=
  chk (ib (st_I S (ky 0 18)) 2) (if (st_A S (ky 0 24) (st_I S (ky 0 18)).toNatClampNeg) ≤ z3 then (some (.inr (1 : Int32))) else ((f_X6_hasIn  S z3 x2 x3).bind (fun (q2 : Int32) => (f_X6_hasIn  S x1 x2 x3).bind (fun (q3 : Int32) => if q3 < q2 then (some (.inr (0 : Int32))) else ((f_X6_hasIn  S z3 x1 x3).bind (fun (q5 : Int32) => (f_X6_hasIn  S x2 x1 x3).bind (fun (q6 : Int32) => if q5 ≤ q6 then (some (.inl (z3 + 1))) else (some (.inr (0 : Int32))))))))))
def f_X6_isResting (S : St) (x1 : Int32) (x2 : Int32) (x3 : Int32) : Option (Int32) :=
  iter (f_X6_isResting_L3  S x1 x2 x3) FU (0 : Int32)
set_option maxRecDepth 100000 in
set_option maxHeartbeats 4000000 in
theorem k_X6_isResting (l : Launch) (g : GG) (hg : gd wd_M g)  (hM : hs wd_M g 0 6) (S : St) (x1 : Int32) (x2 : Int32) (x3 : Int32) (q : Int32) (hf : f_X6_isResting  S x1 x2 x3 = some q) : Met l yX6_isResting (Cond.code yX6_isResting cX6_isResting 5 (some .boolean) :: gw_tbl) rm_X6_isResting (va_Pc [.ref (gg_o g 0), .int x1, .int x2, .int x3] (wI wd_M g S)) (qc_i wd_M g S q) 0 0 (aw g) := by
  refine mt_start (own := RX6) hg (by decide) rfl (Nat.le_of_ble_eq_true rfl) (fun p e s m args below meth c ls H locs cx hw hr hlk hl => ?_)
  have hx := cx.1
  have hb := cx.2.1
  have hown := cx.2.2.2.1
  have hts := cx.2.2.2.2.1
  have hl : lv_has ls 5 [(0, .ref (gg_o g 0)), (1, .int x1), (2, .int x2), (3, .int x3)] := hl
  replace hf := h_top hf
  unfold f_X6_isResting at hf
  refine lv_iconst (v := 0) hx hb dX6_isResting_0 (by decide) ?_
  refine lv_istore hx hb dX6_isResting_1 hl (by decide) (lv' := [(4, .int (0 : Int32)), (0, .ref (gg_o g 0)), (1, .int x1), (2, .int x2), (3, .int x3)]) rfl (fun ls hl => ?_)
  have L3 : ∀ (x1 : Int32) (x2 : Int32) (x3 : Int32) (aft3 : Int32 → Option (Int32)), (∀ v : Int32, aft3 v = some q → (some v : Option (Int32)).bind some = some q) → ∀ (n3 : Nat) (ls : Array Slot) (H : Heap) (locs : List Loc) (z3 : Int32), lv_has ls 5 [(0, .ref (gg_o g 0)), (1, .int x1), (2, .int x2), (3, .int x3), (4, .int z3)] → HH wd_M g s S H locs → (iter (f_X6_isResting_L3  S x1 x2 x3) n3 z3).bind aft3 = some q → W p l e rm_X6_isResting s m args below meth c H locs 0 0 (MQ below (qc_i wd_M g S q) args s 0 0 (aw g)) (F0 m 3 ls []) := by
    intro x1 x2 x3 aft3 hR3 n3
    induction n3 with
    | zero => intro ls H locs z3 hl hw hf; exact h_iter0 hf
    | succ n3 ih3 =>
      intro ls H locs z3 hl hw hf
      replace hf := h_iter hf
      unfold f_X6_isResting_L3 at hf
      refine lv_iload hx hb dX6_isResting_3 (lv_at hl 4 rfl) ?_
      refine lv_aload_n hx hb dX6_isResting_5 rfl (lv_at hl 0 rfl) ?_
      refine gf_X6_49 cx hw hM dX6_isResting_6 ?_
      refine lv_aload_n hx hb dX6_isResting_9 rfl (lv_at hl 0 rfl) ?_
      refine gf_X6_257 cx hw hM dX6_isResting_10 ?_
      refine r_iald cx hw (hM.2.2.1 24 rfl) rfl rfl hf dX6_isResting_13 (fun hf => ?_)
      refine lv_icmp_ge hx hb dX6_isResting_14 (tgt := 61) rfl (fun hc1 => ?_) (fun hc1 => ?_)
      · replace hf := h_pos hc1 hf
        refine lv_iconst (v := 1) hx hb dX6_isResting_61 (by decide) ?_
        replace hf := hR3 (1 : Int32) hf
        exact r_zret cx hw hr hlk (Or.inr rfl) hf dX6_isResting_62
      replace hf := h_neg hc1 hf
      refine lv_aload_n hx hb dX6_isResting_17 rfl (lv_at hl 0 rfl) ?_
      refine lv_iload hx hb dX6_isResting_18 (lv_at hl 4 rfl) ?_
      refine lv_iload_n hx hb dX6_isResting_20 rfl (lv_at hl 2 rfl) ?_
      refine lv_iload_n hx hb dX6_isResting_21 rfl (lv_at hl 3 rfl) ?_
      refine r_V_i (As := [.int z3, .int x2, .int x3]) (rest := []) cx hw hf hM.2.1 (by rw [hM.1]; rfl) lk_X6_474 (fun q2 hq => k_X6_hasIn l g hg  hM S z3 x2 x3 q2 hq) ⟨⟨rfl, rfl⟩, Nat.le_of_ble_eq_true rfl, Nat.le_of_ble_eq_true rfl⟩ rfl hl.1 rfl (Nat.le_of_ble_eq_true rfl) dX6_isResting_22 ⟨Nat.zero_le _, Nat.zero_le _⟩ (fun q2 H locs hw hf => ?_)
      refine lv_aload_n hx hb dX6_isResting_25 rfl (lv_at hl 0 rfl) ?_
      refine lv_iload_n hx hb dX6_isResting_26 rfl (lv_at hl 1 rfl) ?_
      refine lv_iload_n hx hb dX6_isResting_27 rfl (lv_at hl 2 rfl) ?_
      refine lv_iload_n hx hb dX6_isResting_28 rfl (lv_at hl 3 rfl) ?_
      refine r_V_i (As := [.int x1, .int x2, .int x3]) (rest := [.int q2]) cx hw hf hM.2.1 (by rw [hM.1]; rfl) lk_X6_474 (fun q3 hq => k_X6_hasIn l g hg  hM S x1 x2 x3 q3 hq) ⟨⟨rfl, rfl⟩, Nat.le_of_ble_eq_true rfl, Nat.le_of_ble_eq_true rfl⟩ rfl hl.1 rfl (Nat.le_of_ble_eq_true rfl) dX6_isResting_29 ⟨Nat.zero_le _, Nat.zero_le _⟩ (fun q3 H locs hw hf => ?_)
      refine lv_icmp_gt hx hb dX6_isResting_32 (tgt := 53) rfl (fun hc4 => ?_) (fun hc4 => ?_)
      · replace hf := h_pos hc4 hf
        refine lv_iconst (v := 0) hx hb dX6_isResting_53 (by decide) ?_
        replace hf := hR3 (0 : Int32) hf
        exact r_zret cx hw hr hlk (Or.inl rfl) hf dX6_isResting_54
      replace hf := h_neg hc4 hf
      refine lv_aload_n hx hb dX6_isResting_35 rfl (lv_at hl 0 rfl) ?_
      refine lv_iload hx hb dX6_isResting_36 (lv_at hl 4 rfl) ?_
      refine lv_iload_n hx hb dX6_isResting_38 rfl (lv_at hl 1 rfl) ?_
      refine lv_iload_n hx hb dX6_isResting_39 rfl (lv_at hl 3 rfl) ?_
      refine r_V_i (As := [.int z3, .int x1, .int x3]) (rest := []) cx hw hf hM.2.1 (by rw [hM.1]; rfl) lk_X6_474 (fun q5 hq => k_X6_hasIn l g hg  hM S z3 x1 x3 q5 hq) ⟨⟨rfl, rfl⟩, Nat.le_of_ble_eq_true rfl, Nat.le_of_ble_eq_true rfl⟩ rfl hl.1 rfl (Nat.le_of_ble_eq_true rfl) dX6_isResting_40 ⟨Nat.zero_le _, Nat.zero_le _⟩ (fun q5 H locs hw hf => ?_)
      refine lv_aload_n hx hb dX6_isResting_43 rfl (lv_at hl 0 rfl) ?_
      refine lv_iload_n hx hb dX6_isResting_44 rfl (lv_at hl 2 rfl) ?_
      refine lv_iload_n hx hb dX6_isResting_45 rfl (lv_at hl 1 rfl) ?_
      refine lv_iload_n hx hb dX6_isResting_46 rfl (lv_at hl 3 rfl) ?_
      refine r_V_i (As := [.int x2, .int x1, .int x3]) (rest := [.int q5]) cx hw hf hM.2.1 (by rw [hM.1]; rfl) lk_X6_474 (fun q6 hq => k_X6_hasIn l g hg  hM S x2 x1 x3 q6 hq) ⟨⟨rfl, rfl⟩, Nat.le_of_ble_eq_true rfl, Nat.le_of_ble_eq_true rfl⟩ rfl hl.1 rfl (Nat.le_of_ble_eq_true rfl) dX6_isResting_47 ⟨Nat.zero_le _, Nat.zero_le _⟩ (fun q6 H locs hw hf => ?_)
      refine lv_icmp_le hx hb dX6_isResting_50 (tgt := 55) rfl (fun hc7 => ?_) (fun hc7 => ?_)
      · replace hf := h_pos hc7 hf
        refine lv_iinc hx hb dX6_isResting_55 hl (k := 4) rfl (congrArg (HAdd.hAdd _) (show Int32.ofInt (1) = 1 by decide)) (by decide) (lv' := [(4, .int (z3 + 1)), (0, .ref (gg_o g 0)), (1, .int x1), (2, .int x2), (3, .int x3)]) rfl (fun ls hl => ?_)
        refine lv_goto hx hb dX6_isResting_58 (tgt := 3) rfl ?_
        exact ih3 _ _ _ (z3 + 1) (lv_sub hl [1, 2, 3, 4, 0] rfl) hw hf
      replace hf := h_neg hc7 hf
      refine lv_iconst (v := 0) hx hb dX6_isResting_53 (by decide) ?_
      replace hf := hR3 (0 : Int32) hf
      exact r_zret cx hw hr hlk (Or.inl rfl) hf dX6_isResting_54
  exact L3 x1 x2 x3 some (fun v h => h) FU _ _ _ (0 : Int32) (lv_sub hl [1, 2, 3, 4, 0] rfl) hw hf
theorem dX6_rests_0 : decode cX6_rests 0 = .ok (.aload_n 0, 1) := by decide +kernel
theorem dX6_rests_1 : decode cX6_rests 1 = .ok (.iload_n 1, 1) := by decide +kernel
theorem dX6_rests_2 : decode cX6_rests 2 = .ok (.invokevirtual 410, 3) := by decide +kernel
theorem dX6_rests_5 : decode cX6_rests 5 = .ok (.ifCond .eq 21, 3) := by decide +kernel
theorem dX6_rests_8 : decode cX6_rests 8 = .ok (.aload_n 0, 1) := by decide +kernel
theorem dX6_rests_9 : decode cX6_rests 9 = .ok (.iload_n 2, 1) := by decide +kernel
theorem dX6_rests_10 : decode cX6_rests 10 = .ok (.invokevirtual 410, 3) := by decide +kernel
theorem dX6_rests_13 : decode cX6_rests 13 = .ok (.ifCond .eq 13, 3) := by decide +kernel
theorem dX6_rests_16 : decode cX6_rests 16 = .ok (.iload_n 1, 1) := by decide +kernel
theorem dX6_rests_17 : decode cX6_rests 17 = .ok (.iload_n 2, 1) := by decide +kernel
theorem dX6_rests_18 : decode cX6_rests 18 = .ok (.if_icmp .eq 8, 3) := by decide +kernel
theorem dX6_rests_21 : decode cX6_rests 21 = .ok (.iload_n 3, 1) := by decide +kernel
theorem dX6_rests_22 : decode cX6_rests 22 = .ok (.iconst (-1), 1) := by decide +kernel
theorem dX6_rests_23 : decode cX6_rests 23 = .ok (.if_icmp .ge 5, 3) := by decide +kernel
theorem dX6_rests_26 : decode cX6_rests 26 = .ok (.iconst (-1), 1) := by decide +kernel
theorem dX6_rests_27 : decode cX6_rests 27 = .ok (.ireturn, 1) := by decide +kernel
theorem dX6_rests_28 : decode cX6_rests 28 = .ok (.aload_n 0, 1) := by decide +kernel
theorem dX6_rests_29 : decode cX6_rests 29 = .ok (.invokevirtual 419, 3) := by decide +kernel
theorem dX6_rests_32 : decode cX6_rests 32 = .ok (.iconst 0, 1) := by decide +kernel
theorem dX6_rests_33 : decode cX6_rests 33 = .ok (.istore 4, 2) := by decide +kernel
theorem dX6_rests_35 : decode cX6_rests 35 = .ok (.iconst 0, 1) := by decide +kernel
theorem dX6_rests_36 : decode cX6_rests 36 = .ok (.istore 5, 2) := by decide +kernel
theorem dX6_rests_38 : decode cX6_rests 38 = .ok (.iload 5, 2) := by decide +kernel
theorem dX6_rests_40 : decode cX6_rests 40 = .ok (.aload_n 0, 1) := by decide +kernel
theorem dX6_rests_41 : decode cX6_rests 41 = .ok (.getfield 49, 3) := by decide +kernel
theorem dX6_rests_44 : decode cX6_rests 44 = .ok (.aload_n 0, 1) := by decide +kernel
theorem dX6_rests_45 : decode cX6_rests 45 = .ok (.getfield 257, 3) := by decide +kernel
theorem dX6_rests_48 : decode cX6_rests 48 = .ok (.iaload, 1) := by decide +kernel
theorem dX6_rests_49 : decode cX6_rests 49 = .ok (.if_icmp .ge 71, 3) := by decide +kernel
theorem dX6_rests_52 : decode cX6_rests 52 = .ok (.iconst 0, 1) := by decide +kernel
theorem dX6_rests_53 : decode cX6_rests 53 = .ok (.istore 6, 2) := by decide +kernel
theorem dX6_rests_55 : decode cX6_rests 55 = .ok (.iload 6, 2) := by decide +kernel
theorem dX6_rests_57 : decode cX6_rests 57 = .ok (.aload_n 0, 1) := by decide +kernel
theorem dX6_rests_58 : decode cX6_rests 58 = .ok (.getfield 49, 3) := by decide +kernel
theorem dX6_rests_61 : decode cX6_rests 61 = .ok (.aload_n 0, 1) := by decide +kernel
theorem dX6_rests_62 : decode cX6_rests 62 = .ok (.getfield 257, 3) := by decide +kernel
theorem dX6_rests_65 : decode cX6_rests 65 = .ok (.iaload, 1) := by decide +kernel
theorem dX6_rests_66 : decode cX6_rests 66 = .ok (.if_icmp .ge 48, 3) := by decide +kernel
theorem dX6_rests_69 : decode cX6_rests 69 = .ok (.aload_n 0, 1) := by decide +kernel
theorem dX6_rests_70 : decode cX6_rests 70 = .ok (.iload 5, 2) := by decide +kernel
theorem dX6_rests_72 : decode cX6_rests 72 = .ok (.iload 6, 2) := by decide +kernel
theorem dX6_rests_74 : decode cX6_rests 74 = .ok (.iconst 1, 1) := by decide +kernel
theorem dX6_rests_75 : decode cX6_rests 75 = .ok (.iload_n 1, 1) := by decide +kernel
theorem dX6_rests_76 : decode cX6_rests 76 = .ok (.ishl, 1) := by decide +kernel
theorem dX6_rests_77 : decode cX6_rests 77 = .ok (.iconst 1, 1) := by decide +kernel
theorem dX6_rests_78 : decode cX6_rests 78 = .ok (.iload_n 2, 1) := by decide +kernel
theorem dX6_rests_79 : decode cX6_rests 79 = .ok (.ishl, 1) := by decide +kernel
theorem dX6_rests_80 : decode cX6_rests 80 = .ok (.ior, 1) := by decide +kernel
theorem dX6_rests_81 : decode cX6_rests 81 = .ok (.invokevirtual 477, 3) := by decide +kernel
theorem dX6_rests_84 : decode cX6_rests 84 = .ok (.ifCond .ne 6, 3) := by decide +kernel
theorem dX6_rests_87 : decode cX6_rests 87 = .ok (.goto 21, 3) := by decide +kernel
theorem dX6_rests_90 : decode cX6_rests 90 = .ok (.iload 4, 2) := by decide +kernel
theorem dX6_rests_92 : decode cX6_rests 92 = .ok (.iload_n 3, 1) := by decide +kernel
theorem dX6_rests_93 : decode cX6_rests 93 = .ok (.if_icmp .ne 12, 3) := by decide +kernel
theorem dX6_rests_96 : decode cX6_rests 96 = .ok (.bipush 10, 2) := by decide +kernel
theorem dX6_rests_98 : decode cX6_rests 98 = .ok (.iload 5, 2) := by decide +kernel
theorem dX6_rests_100 : decode cX6_rests 100 = .ok (.imul, 1) := by decide +kernel
theorem dX6_rests_101 : decode cX6_rests 101 = .ok (.iload 6, 2) := by decide +kernel
theorem dX6_rests_103 : decode cX6_rests 103 = .ok (.iadd, 1) := by decide +kernel
theorem dX6_rests_104 : decode cX6_rests 104 = .ok (.ireturn, 1) := by decide +kernel
theorem dX6_rests_105 : decode cX6_rests 105 = .ok (.iinc 4 1, 3) := by decide +kernel
theorem dX6_rests_108 : decode cX6_rests 108 = .ok (.iinc 6 1, 3) := by decide +kernel
theorem dX6_rests_111 : decode cX6_rests 111 = .ok (.goto (-56), 3) := by decide +kernel
theorem dX6_rests_114 : decode cX6_rests 114 = .ok (.iinc 5 1, 3) := by decide +kernel
theorem dX6_rests_117 : decode cX6_rests 117 = .ok (.goto (-79), 3) := by decide +kernel
theorem dX6_rests_120 : decode cX6_rests 120 = .ok (.iload_n 3, 1) := by decide +kernel
theorem dX6_rests_121 : decode cX6_rests 121 = .ok (.iconst (-1), 1) := by decide +kernel
theorem dX6_rests_122 : decode cX6_rests 122 = .ok (.if_icmp .ne 8, 3) := by decide +kernel
theorem dX6_rests_125 : decode cX6_rests 125 = .ok (.iload 4, 2) := by decide +kernel
theorem dX6_rests_127 : decode cX6_rests 127 = .ok (.goto 4, 3) := by decide +kernel
theorem dX6_rests_130 : decode cX6_rests 130 = .ok (.iconst (-1), 1) := by decide +kernel
theorem dX6_rests_131 : decode cX6_rests 131 = .ok (.ireturn, 1) := by decide +kernel
abbrev rm_X6_rests : Room := { frames := 5, cells := 0, slots := 0, locals := 116 }
def f_X6_rests_L55 (S : St) (x1 : Int32) (x2 : Int32) (x3 : Int32) (x5 : Int32) (z55 : Int32 × Int32) : Option ((Int32 × Int32) ⊕ ((Int32) ⊕ (Int32 × St))) :=
  chk (ib (st_I S (ky 0 18)) 2) (if (st_A S (ky 0 24) (st_I S (ky 0 18)).toNatClampNeg) ≤ z55.2 then (some (.inr (.inl z55.1))) else ((f_X6_isResting  S x5 z55.2 (((1 : Int32) <<< (x1 &&& 31)) ||| ((1 : Int32) <<< (x2 &&& 31)))).bind (fun (q10 : Int32) => if q10 = 0 then (some (.inl (z55.1, (z55.2 + 1)))) else (if z55.1 = x3 then (some (.inr (.inr ((((10 : Int32) * x5) + z55.2), S)))) else (some (.inl ((z55.1 + 1), (z55.2 + 1))))))))
def f_X6_rests_L38 (S : St) (x1 : Int32) (x2 : Int32) (x3 : Int32) (z38 : Int32 × Int32) : Option ((Int32 × Int32) ⊕ ((Int32) ⊕ (Int32 × St))) :=
  chk (ib (st_I S (ky 0 18)) 2) (if (st_A S (ky 0 24) (st_I S (ky 0 18)).toNatClampNeg) ≤ z38.2 then (some (.inr (.inl z38.1))) else ((iter (f_X6_rests_L55  S x1 x2 x3 z38.2) FU (z38.1, (0 : Int32))).bind fun z => match z with | .inl z => (fun (e13 : Int32) => some (.inl (e13, (z38.2 + 1)))) z | .inr v15 => some (.inr (.inr v15))))
def f_X6_rests (S : St) (x1 : Int32) (x2 : Int32) (x3 : Int32) : Option (Int32 × St) :=
  (f_X6_isMan  S x1).bind (fun (q1 : Int32) => if q1 = 0 then (some ((-1 : Int32), S)) else ((f_X6_isMan  S x2).bind (fun (q3 : Int32) => if q3 = 0 then (some ((-1 : Int32), S)) else (if x1 = x2 then (some ((-1 : Int32), S)) else (if (-1 : Int32) ≤ x3 then ((f_X6_copies  S ).bind (fun (q7 : St) => (iter (f_X6_rests_L38  q7 x1 x2 x3) FU ((0 : Int32), (0 : Int32))).bind fun z => match z with | .inl z => (fun (e16 : Int32) => if x3 = (-1 : Int32) then (some (e16, q7)) else (some ((-1 : Int32), q7))) z | .inr v19 => some v19)) else (some ((-1 : Int32), S)))))))
set_option maxRecDepth 100000 in
set_option maxHeartbeats 4000000 in
theorem k_X6_rests (l : Launch) (g : GG) (hg : gd wd_M g)  (hM : hs wd_M g 0 6) (S : St) (x1 : Int32) (x2 : Int32) (x3 : Int32) (q : Int32 × St) (hf : f_X6_rests  S x1 x2 x3 = some q) : Met l yX6_rests (Cond.code yX6_rests cX6_rests 7 (some .int) :: gw_tbl) rm_X6_rests (va_Pc [.ref (gg_o g 0), .int x1, .int x2, .int x3] (wI wd_M g S)) (qc_w wd_M g q) 0 0 (aw g) := by
  refine mt_start (own := RX6) hg (by decide) rfl (Nat.le_of_ble_eq_true rfl) (fun p e s m args below meth c ls H locs cx hw hr hlk hl => ?_)
  have hx := cx.1
  have hb := cx.2.1
  have hown := cx.2.2.2.1
  have hts := cx.2.2.2.2.1
  have hl : lv_has ls 7 [(0, .ref (gg_o g 0)), (1, .int x1), (2, .int x2), (3, .int x3)] := hl
  replace hf := h_top hf
  unfold f_X6_rests at hf
  refine lv_aload_n hx hb dX6_rests_0 rfl (lv_at hl 0 rfl) ?_
  refine lv_iload_n hx hb dX6_rests_1 rfl (lv_at hl 1 rfl) ?_
  refine r_V_i (As := [.int x1]) (rest := []) cx hw hf hM.2.1 (by rw [hM.1]; rfl) lk_X6_410 (fun q1 hq => k_X6_isMan l g hg  hM S x1 q1 hq) ⟨⟨rfl, rfl⟩, Nat.le_of_ble_eq_true rfl, Nat.le_of_ble_eq_true rfl⟩ rfl hl.1 rfl (Nat.le_of_ble_eq_true rfl) dX6_rests_2 ⟨Nat.zero_le _, Nat.zero_le _⟩ (fun q1 H locs hw hf => ?_)
  refine lv_if_eq hx hb dX6_rests_5 (tgt := 26) rfl (fun hc2 => ?_) (fun hc2 => ?_)
  · replace hf := h_pos hc2 hf
    refine lv_iconst (v := -1) hx hb dX6_rests_26 (by decide) ?_
    exact r_iretw cx hw hr hlk hf dX6_rests_27
  replace hf := h_neg hc2 hf
  refine lv_aload_n hx hb dX6_rests_8 rfl (lv_at hl 0 rfl) ?_
  refine lv_iload_n hx hb dX6_rests_9 rfl (lv_at hl 2 rfl) ?_
  refine r_V_i (As := [.int x2]) (rest := []) cx hw hf hM.2.1 (by rw [hM.1]; rfl) lk_X6_410 (fun q3 hq => k_X6_isMan l g hg  hM S x2 q3 hq) ⟨⟨rfl, rfl⟩, Nat.le_of_ble_eq_true rfl, Nat.le_of_ble_eq_true rfl⟩ rfl hl.1 rfl (Nat.le_of_ble_eq_true rfl) dX6_rests_10 ⟨Nat.zero_le _, Nat.zero_le _⟩ (fun q3 H locs hw hf => ?_)
  refine lv_if_eq hx hb dX6_rests_13 (tgt := 26) rfl (fun hc4 => ?_) (fun hc4 => ?_)
  · replace hf := h_pos hc4 hf
    refine lv_iconst (v := -1) hx hb dX6_rests_26 (by decide) ?_
    exact r_iretw cx hw hr hlk hf dX6_rests_27
  replace hf := h_neg hc4 hf
  refine lv_iload_n hx hb dX6_rests_16 rfl (lv_at hl 1 rfl) ?_
  refine lv_iload_n hx hb dX6_rests_17 rfl (lv_at hl 2 rfl) ?_
  refine lv_icmp_eq hx hb dX6_rests_18 (tgt := 26) rfl (fun hc5 => ?_) (fun hc5 => ?_)
  · replace hf := h_pos hc5 hf
    refine lv_iconst (v := -1) hx hb dX6_rests_26 (by decide) ?_
    exact r_iretw cx hw hr hlk hf dX6_rests_27
  replace hf := h_neg hc5 hf
  refine lv_iload_n hx hb dX6_rests_21 rfl (lv_at hl 3 rfl) ?_
  refine lv_iconst (v := -1) hx hb dX6_rests_22 (by decide) ?_
  refine lv_icmp_ge hx hb dX6_rests_23 (tgt := 28) rfl (fun hc6 => ?_) (fun hc6 => ?_)
  · replace hf := h_pos hc6 hf
    refine lv_aload_n hx hb dX6_rests_28 rfl (lv_at hl 0 rfl) ?_
    refine r_V_v (As := []) (rest := []) cx hw hf hM.2.1 (by rw [hM.1]; rfl) lk_X6_419 (fun q7 hq => k_X6_copies l g hg  hM S  q7 hq) ⟨⟨rfl, rfl⟩, Nat.le_of_ble_eq_true rfl, Nat.le_of_ble_eq_true rfl⟩ rfl hl.1 rfl (Nat.le_of_ble_eq_true rfl) dX6_rests_29 ⟨Nat.zero_le _, Nat.zero_le _⟩ (fun q7 H locs hw hf => ?_)
    refine lv_iconst (v := 0) hx hb dX6_rests_32 (by decide) ?_
    refine lv_istore hx hb dX6_rests_33 hl (by decide) (lv' := [(4, .int (0 : Int32)), (0, .ref (gg_o g 0)), (1, .int x1), (2, .int x2), (3, .int x3)]) rfl (fun ls hl => ?_)
    refine lv_iconst (v := 0) hx hb dX6_rests_35 (by decide) ?_
    refine lv_istore hx hb dX6_rests_36 hl (by decide) (lv' := [(5, .int (0 : Int32)), (4, .int (0 : Int32)), (0, .ref (gg_o g 0)), (1, .int x1), (2, .int x2), (3, .int x3)]) rfl (fun ls hl => ?_)
    have L38 : ∀ (S : St) (x1 : Int32) (x2 : Int32) (x3 : Int32) (aft38 : ((Int32) ⊕ (Int32 × St)) → Option (Int32 × St)), (∀ (ls : Array Slot) (H : Heap) (locs : List Loc) (e4 : Int32), lv_has ls 7 [(3, .int x3), (4, .int e4)] → HH wd_M g s S H locs → aft38 (.inl e4) = some q → W p l e rm_X6_rests s m args below meth c H locs 0 0 (MQ below (qc_w wd_M g q) args s 0 0 (aw g)) (F0 m 120 ls [])) → (∀ v : Int32 × St, aft38 (.inr v) = some q → (some v : Option (Int32 × St)).bind some = some q) → ∀ (n38 : Nat) (ls : Array Slot) (H : Heap) (locs : List Loc) (z38 : Int32 × Int32), lv_has ls 7 [(0, .ref (gg_o g 0)), (1, .int x1), (2, .int x2), (3, .int x3), (4, .int z38.1), (5, .int z38.2)] → HH wd_M g s S H locs → (iter (f_X6_rests_L38  S x1 x2 x3) n38 z38).bind aft38 = some q → W p l e rm_X6_rests s m args below meth c H locs 0 0 (MQ below (qc_w wd_M g q) args s 0 0 (aw g)) (F0 m 38 ls []) := by
      intro S x1 x2 x3 aft38 hX38 hR38 n38
      induction n38 with
      | zero => intro ls H locs z38 hl hw hf; exact h_iter0 hf
      | succ n38 ih38 =>
        intro ls H locs z38 hl hw hf
        replace hf := h_iter hf
        unfold f_X6_rests_L38 at hf
        refine lv_iload hx hb dX6_rests_38 (lv_at hl 5 rfl) ?_
        refine lv_aload_n hx hb dX6_rests_40 rfl (lv_at hl 0 rfl) ?_
        refine gf_X6_49 cx hw hM dX6_rests_41 ?_
        refine lv_aload_n hx hb dX6_rests_44 rfl (lv_at hl 0 rfl) ?_
        refine gf_X6_257 cx hw hM dX6_rests_45 ?_
        refine r_iald cx hw (hM.2.2.1 24 rfl) rfl rfl hf dX6_rests_48 (fun hf => ?_)
        refine lv_icmp_ge hx hb dX6_rests_49 (tgt := 120) rfl (fun hc8 => ?_) (fun hc8 => ?_)
        · replace hf := h_pos hc8 hf
          exact hX38 _ _ _ z38.1 (lv_sub hl [3, 4] rfl) hw hf
        replace hf := h_neg hc8 hf
        refine lv_iconst (v := 0) hx hb dX6_rests_52 (by decide) ?_
        refine lv_istore hx hb dX6_rests_53 hl (by decide) (lv' := [(6, .int (0 : Int32)), (0, .ref (gg_o g 0)), (1, .int x1), (2, .int x2), (3, .int x3), (4, .int z38.1), (5, .int z38.2)]) rfl (fun ls hl => ?_)
        have L55 : ∀ (S : St) (x1 : Int32) (x2 : Int32) (x3 : Int32) (x5 : Int32) (aft55 : ((Int32) ⊕ (Int32 × St)) → Option (Int32 × St)), (∀ (ls : Array Slot) (H : Heap) (locs : List Loc) (e4 : Int32), lv_has ls 7 [(0, .ref (gg_o g 0)), (1, .int x1), (2, .int x2), (3, .int x3), (4, .int e4), (5, .int x5)] → HH wd_M g s S H locs → aft55 (.inl e4) = some q → W p l e rm_X6_rests s m args below meth c H locs 0 0 (MQ below (qc_w wd_M g q) args s 0 0 (aw g)) (F0 m 114 ls [])) → (∀ v : Int32 × St, aft55 (.inr v) = some q → (some v : Option (Int32 × St)).bind some = some q) → ∀ (n55 : Nat) (ls : Array Slot) (H : Heap) (locs : List Loc) (z55 : Int32 × Int32), lv_has ls 7 [(0, .ref (gg_o g 0)), (1, .int x1), (2, .int x2), (3, .int x3), (4, .int z55.1), (5, .int x5), (6, .int z55.2)] → HH wd_M g s S H locs → (iter (f_X6_rests_L55  S x1 x2 x3 x5) n55 z55).bind aft55 = some q → W p l e rm_X6_rests s m args below meth c H locs 0 0 (MQ below (qc_w wd_M g q) args s 0 0 (aw g)) (F0 m 55 ls []) := by
          intro S x1 x2 x3 x5 aft55 hX55 hR55 n55
          induction n55 with
          | zero => intro ls H locs z55 hl hw hf; exact h_iter0 hf
          | succ n55 ih55 =>
            intro ls H locs z55 hl hw hf
            replace hf := h_iter hf
            unfold f_X6_rests_L55 at hf
            refine lv_iload hx hb dX6_rests_55 (lv_at hl 6 rfl) ?_
            refine lv_aload_n hx hb dX6_rests_57 rfl (lv_at hl 0 rfl) ?_
            refine gf_X6_49 cx hw hM dX6_rests_58 ?_
            refine lv_aload_n hx hb dX6_rests_61 rfl (lv_at hl 0 rfl) ?_
            refine gf_X6_257 cx hw hM dX6_rests_62 ?_
            refine r_iald cx hw (hM.2.2.1 24 rfl) rfl rfl hf dX6_rests_65 (fun hf => ?_)
            refine lv_icmp_ge hx hb dX6_rests_66 (tgt := 114) rfl (fun hc9 => ?_) (fun hc9 => ?_)
            · replace hf := h_pos hc9 hf
              exact hX55 _ _ _ z55.1 (lv_sub hl [0, 1, 2, 3, 4, 5] rfl) hw hf
            replace hf := h_neg hc9 hf
            refine lv_aload_n hx hb dX6_rests_69 rfl (lv_at hl 0 rfl) ?_
            refine lv_iload hx hb dX6_rests_70 (lv_at hl 5 rfl) ?_
            refine lv_iload hx hb dX6_rests_72 (lv_at hl 6 rfl) ?_
            refine lv_iconst (v := 1) hx hb dX6_rests_74 (by decide) ?_
            refine lv_iload_n hx hb dX6_rests_75 rfl (lv_at hl 1 rfl) ?_
            refine lv_ishl hx hb dX6_rests_76 ?_
            refine lv_iconst (v := 1) hx hb dX6_rests_77 (by decide) ?_
            refine lv_iload_n hx hb dX6_rests_78 rfl (lv_at hl 2 rfl) ?_
            refine lv_ishl hx hb dX6_rests_79 ?_
            refine lv_ior hx hb dX6_rests_80 ?_
            refine r_V_i (As := [.int x5, .int z55.2, .int (((1 : Int32) <<< (x1 &&& 31)) ||| ((1 : Int32) <<< (x2 &&& 31)))]) (rest := []) cx hw hf hM.2.1 (by rw [hM.1]; rfl) lk_X6_477 (fun q10 hq => k_X6_isResting l g hg  hM S x5 z55.2 (((1 : Int32) <<< (x1 &&& 31)) ||| ((1 : Int32) <<< (x2 &&& 31))) q10 hq) ⟨⟨rfl, rfl⟩, Nat.le_of_ble_eq_true rfl, Nat.le_of_ble_eq_true rfl⟩ rfl hl.1 rfl (Nat.le_of_ble_eq_true rfl) dX6_rests_81 ⟨Nat.zero_le _, Nat.zero_le _⟩ (fun q10 H locs hw hf => ?_)
            refine lv_if_ne hx hb dX6_rests_84 (tgt := 90) rfl (fun hc11 => ?_) (fun hc11 => ?_)
            · replace hf := h_neg hc11 hf
              refine lv_iload hx hb dX6_rests_90 (lv_at hl 4 rfl) ?_
              refine lv_iload_n hx hb dX6_rests_92 rfl (lv_at hl 3 rfl) ?_
              refine lv_icmp_ne hx hb dX6_rests_93 (tgt := 105) rfl (fun hc12 => ?_) (fun hc12 => ?_)
              · replace hf := h_neg hc12 hf
                refine lv_iinc hx hb dX6_rests_105 hl (k := 4) rfl (congrArg (HAdd.hAdd _) (show Int32.ofInt (1) = 1 by decide)) (by decide) (lv' := [(4, .int (z55.1 + 1)), (0, .ref (gg_o g 0)), (1, .int x1), (2, .int x2), (3, .int x3), (5, .int x5), (6, .int z55.2)]) rfl (fun ls hl => ?_)
                refine lv_iinc hx hb dX6_rests_108 hl (k := 6) rfl (congrArg (HAdd.hAdd _) (show Int32.ofInt (1) = 1 by decide)) (by decide) (lv' := [(6, .int (z55.2 + 1)), (4, .int (z55.1 + 1)), (0, .ref (gg_o g 0)), (1, .int x1), (2, .int x2), (3, .int x3), (5, .int x5)]) rfl (fun ls hl => ?_)
                refine lv_goto hx hb dX6_rests_111 (tgt := 55) rfl ?_
                exact ih55 _ _ _ ((z55.1 + 1), (z55.2 + 1)) (lv_sub hl [2, 3, 4, 5, 1, 6, 0] rfl) hw hf
              replace hf := h_pos hc12 hf
              refine lv_bipush (v := 10) hx hb dX6_rests_96 (by decide) ?_
              refine lv_iload hx hb dX6_rests_98 (lv_at hl 5 rfl) ?_
              refine lv_imul hx hb dX6_rests_100 ?_
              refine lv_iload hx hb dX6_rests_101 (lv_at hl 6 rfl) ?_
              refine lv_iadd hx hb dX6_rests_103 ?_
              replace hf := hR55 ((((10 : Int32) * x5) + z55.2), S) hf
              exact r_iretw cx hw hr hlk hf dX6_rests_104
            replace hf := h_pos hc11 hf
            refine lv_goto hx hb dX6_rests_87 (tgt := 108) rfl ?_
            refine lv_iinc hx hb dX6_rests_108 hl (k := 6) rfl (congrArg (HAdd.hAdd _) (show Int32.ofInt (1) = 1 by decide)) (by decide) (lv' := [(6, .int (z55.2 + 1)), (0, .ref (gg_o g 0)), (1, .int x1), (2, .int x2), (3, .int x3), (4, .int z55.1), (5, .int x5)]) rfl (fun ls hl => ?_)
            refine lv_goto hx hb dX6_rests_111 (tgt := 55) rfl ?_
            exact ih55 _ _ _ (z55.1, (z55.2 + 1)) (lv_sub hl [1, 2, 3, 4, 5, 6, 0] rfl) hw hf
        refine L55 S x1 x2 x3 z38.2 _ (fun ls H locs e13 hl hw hf => ?_) ?_ FU _ _ _ (z38.1, (0 : Int32)) (lv_sub hl [1, 2, 3, 4, 5, 6, 0] rfl) hw (h_assoc hf)
        · skip
          try dsimp only at hf
          refine lv_iinc hx hb dX6_rests_114 hl (k := 5) rfl (congrArg (HAdd.hAdd _) (show Int32.ofInt (1) = 1 by decide)) (by decide) (lv' := [(5, .int (z38.2 + 1)), (0, .ref (gg_o g 0)), (1, .int x1), (2, .int x2), (3, .int x3), (4, .int e13)]) rfl (fun ls hl => ?_)
          refine lv_goto hx hb dX6_rests_117 (tgt := 38) rfl ?_
          exact ih38 _ _ _ (e13, (z38.2 + 1)) (lv_sub hl [1, 2, 3, 4, 5, 0] rfl) hw hf
        exact (fun v h => hR38 v h)
    refine L38 q7 x1 x2 x3 _ (fun ls H locs e16 hl hw hf => ?_) (fun v h => h) FU _ _ _ ((0 : Int32), (0 : Int32)) (lv_sub hl [2, 3, 4, 5, 1, 0] rfl) hw (h_assoc hf)
    try dsimp only at hf
    refine lv_iload_n hx hb dX6_rests_120 rfl (lv_at hl 0 rfl) ?_
    refine lv_iconst (v := -1) hx hb dX6_rests_121 (by decide) ?_
    refine lv_icmp_ne hx hb dX6_rests_122 (tgt := 130) rfl (fun hc17 => ?_) (fun hc17 => ?_)
    · replace hf := h_neg hc17 hf
      refine lv_iconst (v := -1) hx hb dX6_rests_130 (by decide) ?_
      exact r_iretw cx hw hr hlk hf dX6_rests_131
    replace hf := h_pos hc17 hf
    refine lv_iload hx hb dX6_rests_125 (lv_at hl 1 rfl) ?_
    refine lv_goto hx hb dX6_rests_127 (tgt := 131) rfl ?_
    exact r_iretw cx hw hr hlk hf dX6_rests_131
  replace hf := h_neg hc6 hf
  refine lv_iconst (v := -1) hx hb dX6_rests_26 (by decide) ?_
  exact r_iretw cx hw hr hlk hf dX6_rests_27
theorem dX6_jolt_0 : decode cX6_jolt 0 = .ok (.aload_n 0, 1) := by decide +kernel
theorem dX6_jolt_1 : decode cX6_jolt 1 = .ok (.iload_n 1, 1) := by decide +kernel
theorem dX6_jolt_2 : decode cX6_jolt 2 = .ok (.invokevirtual 410, 3) := by decide +kernel
theorem dX6_jolt_5 : decode cX6_jolt 5 = .ok (.ifCond .eq 22, 3) := by decide +kernel
theorem dX6_jolt_8 : decode cX6_jolt 8 = .ok (.iload_n 2, 1) := by decide +kernel
theorem dX6_jolt_9 : decode cX6_jolt 9 = .ok (.iconst 0, 1) := by decide +kernel
theorem dX6_jolt_10 : decode cX6_jolt 10 = .ok (.bipush 20, 2) := by decide +kernel
theorem dX6_jolt_12 : decode cX6_jolt 12 = .ok (.invokestatic 341, 3) := by decide +kernel
theorem dX6_jolt_15 : decode cX6_jolt 15 = .ok (.ifCond .eq 12, 3) := by decide +kernel
theorem dX6_jolt_18 : decode cX6_jolt 18 = .ok (.iload_n 3, 1) := by decide +kernel
theorem dX6_jolt_19 : decode cX6_jolt 19 = .ok (.iconst 0, 1) := by decide +kernel
theorem dX6_jolt_20 : decode cX6_jolt 20 = .ok (.iconst 2, 1) := by decide +kernel
theorem dX6_jolt_21 : decode cX6_jolt 21 = .ok (.invokestatic 341, 3) := by decide +kernel
theorem dX6_jolt_24 : decode cX6_jolt 24 = .ok (.ifCond .ne 7, 3) := by decide +kernel
theorem dX6_jolt_27 : decode cX6_jolt 27 = .ok (.sipush (-1000), 3) := by decide +kernel
theorem dX6_jolt_30 : decode cX6_jolt 30 = .ok (.ireturn, 1) := by decide +kernel
theorem dX6_jolt_31 : decode cX6_jolt 31 = .ok (.aload_n 0, 1) := by decide +kernel
theorem dX6_jolt_32 : decode cX6_jolt 32 = .ok (.invokevirtual 419, 3) := by decide +kernel
theorem dX6_jolt_35 : decode cX6_jolt 35 = .ok (.iconst 0, 1) := by decide +kernel
theorem dX6_jolt_36 : decode cX6_jolt 36 = .ok (.istore 4, 2) := by decide +kernel
theorem dX6_jolt_38 : decode cX6_jolt 38 = .ok (.iconst 0, 1) := by decide +kernel
theorem dX6_jolt_39 : decode cX6_jolt 39 = .ok (.istore 5, 2) := by decide +kernel
theorem dX6_jolt_41 : decode cX6_jolt 41 = .ok (.iconst 0, 1) := by decide +kernel
theorem dX6_jolt_42 : decode cX6_jolt 42 = .ok (.istore 6, 2) := by decide +kernel
theorem dX6_jolt_44 : decode cX6_jolt 44 = .ok (.iconst 0, 1) := by decide +kernel
theorem dX6_jolt_45 : decode cX6_jolt 45 = .ok (.istore 7, 2) := by decide +kernel
theorem dX6_jolt_47 : decode cX6_jolt 47 = .ok (.iconst 0, 1) := by decide +kernel
theorem dX6_jolt_48 : decode cX6_jolt 48 = .ok (.istore 8, 2) := by decide +kernel
theorem dX6_jolt_50 : decode cX6_jolt 50 = .ok (.iload 8, 2) := by decide +kernel
theorem dX6_jolt_52 : decode cX6_jolt 52 = .ok (.aload_n 0, 1) := by decide +kernel
theorem dX6_jolt_53 : decode cX6_jolt 53 = .ok (.getfield 70, 3) := by decide +kernel
theorem dX6_jolt_56 : decode cX6_jolt 56 = .ok (.aload_n 0, 1) := by decide +kernel
theorem dX6_jolt_57 : decode cX6_jolt 57 = .ok (.getfield 257, 3) := by decide +kernel
theorem dX6_jolt_60 : decode cX6_jolt 60 = .ok (.iaload, 1) := by decide +kernel
theorem dX6_jolt_61 : decode cX6_jolt 61 = .ok (.if_icmp .ge 111, 3) := by decide +kernel
theorem dX6_jolt_64 : decode cX6_jolt 64 = .ok (.aload_n 0, 1) := by decide +kernel
theorem dX6_jolt_65 : decode cX6_jolt 65 = .ok (.getfield 76, 3) := by decide +kernel
theorem dX6_jolt_68 : decode cX6_jolt 68 = .ok (.bipush 8, 2) := by decide +kernel
theorem dX6_jolt_70 : decode cX6_jolt 70 = .ok (.aload_n 0, 1) := by decide +kernel
theorem dX6_jolt_71 : decode cX6_jolt 71 = .ok (.getfield 257, 3) := by decide +kernel
theorem dX6_jolt_74 : decode cX6_jolt 74 = .ok (.imul, 1) := by decide +kernel
theorem dX6_jolt_75 : decode cX6_jolt 75 = .ok (.iload 8, 2) := by decide +kernel
theorem dX6_jolt_77 : decode cX6_jolt 77 = .ok (.iadd, 1) := by decide +kernel
theorem dX6_jolt_78 : decode cX6_jolt 78 = .ok (.iaload, 1) := by decide +kernel
theorem dX6_jolt_79 : decode cX6_jolt 79 = .ok (.iload_n 1, 1) := by decide +kernel
theorem dX6_jolt_80 : decode cX6_jolt 80 = .ok (.if_icmp .ne 86, 3) := by decide +kernel
theorem dX6_jolt_83 : decode cX6_jolt 83 = .ok (.aload_n 0, 1) := by decide +kernel
theorem dX6_jolt_84 : decode cX6_jolt 84 = .ok (.getfield 134, 3) := by decide +kernel
theorem dX6_jolt_87 : decode cX6_jolt 87 = .ok (.iload 8, 2) := by decide +kernel
theorem dX6_jolt_89 : decode cX6_jolt 89 = .ok (.iaload, 1) := by decide +kernel
theorem dX6_jolt_90 : decode cX6_jolt 90 = .ok (.iconst (-1), 1) := by decide +kernel
theorem dX6_jolt_91 : decode cX6_jolt 91 = .ok (.if_icmp .eq 6, 3) := by decide +kernel
theorem dX6_jolt_94 : decode cX6_jolt 94 = .ok (.goto 72, 3) := by decide +kernel
theorem dX6_jolt_97 : decode cX6_jolt 97 = .ok (.aload_n 0, 1) := by decide +kernel
theorem dX6_jolt_98 : decode cX6_jolt 98 = .ok (.iload 8, 2) := by decide +kernel
theorem dX6_jolt_100 : decode cX6_jolt 100 = .ok (.iload_n 2, 1) := by decide +kernel
theorem dX6_jolt_101 : decode cX6_jolt 101 = .ok (.invokevirtual 378, 3) := by decide +kernel
theorem dX6_jolt_104 : decode cX6_jolt 104 = .ok (.aload_n 0, 1) := by decide +kernel
theorem dX6_jolt_105 : decode cX6_jolt 105 = .ok (.getfield 131, 3) := by decide +kernel
theorem dX6_jolt_108 : decode cX6_jolt 108 = .ok (.bipush 36, 2) := by decide +kernel
theorem dX6_jolt_110 : decode cX6_jolt 110 = .ok (.aload_n 0, 1) := by decide +kernel
theorem dX6_jolt_111 : decode cX6_jolt 111 = .ok (.getfield 348, 3) := by decide +kernel
theorem dX6_jolt_114 : decode cX6_jolt 114 = .ok (.imul, 1) := by decide +kernel
theorem dX6_jolt_115 : decode cX6_jolt 115 = .ok (.bipush 28, 2) := by decide +kernel
theorem dX6_jolt_117 : decode cX6_jolt 117 = .ok (.iadd, 1) := by decide +kernel
theorem dX6_jolt_118 : decode cX6_jolt 118 = .ok (.iload 8, 2) := by decide +kernel
theorem dX6_jolt_120 : decode cX6_jolt 120 = .ok (.iadd, 1) := by decide +kernel
theorem dX6_jolt_121 : decode cX6_jolt 121 = .ok (.iaload, 1) := by decide +kernel
theorem dX6_jolt_122 : decode cX6_jolt 122 = .ok (.isub, 1) := by decide +kernel
theorem dX6_jolt_123 : decode cX6_jolt 123 = .ok (.istore 9, 2) := by decide +kernel
theorem dX6_jolt_125 : decode cX6_jolt 125 = .ok (.iload 4, 2) := by decide +kernel
theorem dX6_jolt_127 : decode cX6_jolt 127 = .ok (.ifCond .eq 10, 3) := by decide +kernel
theorem dX6_jolt_130 : decode cX6_jolt 130 = .ok (.iload 9, 2) := by decide +kernel
theorem dX6_jolt_132 : decode cX6_jolt 132 = .ok (.iload 5, 2) := by decide +kernel
theorem dX6_jolt_134 : decode cX6_jolt 134 = .ok (.if_icmp .le 7, 3) := by decide +kernel
theorem dX6_jolt_137 : decode cX6_jolt 137 = .ok (.iload 9, 2) := by decide +kernel
theorem dX6_jolt_139 : decode cX6_jolt 139 = .ok (.istore 5, 2) := by decide +kernel
theorem dX6_jolt_141 : decode cX6_jolt 141 = .ok (.iconst 1, 1) := by decide +kernel
theorem dX6_jolt_142 : decode cX6_jolt 142 = .ok (.istore 4, 2) := by decide +kernel
theorem dX6_jolt_144 : decode cX6_jolt 144 = .ok (.iload 9, 2) := by decide +kernel
theorem dX6_jolt_146 : decode cX6_jolt 146 = .ok (.ifCond .le 13, 3) := by decide +kernel
theorem dX6_jolt_149 : decode cX6_jolt 149 = .ok (.iload 6, 2) := by decide +kernel
theorem dX6_jolt_151 : decode cX6_jolt 151 = .ok (.iload 9, 2) := by decide +kernel
theorem dX6_jolt_153 : decode cX6_jolt 153 = .ok (.iadd, 1) := by decide +kernel
theorem dX6_jolt_154 : decode cX6_jolt 154 = .ok (.istore 6, 2) := by decide +kernel
theorem dX6_jolt_156 : decode cX6_jolt 156 = .ok (.goto 10, 3) := by decide +kernel
theorem dX6_jolt_159 : decode cX6_jolt 159 = .ok (.iload 7, 2) := by decide +kernel
theorem dX6_jolt_161 : decode cX6_jolt 161 = .ok (.iload 9, 2) := by decide +kernel
theorem dX6_jolt_163 : decode cX6_jolt 163 = .ok (.isub, 1) := by decide +kernel
theorem dX6_jolt_164 : decode cX6_jolt 164 = .ok (.istore 7, 2) := by decide +kernel
theorem dX6_jolt_166 : decode cX6_jolt 166 = .ok (.iinc 8 1, 3) := by decide +kernel
theorem dX6_jolt_169 : decode cX6_jolt 169 = .ok (.goto (-119), 3) := by decide +kernel
theorem dX6_jolt_172 : decode cX6_jolt 172 = .ok (.iload_n 3, 1) := by decide +kernel
theorem dX6_jolt_173 : decode cX6_jolt 173 = .ok (.ifCond .ne 8, 3) := by decide +kernel
theorem dX6_jolt_176 : decode cX6_jolt 176 = .ok (.iload 5, 2) := by decide +kernel
theorem dX6_jolt_178 : decode cX6_jolt 178 = .ok (.goto 15, 3) := by decide +kernel
theorem dX6_jolt_181 : decode cX6_jolt 181 = .ok (.iload_n 3, 1) := by decide +kernel
theorem dX6_jolt_182 : decode cX6_jolt 182 = .ok (.iconst 1, 1) := by decide +kernel
theorem dX6_jolt_183 : decode cX6_jolt 183 = .ok (.if_icmp .ne 8, 3) := by decide +kernel
theorem dX6_jolt_186 : decode cX6_jolt 186 = .ok (.iload 6, 2) := by decide +kernel
theorem dX6_jolt_188 : decode cX6_jolt 188 = .ok (.goto 5, 3) := by decide +kernel
theorem dX6_jolt_191 : decode cX6_jolt 191 = .ok (.iload 7, 2) := by decide +kernel
theorem dX6_jolt_193 : decode cX6_jolt 193 = .ok (.ireturn, 1) := by decide +kernel
abbrev rm_X6_jolt : Room := { frames := 3, cells := 0, slots := 0, locals := 77 }
def f_X6_jolt_J141 (S : St) (x1 : Int32) (x2 : Int32) (x3 : Int32) (x5 : Int32) (x6 : Int32) (x7 : Int32) (x8 : Int32) (x9 : Int32) : Option ((Int32 × Int32 × Int32 × Int32 × Int32 × St) ⊕ (Int32 × Int32 × Int32 × St)) :=
  if x9 ≤ 0 then (some (.inl ((1 : Int32), x5, x6, (x7 - x9), (x8 + 1), S))) else (some (.inl ((1 : Int32), x5, (x6 + x9), x7, (x8 + 1), S)))
def f_X6_jolt_J137 (S : St) (x1 : Int32) (x2 : Int32) (x3 : Int32) (x6 : Int32) (x7 : Int32) (x8 : Int32) (x9 : Int32) : Option ((Int32 × Int32 × Int32 × Int32 × Int32 × St) ⊕ (Int32 × Int32 × Int32 × St)) :=
  f_X6_jolt_J141  S x1 x2 x3 x9 x6 x7 x8 x9
def f_X6_jolt_L50 (x1 : Int32) (x2 : Int32) (x3 : Int32) (z50 : Int32 × Int32 × Int32 × Int32 × Int32 × St) : Option ((Int32 × Int32 × Int32 × Int32 × Int32 × St) ⊕ (Int32 × Int32 × Int32 × St)) :=
  chk (ib (st_I z50.2.2.2.2.2 (ky 0 18)) 2) (if (st_A z50.2.2.2.2.2 (ky 0 31) (st_I z50.2.2.2.2.2 (ky 0 18)).toNatClampNeg) ≤ z50.2.2.2.2.1 then (some (.inr (z50.2.1, z50.2.2.1, z50.2.2.2.1, z50.2.2.2.2.2))) else (chk (ib (((8 : Int32) * (st_I z50.2.2.2.2.2 (ky 0 18))) + z50.2.2.2.2.1) 16) (if (st_A z50.2.2.2.2.2 (ky 0 33) (((8 : Int32) * (st_I z50.2.2.2.2.2 (ky 0 18))) + z50.2.2.2.2.1).toNatClampNeg) = x1 then (chk (ib z50.2.2.2.2.1 8) (if (st_A z50.2.2.2.2.2 (ky 0 58) z50.2.2.2.2.1.toNatClampNeg) = (-1 : Int32) then ((f_X6_lateBy  z50.2.2.2.2.2 z50.2.2.2.2.1 x2).bind (fun (q11 : Int32 × St) => chk (ib ((((36 : Int32) * (st_I q11.2 (ky 0 57))) + (28 : Int32)) + z50.2.2.2.2.1) 10800) (lt_v (q11.1 - (st_A q11.2 (ky 0 56) ((((36 : Int32) * (st_I q11.2 (ky 0 57))) + (28 : Int32)) + z50.2.2.2.2.1).toNatClampNeg)) (fun (u12 : Int32) => if z50.1 = 0 then (f_X6_jolt_J137  q11.2 x1 x2 x3 z50.2.2.1 z50.2.2.2.1 z50.2.2.2.2.1 u12) else (if u12 ≤ z50.2.1 then (f_X6_jolt_J141  q11.2 x1 x2 x3 z50.2.1 z50.2.2.1 z50.2.2.2.1 z50.2.2.2.2.1 u12) else (f_X6_jolt_J137  q11.2 x1 x2 x3 z50.2.2.1 z50.2.2.2.1 z50.2.2.2.2.1 u12)))))) else (some (.inl (z50.1, z50.2.1, z50.2.2.1, z50.2.2.2.1, (z50.2.2.2.2.1 + 1), z50.2.2.2.2.2))))) else (some (.inl (z50.1, z50.2.1, z50.2.2.1, z50.2.2.2.1, (z50.2.2.2.2.1 + 1), z50.2.2.2.2.2))))))
def f_X6_jolt (S : St) (x1 : Int32) (x2 : Int32) (x3 : Int32) : Option (Int32 × St) :=
  (f_X6_isMan  S x1).bind (fun (q1 : Int32) => if q1 = 0 then (some ((-1000 : Int32), S)) else ((f_X6_in   x2 (0 : Int32) (20 : Int32)).bind (fun (q3 : Int32) => if q3 = 0 then (some ((-1000 : Int32), S)) else ((f_X6_in   x3 (0 : Int32) (2 : Int32)).bind (fun (q5 : Int32) => if q5 = 0 then (some ((-1000 : Int32), S)) else ((f_X6_copies  S ).bind (fun (q7 : St) => (iter (f_X6_jolt_L50   x1 x2 x3) FU ((0 : Int32), (0 : Int32), (0 : Int32), (0 : Int32), (0 : Int32), q7)).bind (fun (u22 : Int32 × Int32 × Int32 × St) => (fun (e16 : Int32) (e17 : Int32) (e18 : Int32) (S19 : St) => if x3 = 0 then (some (e16, S19)) else (if x3 = (1 : Int32) then (some (e17, S19)) else (some (e18, S19)))) u22.1 u22.2.1 u22.2.2.1 u22.2.2.2))))))))
set_option maxRecDepth 100000 in
set_option maxHeartbeats 4000000 in
theorem k_X6_jolt (l : Launch) (g : GG) (hg : gd wd_M g)  (hM : hs wd_M g 0 6) (S : St) (x1 : Int32) (x2 : Int32) (x3 : Int32) (q : Int32 × St) (hf : f_X6_jolt  S x1 x2 x3 = some q) : Met l yX6_jolt (Cond.code yX6_jolt cX6_jolt 10 (some .int) :: gw_tbl) rm_X6_jolt (va_Pc [.ref (gg_o g 0), .int x1, .int x2, .int x3] (wI wd_M g S)) (qc_w wd_M g q) 0 0 (aw g) := by
  refine mt_start (own := RX6) hg (by decide) rfl (Nat.le_of_ble_eq_true rfl) (fun p e s m args below meth c ls H locs cx hw hr hlk hl => ?_)
  have hx := cx.1
  have hb := cx.2.1
  have hown := cx.2.2.2.1
  have hts := cx.2.2.2.2.1
  have hl : lv_has ls 10 [(0, .ref (gg_o g 0)), (1, .int x1), (2, .int x2), (3, .int x3)] := hl
  replace hf := h_top hf
  unfold f_X6_jolt at hf
  refine lv_aload_n hx hb dX6_jolt_0 rfl (lv_at hl 0 rfl) ?_
  refine lv_iload_n hx hb dX6_jolt_1 rfl (lv_at hl 1 rfl) ?_
  refine r_V_i (As := [.int x1]) (rest := []) cx hw hf hM.2.1 (by rw [hM.1]; rfl) lk_X6_410 (fun q1 hq => k_X6_isMan l g hg  hM S x1 q1 hq) ⟨⟨rfl, rfl⟩, Nat.le_of_ble_eq_true rfl, Nat.le_of_ble_eq_true rfl⟩ rfl hl.1 rfl (Nat.le_of_ble_eq_true rfl) dX6_jolt_2 ⟨Nat.zero_le _, Nat.zero_le _⟩ (fun q1 H locs hw hf => ?_)
  refine lv_if_eq hx hb dX6_jolt_5 (tgt := 27) rfl (fun hc2 => ?_) (fun hc2 => ?_)
  · replace hf := h_pos hc2 hf
    refine lv_sipush (v := -1000) hx hb dX6_jolt_27 (by decide) ?_
    exact r_iretw cx hw hr hlk hf dX6_jolt_30
  replace hf := h_neg hc2 hf
  refine lv_iload_n hx hb dX6_jolt_8 rfl (lv_at hl 2 rfl) ?_
  refine lv_iconst (v := 0) hx hb dX6_jolt_9 (by decide) ?_
  refine lv_bipush (v := 20) hx hb dX6_jolt_10 (by decide) ?_
  refine r_S_i (As := [.int x2, .int (0 : Int32), .int (20 : Int32)]) (rest := []) cx hw hf lk_X6_341 (fun q3 hq => k_X6_in l g hg   S x2 (0 : Int32) (20 : Int32) q3 hq) ⟨⟨rfl, rfl⟩, Nat.le_of_ble_eq_true rfl, Nat.le_of_ble_eq_true rfl⟩ rfl hl.1 rfl (Nat.le_of_ble_eq_true rfl) dX6_jolt_12 ⟨Nat.zero_le _, Nat.zero_le _⟩ (fun q3 H locs hw hf => ?_)
  refine lv_if_eq hx hb dX6_jolt_15 (tgt := 27) rfl (fun hc4 => ?_) (fun hc4 => ?_)
  · replace hf := h_pos hc4 hf
    refine lv_sipush (v := -1000) hx hb dX6_jolt_27 (by decide) ?_
    exact r_iretw cx hw hr hlk hf dX6_jolt_30
  replace hf := h_neg hc4 hf
  refine lv_iload_n hx hb dX6_jolt_18 rfl (lv_at hl 3 rfl) ?_
  refine lv_iconst (v := 0) hx hb dX6_jolt_19 (by decide) ?_
  refine lv_iconst (v := 2) hx hb dX6_jolt_20 (by decide) ?_
  refine r_S_i (As := [.int x3, .int (0 : Int32), .int (2 : Int32)]) (rest := []) cx hw hf lk_X6_341 (fun q5 hq => k_X6_in l g hg   S x3 (0 : Int32) (2 : Int32) q5 hq) ⟨⟨rfl, rfl⟩, Nat.le_of_ble_eq_true rfl, Nat.le_of_ble_eq_true rfl⟩ rfl hl.1 rfl (Nat.le_of_ble_eq_true rfl) dX6_jolt_21 ⟨Nat.zero_le _, Nat.zero_le _⟩ (fun q5 H locs hw hf => ?_)
  refine lv_if_ne hx hb dX6_jolt_24 (tgt := 31) rfl (fun hc6 => ?_) (fun hc6 => ?_)
  · replace hf := h_neg hc6 hf
    refine lv_aload_n hx hb dX6_jolt_31 rfl (lv_at hl 0 rfl) ?_
    refine r_V_v (As := []) (rest := []) cx hw hf hM.2.1 (by rw [hM.1]; rfl) lk_X6_419 (fun q7 hq => k_X6_copies l g hg  hM S  q7 hq) ⟨⟨rfl, rfl⟩, Nat.le_of_ble_eq_true rfl, Nat.le_of_ble_eq_true rfl⟩ rfl hl.1 rfl (Nat.le_of_ble_eq_true rfl) dX6_jolt_32 ⟨Nat.zero_le _, Nat.zero_le _⟩ (fun q7 H locs hw hf => ?_)
    refine lv_iconst (v := 0) hx hb dX6_jolt_35 (by decide) ?_
    refine lv_istore hx hb dX6_jolt_36 hl (by decide) (lv' := [(4, .int (0 : Int32)), (0, .ref (gg_o g 0)), (1, .int x1), (2, .int x2), (3, .int x3)]) rfl (fun ls hl => ?_)
    refine lv_iconst (v := 0) hx hb dX6_jolt_38 (by decide) ?_
    refine lv_istore hx hb dX6_jolt_39 hl (by decide) (lv' := [(5, .int (0 : Int32)), (4, .int (0 : Int32)), (0, .ref (gg_o g 0)), (1, .int x1), (2, .int x2), (3, .int x3)]) rfl (fun ls hl => ?_)
    refine lv_iconst (v := 0) hx hb dX6_jolt_41 (by decide) ?_
    refine lv_istore hx hb dX6_jolt_42 hl (by decide) (lv' := [(6, .int (0 : Int32)), (5, .int (0 : Int32)), (4, .int (0 : Int32)), (0, .ref (gg_o g 0)), (1, .int x1), (2, .int x2), (3, .int x3)]) rfl (fun ls hl => ?_)
    refine lv_iconst (v := 0) hx hb dX6_jolt_44 (by decide) ?_
    refine lv_istore hx hb dX6_jolt_45 hl (by decide) (lv' := [(7, .int (0 : Int32)), (6, .int (0 : Int32)), (5, .int (0 : Int32)), (4, .int (0 : Int32)), (0, .ref (gg_o g 0)), (1, .int x1), (2, .int x2), (3, .int x3)]) rfl (fun ls hl => ?_)
    refine lv_iconst (v := 0) hx hb dX6_jolt_47 (by decide) ?_
    refine lv_istore hx hb dX6_jolt_48 hl (by decide) (lv' := [(8, .int (0 : Int32)), (7, .int (0 : Int32)), (6, .int (0 : Int32)), (5, .int (0 : Int32)), (4, .int (0 : Int32)), (0, .ref (gg_o g 0)), (1, .int x1), (2, .int x2), (3, .int x3)]) rfl (fun ls hl => ?_)
    have L50 : ∀ (x1 : Int32) (x2 : Int32) (x3 : Int32) (aft50 : (Int32 × Int32 × Int32 × St) → Option (Int32 × St)), (∀ (ls : Array Slot) (H : Heap) (locs : List Loc) (e5 : Int32) (e6 : Int32) (e7 : Int32) (S1 : St), lv_has ls 10 [(3, .int x3), (5, .int e5), (6, .int e6), (7, .int e7)] → HH wd_M g s S1 H locs → aft50 (e5, e6, e7, S1) = some q → W p l e rm_X6_jolt s m args below meth c H locs 0 0 (MQ below (qc_w wd_M g q) args s 0 0 (aw g)) (F0 m 172 ls [])) → ∀ (n50 : Nat) (ls : Array Slot) (H : Heap) (locs : List Loc) (z50 : Int32 × Int32 × Int32 × Int32 × Int32 × St), lv_has ls 10 [(0, .ref (gg_o g 0)), (1, .int x1), (2, .int x2), (3, .int x3), (4, .int z50.1), (5, .int z50.2.1), (6, .int z50.2.2.1), (7, .int z50.2.2.2.1), (8, .int z50.2.2.2.2.1)] → HH wd_M g s z50.2.2.2.2.2 H locs → (iter (f_X6_jolt_L50   x1 x2 x3) n50 z50).bind aft50 = some q → W p l e rm_X6_jolt s m args below meth c H locs 0 0 (MQ below (qc_w wd_M g q) args s 0 0 (aw g)) (F0 m 50 ls []) := by
      intro x1 x2 x3 aft50 hX50 n50
      induction n50 with
      | zero => intro ls H locs z50 hl hw hf; exact h_iter0 hf
      | succ n50 ih50 =>
        intro ls H locs z50 hl hw hf
        replace hf := h_iter hf
        unfold f_X6_jolt_L50 at hf
        have J141 : ∀ (ls : Array Slot) (H : Heap) (locs : List Loc) (S : St) (x5 : Int32) (x6 : Int32) (x7 : Int32) (x8 : Int32) (x9 : Int32), lv_has ls 10 [(0, .ref (gg_o g 0)), (1, .int x1), (2, .int x2), (3, .int x3), (5, .int x5), (6, .int x6), (7, .int x7), (8, .int x8), (9, .int x9)] → HH wd_M g s S H locs → (f_X6_jolt_J141  S x1 x2 x3 x5 x6 x7 x8 x9).bind (it_K (f_X6_jolt_L50   x1 x2 x3) n50 aft50) = some q → W p l e rm_X6_jolt s m args below meth c H locs 0 0 (MQ below (qc_w wd_M g q) args s 0 0 (aw g)) (F0 m 141 ls []) := by
          intro ls H locs S x5 x6 x7 x8 x9 hl hw hf
          unfold f_X6_jolt_J141 at hf
          refine lv_iconst (v := 1) hx hb dX6_jolt_141 (by decide) ?_
          refine lv_istore hx hb dX6_jolt_142 hl (by decide) (lv' := [(4, .int (1 : Int32)), (0, .ref (gg_o g 0)), (1, .int x1), (2, .int x2), (3, .int x3), (5, .int x5), (6, .int x6), (7, .int x7), (8, .int x8), (9, .int x9)]) rfl (fun ls hl => ?_)
          refine lv_iload hx hb dX6_jolt_144 (lv_at hl 9 rfl) ?_
          refine lv_if_le hx hb dX6_jolt_146 (tgt := 159) rfl (fun hc14 => ?_) (fun hc14 => ?_)
          · replace hf := h_pos hc14 hf
            refine lv_iload hx hb dX6_jolt_159 (lv_at hl 7 rfl) ?_
            refine lv_iload hx hb dX6_jolt_161 (lv_at hl 9 rfl) ?_
            refine lv_isub hx hb dX6_jolt_163 ?_
            refine lv_istore hx hb dX6_jolt_164 hl (by decide) (lv' := [(7, .int (x7 - x9)), (4, .int (1 : Int32)), (0, .ref (gg_o g 0)), (1, .int x1), (2, .int x2), (3, .int x3), (5, .int x5), (6, .int x6), (8, .int x8), (9, .int x9)]) rfl (fun ls hl => ?_)
            refine lv_iinc hx hb dX6_jolt_166 hl (k := 8) rfl (congrArg (HAdd.hAdd _) (show Int32.ofInt (1) = 1 by decide)) (by decide) (lv' := [(8, .int (x8 + 1)), (7, .int (x7 - x9)), (4, .int (1 : Int32)), (0, .ref (gg_o g 0)), (1, .int x1), (2, .int x2), (3, .int x3), (5, .int x5), (6, .int x6), (9, .int x9)]) rfl (fun ls hl => ?_)
            refine lv_goto hx hb dX6_jolt_169 (tgt := 50) rfl ?_
            exact ih50 _ _ _ ((1 : Int32), x5, x6, (x7 - x9), (x8 + 1), S) (lv_sub hl [3, 4, 5, 6, 2, 7, 8, 1, 0] rfl) hw hf
          replace hf := h_neg hc14 hf
          refine lv_iload hx hb dX6_jolt_149 (lv_at hl 6 rfl) ?_
          refine lv_iload hx hb dX6_jolt_151 (lv_at hl 9 rfl) ?_
          refine lv_iadd hx hb dX6_jolt_153 ?_
          refine lv_istore hx hb dX6_jolt_154 hl (by decide) (lv' := [(6, .int (x6 + x9)), (4, .int (1 : Int32)), (0, .ref (gg_o g 0)), (1, .int x1), (2, .int x2), (3, .int x3), (5, .int x5), (7, .int x7), (8, .int x8), (9, .int x9)]) rfl (fun ls hl => ?_)
          refine lv_goto hx hb dX6_jolt_156 (tgt := 166) rfl ?_
          refine lv_iinc hx hb dX6_jolt_166 hl (k := 8) rfl (congrArg (HAdd.hAdd _) (show Int32.ofInt (1) = 1 by decide)) (by decide) (lv' := [(8, .int (x8 + 1)), (6, .int (x6 + x9)), (4, .int (1 : Int32)), (0, .ref (gg_o g 0)), (1, .int x1), (2, .int x2), (3, .int x3), (5, .int x5), (7, .int x7), (9, .int x9)]) rfl (fun ls hl => ?_)
          refine lv_goto hx hb dX6_jolt_169 (tgt := 50) rfl ?_
          exact ih50 _ _ _ ((1 : Int32), x5, (x6 + x9), x7, (x8 + 1), S) (lv_sub hl [3, 4, 5, 6, 2, 7, 1, 8, 0] rfl) hw hf
        have J137 : ∀ (ls : Array Slot) (H : Heap) (locs : List Loc) (S : St) (x6 : Int32) (x7 : Int32) (x8 : Int32) (x9 : Int32), lv_has ls 10 [(0, .ref (gg_o g 0)), (1, .int x1), (2, .int x2), (3, .int x3), (6, .int x6), (7, .int x7), (8, .int x8), (9, .int x9)] → HH wd_M g s S H locs → (f_X6_jolt_J137  S x1 x2 x3 x6 x7 x8 x9).bind (it_K (f_X6_jolt_L50   x1 x2 x3) n50 aft50) = some q → W p l e rm_X6_jolt s m args below meth c H locs 0 0 (MQ below (qc_w wd_M g q) args s 0 0 (aw g)) (F0 m 137 ls []) := by
          intro ls H locs S x6 x7 x8 x9 hl hw hf
          unfold f_X6_jolt_J137 at hf
          refine lv_iload hx hb dX6_jolt_137 (lv_at hl 7 rfl) ?_
          refine lv_istore hx hb dX6_jolt_139 hl (by decide) (lv' := [(5, .int x9), (0, .ref (gg_o g 0)), (1, .int x1), (2, .int x2), (3, .int x3), (6, .int x6), (7, .int x7), (8, .int x8), (9, .int x9)]) rfl (fun ls hl => ?_)
          exact J141 _ _ _ S x9 x6 x7 x8 x9 (lv_sub hl [1, 2, 3, 4, 0, 5, 6, 7, 8] rfl) hw hf
        refine lv_iload hx hb dX6_jolt_50 (lv_at hl 8 rfl) ?_
        refine lv_aload_n hx hb dX6_jolt_52 rfl (lv_at hl 0 rfl) ?_
        refine gf_X6_70 cx hw hM dX6_jolt_53 ?_
        refine lv_aload_n hx hb dX6_jolt_56 rfl (lv_at hl 0 rfl) ?_
        refine gf_X6_257 cx hw hM dX6_jolt_57 ?_
        refine r_iald cx hw (hM.2.2.1 31 rfl) rfl rfl hf dX6_jolt_60 (fun hf => ?_)
        refine lv_icmp_ge hx hb dX6_jolt_61 (tgt := 172) rfl (fun hc8 => ?_) (fun hc8 => ?_)
        · replace hf := h_pos hc8 hf
          exact hX50 _ _ _ z50.2.1 z50.2.2.1 z50.2.2.2.1 z50.2.2.2.2.2 (lv_sub hl [3, 5, 6, 7] rfl) hw hf
        replace hf := h_neg hc8 hf
        refine lv_aload_n hx hb dX6_jolt_64 rfl (lv_at hl 0 rfl) ?_
        refine gf_X6_76 cx hw hM dX6_jolt_65 ?_
        refine lv_bipush (v := 8) hx hb dX6_jolt_68 (by decide) ?_
        refine lv_aload_n hx hb dX6_jolt_70 rfl (lv_at hl 0 rfl) ?_
        refine gf_X6_257 cx hw hM dX6_jolt_71 ?_
        refine lv_imul hx hb dX6_jolt_74 ?_
        refine lv_iload hx hb dX6_jolt_75 (lv_at hl 8 rfl) ?_
        refine lv_iadd hx hb dX6_jolt_77 ?_
        refine r_iald cx hw (hM.2.2.1 33 rfl) rfl rfl hf dX6_jolt_78 (fun hf => ?_)
        refine lv_iload_n hx hb dX6_jolt_79 rfl (lv_at hl 1 rfl) ?_
        refine lv_icmp_ne hx hb dX6_jolt_80 (tgt := 166) rfl (fun hc9 => ?_) (fun hc9 => ?_)
        · replace hf := h_neg hc9 hf
          refine lv_iinc hx hb dX6_jolt_166 hl (k := 8) rfl (congrArg (HAdd.hAdd _) (show Int32.ofInt (1) = 1 by decide)) (by decide) (lv' := [(8, .int (z50.2.2.2.2.1 + 1)), (0, .ref (gg_o g 0)), (1, .int x1), (2, .int x2), (3, .int x3), (4, .int z50.1), (5, .int z50.2.1), (6, .int z50.2.2.1), (7, .int z50.2.2.2.1)]) rfl (fun ls hl => ?_)
          refine lv_goto hx hb dX6_jolt_169 (tgt := 50) rfl ?_
          exact ih50 _ _ _ (z50.1, z50.2.1, z50.2.2.1, z50.2.2.2.1, (z50.2.2.2.2.1 + 1), z50.2.2.2.2.2) (lv_sub hl [1, 2, 3, 4, 5, 6, 7, 8, 0] rfl) hw hf
        replace hf := h_pos hc9 hf
        refine lv_aload_n hx hb dX6_jolt_83 rfl (lv_at hl 0 rfl) ?_
        refine gf_X6_134 cx hw hM dX6_jolt_84 ?_
        refine lv_iload hx hb dX6_jolt_87 (lv_at hl 8 rfl) ?_
        refine r_iald cx hw (hM.2.2.1 58 rfl) rfl rfl hf dX6_jolt_89 (fun hf => ?_)
        refine lv_iconst (v := -1) hx hb dX6_jolt_90 (by decide) ?_
        refine lv_icmp_eq hx hb dX6_jolt_91 (tgt := 97) rfl (fun hc10 => ?_) (fun hc10 => ?_)
        · replace hf := h_pos hc10 hf
          refine lv_aload_n hx hb dX6_jolt_97 rfl (lv_at hl 0 rfl) ?_
          refine lv_iload hx hb dX6_jolt_98 (lv_at hl 8 rfl) ?_
          refine lv_iload_n hx hb dX6_jolt_100 rfl (lv_at hl 2 rfl) ?_
          refine r_V_w (As := [.int z50.2.2.2.2.1, .int x2]) (rest := []) cx hw hf hM.2.1 (by rw [hM.1]; rfl) lk_X6_378 (fun q11 hq => k_X6_lateBy l g hg  hM z50.2.2.2.2.2 z50.2.2.2.2.1 x2 q11 hq) ⟨⟨rfl, rfl⟩, Nat.le_of_ble_eq_true rfl, Nat.le_of_ble_eq_true rfl⟩ rfl hl.1 rfl (Nat.le_of_ble_eq_true rfl) dX6_jolt_101 ⟨Nat.zero_le _, Nat.zero_le _⟩ (fun q11 H locs hw hf => ?_)
          refine lv_aload_n hx hb dX6_jolt_104 rfl (lv_at hl 0 rfl) ?_
          refine gf_X6_131 cx hw hM dX6_jolt_105 ?_
          refine lv_bipush (v := 36) hx hb dX6_jolt_108 (by decide) ?_
          refine lv_aload_n hx hb dX6_jolt_110 rfl (lv_at hl 0 rfl) ?_
          refine gf_X6_348 cx hw hM dX6_jolt_111 ?_
          refine lv_imul hx hb dX6_jolt_114 ?_
          refine lv_bipush (v := 28) hx hb dX6_jolt_115 (by decide) ?_
          refine lv_iadd hx hb dX6_jolt_117 ?_
          refine lv_iload hx hb dX6_jolt_118 (lv_at hl 8 rfl) ?_
          refine lv_iadd hx hb dX6_jolt_120 ?_
          refine r_iald cx hw (hM.2.2.1 56 rfl) rfl rfl hf dX6_jolt_121 (fun hf => ?_)
          refine lv_isub hx hb dX6_jolt_122 ?_
          refine r_leti hf (fun u12 hf => ?_)
          refine lv_istore hx hb dX6_jolt_123 hl (by decide) (lv' := [(9, .int u12), (0, .ref (gg_o g 0)), (1, .int x1), (2, .int x2), (3, .int x3), (4, .int z50.1), (5, .int z50.2.1), (6, .int z50.2.2.1), (7, .int z50.2.2.2.1), (8, .int z50.2.2.2.2.1)]) rfl (fun ls hl => ?_)
          refine lv_iload hx hb dX6_jolt_125 (lv_at hl 5 rfl) ?_
          refine lv_if_eq hx hb dX6_jolt_127 (tgt := 137) rfl (fun hc13 => ?_) (fun hc13 => ?_)
          · replace hf := h_pos hc13 hf
            exact J137 _ _ _ q11.2 z50.2.2.1 z50.2.2.2.1 z50.2.2.2.2.1 u12 (lv_sub hl [1, 2, 3, 4, 7, 8, 9, 0] rfl) hw hf
          replace hf := h_neg hc13 hf
          refine lv_iload hx hb dX6_jolt_130 (lv_at hl 0 rfl) ?_
          refine lv_iload hx hb dX6_jolt_132 (lv_at hl 6 rfl) ?_
          refine lv_icmp_le hx hb dX6_jolt_134 (tgt := 141) rfl (fun hc15 => ?_) (fun hc15 => ?_)
          · replace hf := h_pos hc15 hf
            exact J141 _ _ _ q11.2 z50.2.1 z50.2.2.1 z50.2.2.2.1 z50.2.2.2.2.1 u12 (lv_sub hl [1, 2, 3, 4, 6, 7, 8, 9, 0] rfl) hw hf
          replace hf := h_neg hc15 hf
          exact J137 _ _ _ q11.2 z50.2.2.1 z50.2.2.2.1 z50.2.2.2.2.1 u12 (lv_sub hl [1, 2, 3, 4, 7, 8, 9, 0] rfl) hw hf
        replace hf := h_neg hc10 hf
        refine lv_goto hx hb dX6_jolt_94 (tgt := 166) rfl ?_
        refine lv_iinc hx hb dX6_jolt_166 hl (k := 8) rfl (congrArg (HAdd.hAdd _) (show Int32.ofInt (1) = 1 by decide)) (by decide) (lv' := [(8, .int (z50.2.2.2.2.1 + 1)), (0, .ref (gg_o g 0)), (1, .int x1), (2, .int x2), (3, .int x3), (4, .int z50.1), (5, .int z50.2.1), (6, .int z50.2.2.1), (7, .int z50.2.2.2.1)]) rfl (fun ls hl => ?_)
        refine lv_goto hx hb dX6_jolt_169 (tgt := 50) rfl ?_
        exact ih50 _ _ _ (z50.1, z50.2.1, z50.2.2.1, z50.2.2.2.1, (z50.2.2.2.2.1 + 1), z50.2.2.2.2.2) (lv_sub hl [1, 2, 3, 4, 5, 6, 7, 8, 0] rfl) hw hf
    refine L50 x1 x2 x3 _ (fun ls H locs e16 e17 e18 S19 hl hw hf => ?_) FU _ _ _ ((0 : Int32), (0 : Int32), (0 : Int32), (0 : Int32), (0 : Int32), q7) (lv_sub hl [5, 6, 7, 8, 4, 3, 2, 1, 0] rfl) hw (h_assoc hf)
    try dsimp only at hf
    refine lv_iload_n hx hb dX6_jolt_172 rfl (lv_at hl 0 rfl) ?_
    refine lv_if_ne hx hb dX6_jolt_173 (tgt := 181) rfl (fun hc20 => ?_) (fun hc20 => ?_)
    · replace hf := h_neg hc20 hf
      refine lv_iload_n hx hb dX6_jolt_181 rfl (lv_at hl 0 rfl) ?_
      refine lv_iconst (v := 1) hx hb dX6_jolt_182 (by decide) ?_
      refine lv_icmp_ne hx hb dX6_jolt_183 (tgt := 191) rfl (fun hc21 => ?_) (fun hc21 => ?_)
      · replace hf := h_neg hc21 hf
        refine lv_iload hx hb dX6_jolt_191 (lv_at hl 3 rfl) ?_
        exact r_iretw cx hw hr hlk hf dX6_jolt_193
      replace hf := h_pos hc21 hf
      refine lv_iload hx hb dX6_jolt_186 (lv_at hl 2 rfl) ?_
      refine lv_goto hx hb dX6_jolt_188 (tgt := 193) rfl ?_
      exact r_iretw cx hw hr hlk hf dX6_jolt_193
    replace hf := h_pos hc20 hf
    refine lv_iload hx hb dX6_jolt_176 (lv_at hl 1 rfl) ?_
    refine lv_goto hx hb dX6_jolt_178 (tgt := 193) rfl ?_
    exact r_iretw cx hw hr hlk hf dX6_jolt_193
  replace hf := h_pos hc6 hf
  refine lv_sipush (v := -1000) hx hb dX6_jolt_27 (by decide) ?_
  exact r_iretw cx hw hr hlk hf dX6_jolt_30
theorem dX6_tell_0 : decode cX6_tell 0 = .ok (.aload_n 0, 1) := by decide +kernel
theorem dX6_tell_1 : decode cX6_tell 1 = .ok (.getfield 278, 3) := by decide +kernel
theorem dX6_tell_4 : decode cX6_tell 4 = .ok (.bipush 20, 2) := by decide +kernel
theorem dX6_tell_6 : decode cX6_tell 6 = .ok (.if_icmp .eq 29, 3) := by decide +kernel
theorem dX6_tell_9 : decode cX6_tell 9 = .ok (.aload_n 0, 1) := by decide +kernel
theorem dX6_tell_10 : decode cX6_tell 10 = .ok (.iload_n 1, 1) := by decide +kernel
theorem dX6_tell_11 : decode cX6_tell 11 = .ok (.invokevirtual 416, 3) := by decide +kernel
theorem dX6_tell_14 : decode cX6_tell 14 = .ok (.ifCond .eq 21, 3) := by decide +kernel
theorem dX6_tell_17 : decode cX6_tell 17 = .ok (.iload_n 2, 1) := by decide +kernel
theorem dX6_tell_18 : decode cX6_tell 18 = .ok (.iconst 0, 1) := by decide +kernel
theorem dX6_tell_19 : decode cX6_tell 19 = .ok (.bipush 99, 2) := by decide +kernel
theorem dX6_tell_21 : decode cX6_tell 21 = .ok (.invokestatic 341, 3) := by decide +kernel
theorem dX6_tell_24 : decode cX6_tell 24 = .ok (.ifCond .eq 11, 3) := by decide +kernel
theorem dX6_tell_27 : decode cX6_tell 27 = .ok (.aload_n 0, 1) := by decide +kernel
theorem dX6_tell_28 : decode cX6_tell 28 = .ok (.iload_n 3, 1) := by decide +kernel
theorem dX6_tell_29 : decode cX6_tell 29 = .ok (.invokevirtual 410, 3) := by decide +kernel
theorem dX6_tell_32 : decode cX6_tell 32 = .ok (.ifCond .ne 5, 3) := by decide +kernel
theorem dX6_tell_35 : decode cX6_tell 35 = .ok (.iconst (-1), 1) := by decide +kernel
theorem dX6_tell_36 : decode cX6_tell 36 = .ok (.ireturn, 1) := by decide +kernel
theorem dX6_tell_37 : decode cX6_tell 37 = .ok (.aload_n 0, 1) := by decide +kernel
theorem dX6_tell_38 : decode cX6_tell 38 = .ok (.getfield 155, 3) := by decide +kernel
theorem dX6_tell_41 : decode cX6_tell 41 = .ok (.aload_n 0, 1) := by decide +kernel
theorem dX6_tell_42 : decode cX6_tell 42 = .ok (.getfield 278, 3) := by decide +kernel
theorem dX6_tell_45 : decode cX6_tell 45 = .ok (.iload_n 1, 1) := by decide +kernel
theorem dX6_tell_46 : decode cX6_tell 46 = .ok (.iastore, 1) := by decide +kernel
theorem dX6_tell_47 : decode cX6_tell 47 = .ok (.aload_n 0, 1) := by decide +kernel
theorem dX6_tell_48 : decode cX6_tell 48 = .ok (.getfield 158, 3) := by decide +kernel
theorem dX6_tell_51 : decode cX6_tell 51 = .ok (.aload_n 0, 1) := by decide +kernel
theorem dX6_tell_52 : decode cX6_tell 52 = .ok (.getfield 278, 3) := by decide +kernel
theorem dX6_tell_55 : decode cX6_tell 55 = .ok (.iload_n 2, 1) := by decide +kernel
theorem dX6_tell_56 : decode cX6_tell 56 = .ok (.iastore, 1) := by decide +kernel
theorem dX6_tell_57 : decode cX6_tell 57 = .ok (.aload_n 0, 1) := by decide +kernel
theorem dX6_tell_58 : decode cX6_tell 58 = .ok (.getfield 161, 3) := by decide +kernel
theorem dX6_tell_61 : decode cX6_tell 61 = .ok (.aload_n 0, 1) := by decide +kernel
theorem dX6_tell_62 : decode cX6_tell 62 = .ok (.getfield 278, 3) := by decide +kernel
theorem dX6_tell_65 : decode cX6_tell 65 = .ok (.iload_n 3, 1) := by decide +kernel
theorem dX6_tell_66 : decode cX6_tell 66 = .ok (.iastore, 1) := by decide +kernel
theorem dX6_tell_67 : decode cX6_tell 67 = .ok (.aload_n 0, 1) := by decide +kernel
theorem dX6_tell_68 : decode cX6_tell 68 = .ok (.getfield 164, 3) := by decide +kernel
theorem dX6_tell_71 : decode cX6_tell 71 = .ok (.aload_n 0, 1) := by decide +kernel
theorem dX6_tell_72 : decode cX6_tell 72 = .ok (.getfield 278, 3) := by decide +kernel
theorem dX6_tell_75 : decode cX6_tell 75 = .ok (.iload 4, 2) := by decide +kernel
theorem dX6_tell_77 : decode cX6_tell 77 = .ok (.bastore, 1) := by decide +kernel
theorem dX6_tell_78 : decode cX6_tell 78 = .ok (.aload_n 0, 1) := by decide +kernel
theorem dX6_tell_79 : decode cX6_tell 79 = .ok (.dup, 1) := by decide +kernel
theorem dX6_tell_80 : decode cX6_tell 80 = .ok (.getfield 278, 3) := by decide +kernel
theorem dX6_tell_83 : decode cX6_tell 83 = .ok (.iconst 1, 1) := by decide +kernel
theorem dX6_tell_84 : decode cX6_tell 84 = .ok (.iadd, 1) := by decide +kernel
theorem dX6_tell_85 : decode cX6_tell 85 = .ok (.putfield 278, 3) := by decide +kernel
theorem dX6_tell_88 : decode cX6_tell 88 = .ok (.aload_n 0, 1) := by decide +kernel
theorem dX6_tell_89 : decode cX6_tell 89 = .ok (.getfield 278, 3) := by decide +kernel
theorem dX6_tell_92 : decode cX6_tell 92 = .ok (.iconst 1, 1) := by decide +kernel
theorem dX6_tell_93 : decode cX6_tell 93 = .ok (.isub, 1) := by decide +kernel
theorem dX6_tell_94 : decode cX6_tell 94 = .ok (.ireturn, 1) := by decide +kernel
abbrev rm_X6_tell : Room := { frames := 2, cells := 0, slots := 0, locals := 43 }
def f_X6_tell (S : St) (x1 : Int32) (x2 : Int32) (x3 : Int32) (x4 : Int32) : Option (Int32 × St) :=
  if (st_I S (ky 0 67)) = (20 : Int32) then (some ((-1 : Int32), S)) else ((f_X6_isMirror  S x1).bind (fun (q2 : Int32) => if q2 = 0 then (some ((-1 : Int32), S)) else ((f_X6_in   x2 (0 : Int32) (99 : Int32)).bind (fun (q4 : Int32) => if q4 = 0 then (some ((-1 : Int32), S)) else ((f_X6_isMan  S x3).bind (fun (q6 : Int32) => if q6 = 0 then (some ((-1 : Int32), S)) else (chk (ib (st_I S (ky 0 67)) 20) (lt_v (up_A S (ky 0 68) (upd (st_A S (ky 0 68)) (st_I S (ky 0 67)).toNatClampNeg x1)) (fun (S8 : St) => chk (ib (st_I S8 (ky 0 67)) 20) (lt_v (up_A S8 (ky 0 69) (upd (st_A S8 (ky 0 69)) (st_I S8 (ky 0 67)).toNatClampNeg x2)) (fun (S9 : St) => chk (ib (st_I S9 (ky 0 67)) 20) (lt_v (up_A S9 (ky 0 70) (upd (st_A S9 (ky 0 70)) (st_I S9 (ky 0 67)).toNatClampNeg x3)) (fun (S10 : St) => chk (ib (st_I S10 (ky 0 67)) 20) (lt_v (up_A S10 (ky 0 71) (upd (st_A S10 (ky 0 71)) (st_I S10 (ky 0 67)).toNatClampNeg (vp_nar .boolean x4))) (fun (S11 : St) => lt_v (up_I S11 (ky 0 67) ((st_I S11 (ky 0 67)) + (1 : Int32))) (fun (S12 : St) => some (((st_I S12 (ky 0 67)) - (1 : Int32)), S12)))))))))))))))))
set_option maxRecDepth 100000 in
set_option maxHeartbeats 4000000 in
theorem k_X6_tell (l : Launch) (g : GG) (hg : gd wd_M g)  (hM : hs wd_M g 0 6) (S : St) (x1 : Int32) (x2 : Int32) (x3 : Int32) (x4 : Int32) (q : Int32 × St) (hf : f_X6_tell  S x1 x2 x3 x4 = some q) : Met l yX6_tell (Cond.code yX6_tell cX6_tell 5 (some .int) :: gw_tbl) rm_X6_tell (va_Pc [.ref (gg_o g 0), .int x1, .int x2, .int x3, .int x4] (wI wd_M g S)) (qc_w wd_M g q) 0 0 (aw g) := by
  refine mt_start (own := RX6) hg (by decide) rfl (Nat.le_of_ble_eq_true rfl) (fun p e s m args below meth c ls H locs cx hw hr hlk hl => ?_)
  have hx := cx.1
  have hb := cx.2.1
  have hown := cx.2.2.2.1
  have hts := cx.2.2.2.2.1
  have hl : lv_has ls 5 [(0, .ref (gg_o g 0)), (1, .int x1), (2, .int x2), (3, .int x3), (4, .int x4)] := hl
  replace hf := h_top hf
  unfold f_X6_tell at hf
  refine lv_aload_n hx hb dX6_tell_0 rfl (lv_at hl 0 rfl) ?_
  refine gf_X6_278 cx hw hM dX6_tell_1 ?_
  refine lv_bipush (v := 20) hx hb dX6_tell_4 (by decide) ?_
  refine lv_icmp_eq hx hb dX6_tell_6 (tgt := 35) rfl (fun hc1 => ?_) (fun hc1 => ?_)
  · replace hf := h_pos hc1 hf
    refine lv_iconst (v := -1) hx hb dX6_tell_35 (by decide) ?_
    exact r_iretw cx hw hr hlk hf dX6_tell_36
  replace hf := h_neg hc1 hf
  refine lv_aload_n hx hb dX6_tell_9 rfl (lv_at hl 0 rfl) ?_
  refine lv_iload_n hx hb dX6_tell_10 rfl (lv_at hl 1 rfl) ?_
  refine r_V_i (As := [.int x1]) (rest := []) cx hw hf hM.2.1 (by rw [hM.1]; rfl) lk_X6_416 (fun q2 hq => k_X6_isMirror l g hg  hM S x1 q2 hq) ⟨⟨rfl, rfl⟩, Nat.le_of_ble_eq_true rfl, Nat.le_of_ble_eq_true rfl⟩ rfl hl.1 rfl (Nat.le_of_ble_eq_true rfl) dX6_tell_11 ⟨Nat.zero_le _, Nat.zero_le _⟩ (fun q2 H locs hw hf => ?_)
  refine lv_if_eq hx hb dX6_tell_14 (tgt := 35) rfl (fun hc3 => ?_) (fun hc3 => ?_)
  · replace hf := h_pos hc3 hf
    refine lv_iconst (v := -1) hx hb dX6_tell_35 (by decide) ?_
    exact r_iretw cx hw hr hlk hf dX6_tell_36
  replace hf := h_neg hc3 hf
  refine lv_iload_n hx hb dX6_tell_17 rfl (lv_at hl 2 rfl) ?_
  refine lv_iconst (v := 0) hx hb dX6_tell_18 (by decide) ?_
  refine lv_bipush (v := 99) hx hb dX6_tell_19 (by decide) ?_
  refine r_S_i (As := [.int x2, .int (0 : Int32), .int (99 : Int32)]) (rest := []) cx hw hf lk_X6_341 (fun q4 hq => k_X6_in l g hg   S x2 (0 : Int32) (99 : Int32) q4 hq) ⟨⟨rfl, rfl⟩, Nat.le_of_ble_eq_true rfl, Nat.le_of_ble_eq_true rfl⟩ rfl hl.1 rfl (Nat.le_of_ble_eq_true rfl) dX6_tell_21 ⟨Nat.zero_le _, Nat.zero_le _⟩ (fun q4 H locs hw hf => ?_)
  refine lv_if_eq hx hb dX6_tell_24 (tgt := 35) rfl (fun hc5 => ?_) (fun hc5 => ?_)
  · replace hf := h_pos hc5 hf
    refine lv_iconst (v := -1) hx hb dX6_tell_35 (by decide) ?_
    exact r_iretw cx hw hr hlk hf dX6_tell_36
  replace hf := h_neg hc5 hf
  refine lv_aload_n hx hb dX6_tell_27 rfl (lv_at hl 0 rfl) ?_
  refine lv_iload_n hx hb dX6_tell_28 rfl (lv_at hl 3 rfl) ?_
  refine r_V_i (As := [.int x3]) (rest := []) cx hw hf hM.2.1 (by rw [hM.1]; rfl) lk_X6_410 (fun q6 hq => k_X6_isMan l g hg  hM S x3 q6 hq) ⟨⟨rfl, rfl⟩, Nat.le_of_ble_eq_true rfl, Nat.le_of_ble_eq_true rfl⟩ rfl hl.1 rfl (Nat.le_of_ble_eq_true rfl) dX6_tell_29 ⟨Nat.zero_le _, Nat.zero_le _⟩ (fun q6 H locs hw hf => ?_)
  refine lv_if_ne hx hb dX6_tell_32 (tgt := 37) rfl (fun hc7 => ?_) (fun hc7 => ?_)
  · replace hf := h_neg hc7 hf
    refine lv_aload_n hx hb dX6_tell_37 rfl (lv_at hl 0 rfl) ?_
    refine gf_X6_155 cx hw hM dX6_tell_38 ?_
    refine lv_aload_n hx hb dX6_tell_41 rfl (lv_at hl 0 rfl) ?_
    refine gf_X6_278 cx hw hM dX6_tell_42 ?_
    refine lv_iload_n hx hb dX6_tell_45 rfl (lv_at hl 1 rfl) ?_
    refine r_iast cx hw (hM.2.2.1 68 rfl) rfl rfl hf dX6_tell_46 (fun S8 H locs hw hf => ?_)
    refine lv_aload_n hx hb dX6_tell_47 rfl (lv_at hl 0 rfl) ?_
    refine gf_X6_158 cx hw hM dX6_tell_48 ?_
    refine lv_aload_n hx hb dX6_tell_51 rfl (lv_at hl 0 rfl) ?_
    refine gf_X6_278 cx hw hM dX6_tell_52 ?_
    refine lv_iload_n hx hb dX6_tell_55 rfl (lv_at hl 2 rfl) ?_
    refine r_iast cx hw (hM.2.2.1 69 rfl) rfl rfl hf dX6_tell_56 (fun S9 H locs hw hf => ?_)
    refine lv_aload_n hx hb dX6_tell_57 rfl (lv_at hl 0 rfl) ?_
    refine gf_X6_161 cx hw hM dX6_tell_58 ?_
    refine lv_aload_n hx hb dX6_tell_61 rfl (lv_at hl 0 rfl) ?_
    refine gf_X6_278 cx hw hM dX6_tell_62 ?_
    refine lv_iload_n hx hb dX6_tell_65 rfl (lv_at hl 3 rfl) ?_
    refine r_iast cx hw (hM.2.2.1 70 rfl) rfl rfl hf dX6_tell_66 (fun S10 H locs hw hf => ?_)
    refine lv_aload_n hx hb dX6_tell_67 rfl (lv_at hl 0 rfl) ?_
    refine gf_X6_164 cx hw hM dX6_tell_68 ?_
    refine lv_aload_n hx hb dX6_tell_71 rfl (lv_at hl 0 rfl) ?_
    refine gf_X6_278 cx hw hM dX6_tell_72 ?_
    refine lv_iload hx hb dX6_tell_75 (lv_at hl 4 rfl) ?_
    refine r_zast cx hw (hM.2.2.1 71 rfl) rfl rfl hf dX6_tell_77 (fun S11 H locs hw hf => ?_)
    refine lv_aload_n hx hb dX6_tell_78 rfl (lv_at hl 0 rfl) ?_
    refine lv_dup hx hb dX6_tell_79 rfl ?_
    refine gf_X6_278 cx hw hM dX6_tell_80 ?_
    refine lv_iconst (v := 1) hx hb dX6_tell_83 (by decide) ?_
    refine lv_iadd hx hb dX6_tell_84 ?_
    refine pf_X6_278 cx hw hM hf dX6_tell_85 (fun S12 H locs hw hf => ?_)
    refine lv_aload_n hx hb dX6_tell_88 rfl (lv_at hl 0 rfl) ?_
    refine gf_X6_278 cx hw hM dX6_tell_89 ?_
    refine lv_iconst (v := 1) hx hb dX6_tell_92 (by decide) ?_
    refine lv_isub hx hb dX6_tell_93 ?_
    exact r_iretw cx hw hr hlk hf dX6_tell_94
  replace hf := h_pos hc7 hf
  refine lv_iconst (v := -1) hx hb dX6_tell_35 (by decide) ?_
  exact r_iretw cx hw hr hlk hf dX6_tell_36
theorem dX6_forget_0 : decode cX6_forget 0 = .ok (.aload_n 0, 1) := by decide +kernel
theorem dX6_forget_1 : decode cX6_forget 1 = .ok (.getfield 278, 3) := by decide +kernel
theorem dX6_forget_4 : decode cX6_forget 4 = .ok (.istore_n 1, 1) := by decide +kernel
theorem dX6_forget_5 : decode cX6_forget 5 = .ok (.aload_n 0, 1) := by decide +kernel
theorem dX6_forget_6 : decode cX6_forget 6 = .ok (.iconst 0, 1) := by decide +kernel
theorem dX6_forget_7 : decode cX6_forget 7 = .ok (.putfield 278, 3) := by decide +kernel
theorem dX6_forget_10 : decode cX6_forget 10 = .ok (.iload_n 1, 1) := by decide +kernel
theorem dX6_forget_11 : decode cX6_forget 11 = .ok (.ireturn, 1) := by decide +kernel
abbrev rm_X6_forget : Room := { frames := 0, cells := 0, slots := 0, locals := 0 }
def f_X6_forget (S : St)  : Option (Int32 × St) :=
  lt_v (up_I S (ky 0 67) (0 : Int32)) (fun (S1 : St) => some ((st_I S (ky 0 67)), S1))
set_option maxRecDepth 100000 in
set_option maxHeartbeats 4000000 in
theorem k_X6_forget (l : Launch) (g : GG) (hg : gd wd_M g)  (hM : hs wd_M g 0 6) (S : St)  (q : Int32 × St) (hf : f_X6_forget  S  = some q) : Met l yX6_forget (Cond.code yX6_forget cX6_forget 2 (some .int) :: gw_tbl) rm_X6_forget (va_Pc [.ref (gg_o g 0)] (wI wd_M g S)) (qc_w wd_M g q) 0 0 (aw g) := by
  refine mt_start (own := RX6) hg (by decide) rfl (Nat.le_of_ble_eq_true rfl) (fun p e s m args below meth c ls H locs cx hw hr hlk hl => ?_)
  have hx := cx.1
  have hb := cx.2.1
  have hown := cx.2.2.2.1
  have hts := cx.2.2.2.2.1
  have hl : lv_has ls 2 [(0, .ref (gg_o g 0))] := hl
  replace hf := h_top hf
  unfold f_X6_forget at hf
  refine lv_aload_n hx hb dX6_forget_0 rfl (lv_at hl 0 rfl) ?_
  refine gf_X6_278 cx hw hM dX6_forget_1 ?_
  refine lv_istore_n hx hb dX6_forget_4 rfl hl (by decide) (lv' := [(1, .int (st_I S (ky 0 67))), (0, .ref (gg_o g 0))]) rfl (fun ls hl => ?_)
  refine lv_aload_n hx hb dX6_forget_5 rfl (lv_at hl 1 rfl) ?_
  refine lv_iconst (v := 0) hx hb dX6_forget_6 (by decide) ?_
  refine pf_X6_278 cx hw hM hf dX6_forget_7 (fun S1 H locs hw hf => ?_)
  refine lv_iload_n hx hb dX6_forget_10 rfl (lv_at hl 0 rfl) ?_
  exact r_iretw cx hw hr hlk hf dX6_forget_11
theorem dX6_isSo_0 : decode cX6_isSo 0 = .ok (.aload_n 0, 1) := by decide +kernel
theorem dX6_isSo_1 : decode cX6_isSo 1 = .ok (.iload_n 1, 1) := by decide +kernel
theorem dX6_isSo_2 : decode cX6_isSo 2 = .ok (.iload_n 2, 1) := by decide +kernel
theorem dX6_isSo_3 : decode cX6_isSo 3 = .ok (.invokevirtual 357, 3) := by decide +kernel
theorem dX6_isSo_6 : decode cX6_isSo 6 = .ok (.iconst 0, 1) := by decide +kernel
theorem dX6_isSo_7 : decode cX6_isSo 7 = .ok (.istore 4, 2) := by decide +kernel
theorem dX6_isSo_9 : decode cX6_isSo 9 = .ok (.iconst 0, 1) := by decide +kernel
theorem dX6_isSo_10 : decode cX6_isSo 10 = .ok (.istore 5, 2) := by decide +kernel
theorem dX6_isSo_12 : decode cX6_isSo 12 = .ok (.iload 5, 2) := by decide +kernel
theorem dX6_isSo_14 : decode cX6_isSo 14 = .ok (.iload_n 3, 1) := by decide +kernel
theorem dX6_isSo_15 : decode cX6_isSo 15 = .ok (.if_icmp .ge 30, 3) := by decide +kernel
theorem dX6_isSo_18 : decode cX6_isSo 18 = .ok (.aload_n 0, 1) := by decide +kernel
theorem dX6_isSo_19 : decode cX6_isSo 19 = .ok (.getfield 158, 3) := by decide +kernel
theorem dX6_isSo_22 : decode cX6_isSo 22 = .ok (.iload 5, 2) := by decide +kernel
theorem dX6_isSo_24 : decode cX6_isSo 24 = .ok (.iaload, 1) := by decide +kernel
theorem dX6_isSo_25 : decode cX6_isSo 25 = .ok (.iload 4, 2) := by decide +kernel
theorem dX6_isSo_27 : decode cX6_isSo 27 = .ok (.if_icmp .le 12, 3) := by decide +kernel
theorem dX6_isSo_30 : decode cX6_isSo 30 = .ok (.aload_n 0, 1) := by decide +kernel
theorem dX6_isSo_31 : decode cX6_isSo 31 = .ok (.getfield 158, 3) := by decide +kernel
theorem dX6_isSo_34 : decode cX6_isSo 34 = .ok (.iload 5, 2) := by decide +kernel
theorem dX6_isSo_36 : decode cX6_isSo 36 = .ok (.iaload, 1) := by decide +kernel
theorem dX6_isSo_37 : decode cX6_isSo 37 = .ok (.istore 4, 2) := by decide +kernel
theorem dX6_isSo_39 : decode cX6_isSo 39 = .ok (.iinc 5 1, 3) := by decide +kernel
theorem dX6_isSo_42 : decode cX6_isSo 42 = .ok (.goto (-30), 3) := by decide +kernel
theorem dX6_isSo_45 : decode cX6_isSo 45 = .ok (.aload_n 0, 1) := by decide +kernel
theorem dX6_isSo_46 : decode cX6_isSo 46 = .ok (.iload 4, 2) := by decide +kernel
theorem dX6_isSo_48 : decode cX6_isSo 48 = .ok (.invokevirtual 425, 3) := by decide +kernel
theorem dX6_isSo_51 : decode cX6_isSo 51 = .ok (.iconst 0, 1) := by decide +kernel
theorem dX6_isSo_52 : decode cX6_isSo 52 = .ok (.istore 5, 2) := by decide +kernel
theorem dX6_isSo_54 : decode cX6_isSo 54 = .ok (.iload 5, 2) := by decide +kernel
theorem dX6_isSo_56 : decode cX6_isSo 56 = .ok (.iload_n 3, 1) := by decide +kernel
theorem dX6_isSo_57 : decode cX6_isSo 57 = .ok (.if_icmp .ge 46, 3) := by decide +kernel
theorem dX6_isSo_60 : decode cX6_isSo 60 = .ok (.aload_n 0, 1) := by decide +kernel
theorem dX6_isSo_61 : decode cX6_isSo 61 = .ok (.aload_n 0, 1) := by decide +kernel
theorem dX6_isSo_62 : decode cX6_isSo 62 = .ok (.getfield 155, 3) := by decide +kernel
theorem dX6_isSo_65 : decode cX6_isSo 65 = .ok (.iload 5, 2) := by decide +kernel
theorem dX6_isSo_67 : decode cX6_isSo 67 = .ok (.iaload, 1) := by decide +kernel
theorem dX6_isSo_68 : decode cX6_isSo 68 = .ok (.aload_n 0, 1) := by decide +kernel
theorem dX6_isSo_69 : decode cX6_isSo 69 = .ok (.getfield 158, 3) := by decide +kernel
theorem dX6_isSo_72 : decode cX6_isSo 72 = .ok (.iload 5, 2) := by decide +kernel
theorem dX6_isSo_74 : decode cX6_isSo 74 = .ok (.iaload, 1) := by decide +kernel
theorem dX6_isSo_75 : decode cX6_isSo 75 = .ok (.aload_n 0, 1) := by decide +kernel
theorem dX6_isSo_76 : decode cX6_isSo 76 = .ok (.getfield 161, 3) := by decide +kernel
theorem dX6_isSo_79 : decode cX6_isSo 79 = .ok (.iload 5, 2) := by decide +kernel
theorem dX6_isSo_81 : decode cX6_isSo 81 = .ok (.iaload, 1) := by decide +kernel
theorem dX6_isSo_82 : decode cX6_isSo 82 = .ok (.invokevirtual 462, 3) := by decide +kernel
theorem dX6_isSo_85 : decode cX6_isSo 85 = .ok (.aload_n 0, 1) := by decide +kernel
theorem dX6_isSo_86 : decode cX6_isSo 86 = .ok (.getfield 164, 3) := by decide +kernel
theorem dX6_isSo_89 : decode cX6_isSo 89 = .ok (.iload 5, 2) := by decide +kernel
theorem dX6_isSo_91 : decode cX6_isSo 91 = .ok (.baload, 1) := by decide +kernel
theorem dX6_isSo_92 : decode cX6_isSo 92 = .ok (.if_icmp .eq 5, 3) := by decide +kernel
theorem dX6_isSo_95 : decode cX6_isSo 95 = .ok (.iconst 0, 1) := by decide +kernel
theorem dX6_isSo_96 : decode cX6_isSo 96 = .ok (.ireturn, 1) := by decide +kernel
theorem dX6_isSo_97 : decode cX6_isSo 97 = .ok (.iinc 5 1, 3) := by decide +kernel
theorem dX6_isSo_100 : decode cX6_isSo 100 = .ok (.goto (-46), 3) := by decide +kernel
theorem dX6_isSo_103 : decode cX6_isSo 103 = .ok (.iconst 1, 1) := by decide +kernel
theorem dX6_isSo_104 : decode cX6_isSo 104 = .ok (.ireturn, 1) := by decide +kernel
abbrev rm_X6_isSo : Room := { frames := 6, cells := 0, slots := 0, locals := 142 }
def f_X6_isSo_L12 (S : St) (x3 : Int32) (z12 : Int32 × Int32) : Option ((Int32 × Int32) ⊕ (Int32)) :=
  if x3 ≤ z12.2 then (some (.inr z12.1)) else (chk (ib z12.2 20) (if (st_A S (ky 0 69) z12.2.toNatClampNeg) ≤ z12.1 then (some (.inl (z12.1, (z12.2 + 1)))) else (chk (ib z12.2 20) (some (.inl ((st_A S (ky 0 69) z12.2.toNatClampNeg), (z12.2 + 1)))))))
def f_X6_isSo_L54 (S : St) (x3 : Int32) (z54 : Int32) : Option ((Int32) ⊕ (Int32 × St)) :=
  if x3 ≤ z54 then (some (.inr ((1 : Int32), S))) else (chk (ib z54 20) (chk (ib z54 20) (chk (ib z54 20) ((f_X6_isSeenIn  S (st_A S (ky 0 68) z54.toNatClampNeg) (st_A S (ky 0 69) z54.toNatClampNeg) (st_A S (ky 0 70) z54.toNatClampNeg)).bind (fun (q7 : Int32) => chk (ib z54 20) (if q7 = (st_A S (ky 0 71) z54.toNatClampNeg) then (some (.inl (z54 + 1))) else (some (.inr ((0 : Int32), S)))))))))
def f_X6_isSo (S : St) (x1 : Int32) (x2 : Int32) (x3 : Int32) : Option (Int32 × St) :=
  (f_X6_beginsWith  S x1 x2).bind (fun (q1 : St) => (iter (f_X6_isSo_L12  q1 x3) FU ((0 : Int32), (0 : Int32))).bind (fun (e4 : Int32) => (f_X6_goesTill  q1 e4).bind (fun (q5 : St) => iter (f_X6_isSo_L54  q5 x3) FU (0 : Int32))))
set_option maxRecDepth 100000 in
set_option maxHeartbeats 4000000 in
theorem k_X6_isSo (l : Launch) (g : GG) (hg : gd wd_M g)  (hM : hs wd_M g 0 6) (S : St) (x1 : Int32) (x2 : Int32) (x3 : Int32) (q : Int32 × St) (hf : f_X6_isSo  S x1 x2 x3 = some q) : Met l yX6_isSo (Cond.code yX6_isSo cX6_isSo 6 (some .boolean) :: gw_tbl) rm_X6_isSo (va_Pc [.ref (gg_o g 0), .int x1, .int x2, .int x3] (wI wd_M g S)) (qc_w wd_M g q) 0 0 (aw g) := by
  refine mt_start (own := RX6) hg (by decide) rfl (Nat.le_of_ble_eq_true rfl) (fun p e s m args below meth c ls H locs cx hw hr hlk hl => ?_)
  have hx := cx.1
  have hb := cx.2.1
  have hown := cx.2.2.2.1
  have hts := cx.2.2.2.2.1
  have hl : lv_has ls 6 [(0, .ref (gg_o g 0)), (1, .int x1), (2, .int x2), (3, .int x3)] := hl
  replace hf := h_top hf
  unfold f_X6_isSo at hf
  refine lv_aload_n hx hb dX6_isSo_0 rfl (lv_at hl 0 rfl) ?_
  refine lv_iload_n hx hb dX6_isSo_1 rfl (lv_at hl 1 rfl) ?_
  refine lv_iload_n hx hb dX6_isSo_2 rfl (lv_at hl 2 rfl) ?_
  refine r_V_v (As := [.int x1, .int x2]) (rest := []) cx hw hf hM.2.1 (by rw [hM.1]; rfl) lk_X6_357 (fun q1 hq => k_X6_beginsWith l g hg  hM S x1 x2 q1 hq) ⟨⟨rfl, rfl⟩, Nat.le_of_ble_eq_true rfl, Nat.le_of_ble_eq_true rfl⟩ rfl hl.1 rfl (Nat.le_of_ble_eq_true rfl) dX6_isSo_3 ⟨Nat.zero_le _, Nat.zero_le _⟩ (fun q1 H locs hw hf => ?_)
  refine lv_iconst (v := 0) hx hb dX6_isSo_6 (by decide) ?_
  refine lv_istore hx hb dX6_isSo_7 hl (by decide) (lv' := [(4, .int (0 : Int32)), (0, .ref (gg_o g 0)), (1, .int x1), (2, .int x2), (3, .int x3)]) rfl (fun ls hl => ?_)
  refine lv_iconst (v := 0) hx hb dX6_isSo_9 (by decide) ?_
  refine lv_istore hx hb dX6_isSo_10 hl (by decide) (lv' := [(5, .int (0 : Int32)), (4, .int (0 : Int32)), (0, .ref (gg_o g 0)), (1, .int x1), (2, .int x2), (3, .int x3)]) rfl (fun ls hl => ?_)
  have L12 : ∀ (S : St) (x3 : Int32) (aft12 : Int32 → Option (Int32 × St)), (∀ (ls : Array Slot) (H : Heap) (locs : List Loc) (e4 : Int32), lv_has ls 6 [(0, .ref (gg_o g 0)), (3, .int x3), (4, .int e4)] → HH wd_M g s S H locs → aft12 e4 = some q → W p l e rm_X6_isSo s m args below meth c H locs 0 0 (MQ below (qc_w wd_M g q) args s 0 0 (aw g)) (F0 m 45 ls [])) → ∀ (n12 : Nat) (ls : Array Slot) (H : Heap) (locs : List Loc) (z12 : Int32 × Int32), lv_has ls 6 [(0, .ref (gg_o g 0)), (3, .int x3), (4, .int z12.1), (5, .int z12.2)] → HH wd_M g s S H locs → (iter (f_X6_isSo_L12  S x3) n12 z12).bind aft12 = some q → W p l e rm_X6_isSo s m args below meth c H locs 0 0 (MQ below (qc_w wd_M g q) args s 0 0 (aw g)) (F0 m 12 ls []) := by
    intro S x3 aft12 hX12 n12
    induction n12 with
    | zero => intro ls H locs z12 hl hw hf; exact h_iter0 hf
    | succ n12 ih12 =>
      intro ls H locs z12 hl hw hf
      replace hf := h_iter hf
      unfold f_X6_isSo_L12 at hf
      refine lv_iload hx hb dX6_isSo_12 (lv_at hl 3 rfl) ?_
      refine lv_iload_n hx hb dX6_isSo_14 rfl (lv_at hl 1 rfl) ?_
      refine lv_icmp_ge hx hb dX6_isSo_15 (tgt := 45) rfl (fun hc2 => ?_) (fun hc2 => ?_)
      · replace hf := h_pos hc2 hf
        exact hX12 _ _ _ z12.1 (lv_sub hl [0, 1, 2] rfl) hw hf
      replace hf := h_neg hc2 hf
      refine lv_aload_n hx hb dX6_isSo_18 rfl (lv_at hl 0 rfl) ?_
      refine gf_X6_158 cx hw hM dX6_isSo_19 ?_
      refine lv_iload hx hb dX6_isSo_22 (lv_at hl 3 rfl) ?_
      refine r_iald cx hw (hM.2.2.1 69 rfl) rfl rfl hf dX6_isSo_24 (fun hf => ?_)
      refine lv_iload hx hb dX6_isSo_25 (lv_at hl 2 rfl) ?_
      refine lv_icmp_le hx hb dX6_isSo_27 (tgt := 39) rfl (fun hc3 => ?_) (fun hc3 => ?_)
      · replace hf := h_pos hc3 hf
        refine lv_iinc hx hb dX6_isSo_39 hl (k := 3) rfl (congrArg (HAdd.hAdd _) (show Int32.ofInt (1) = 1 by decide)) (by decide) (lv' := [(5, .int (z12.2 + 1)), (0, .ref (gg_o g 0)), (3, .int x3), (4, .int z12.1)]) rfl (fun ls hl => ?_)
        refine lv_goto hx hb dX6_isSo_42 (tgt := 12) rfl ?_
        exact ih12 _ _ _ (z12.1, (z12.2 + 1)) (lv_sub hl [1, 2, 3, 0] rfl) hw hf
      replace hf := h_neg hc3 hf
      refine lv_aload_n hx hb dX6_isSo_30 rfl (lv_at hl 0 rfl) ?_
      refine gf_X6_158 cx hw hM dX6_isSo_31 ?_
      refine lv_iload hx hb dX6_isSo_34 (lv_at hl 3 rfl) ?_
      refine r_iald cx hw (hM.2.2.1 69 rfl) rfl rfl hf dX6_isSo_36 (fun hf => ?_)
      refine lv_istore hx hb dX6_isSo_37 hl (by decide) (lv' := [(4, .int (st_A S (ky 0 69) z12.2.toNatClampNeg)), (0, .ref (gg_o g 0)), (3, .int x3), (5, .int z12.2)]) rfl (fun ls hl => ?_)
      refine lv_iinc hx hb dX6_isSo_39 hl (k := 3) rfl (congrArg (HAdd.hAdd _) (show Int32.ofInt (1) = 1 by decide)) (by decide) (lv' := [(5, .int (z12.2 + 1)), (4, .int (st_A S (ky 0 69) z12.2.toNatClampNeg)), (0, .ref (gg_o g 0)), (3, .int x3)]) rfl (fun ls hl => ?_)
      refine lv_goto hx hb dX6_isSo_42 (tgt := 12) rfl ?_
      exact ih12 _ _ _ ((st_A S (ky 0 69) z12.2.toNatClampNeg), (z12.2 + 1)) (lv_sub hl [2, 3, 1, 0] rfl) hw hf
  refine L12 q1 x3 _ (fun ls H locs e4 hl hw hf => ?_) FU _ _ _ ((0 : Int32), (0 : Int32)) (lv_sub hl [2, 5, 1, 0] rfl) hw (h_assoc hf)
  try dsimp only at hf
  refine lv_aload_n hx hb dX6_isSo_45 rfl (lv_at hl 0 rfl) ?_
  refine lv_iload hx hb dX6_isSo_46 (lv_at hl 2 rfl) ?_
  refine r_V_v (As := [.int e4]) (rest := []) cx hw hf hM.2.1 (by rw [hM.1]; rfl) lk_X6_425 (fun q5 hq => k_X6_goesTill l g hg  hM q1 e4 q5 hq) ⟨⟨rfl, rfl⟩, Nat.le_of_ble_eq_true rfl, Nat.le_of_ble_eq_true rfl⟩ rfl hl.1 rfl (Nat.le_of_ble_eq_true rfl) dX6_isSo_48 ⟨Nat.zero_le _, Nat.zero_le _⟩ (fun q5 H locs hw hf => ?_)
  refine lv_iconst (v := 0) hx hb dX6_isSo_51 (by decide) ?_
  refine lv_istore hx hb dX6_isSo_52 hl (by decide) (lv' := [(5, .int (0 : Int32)), (0, .ref (gg_o g 0)), (3, .int x3), (4, .int e4)]) rfl (fun ls hl => ?_)
  have L54 : ∀ (S : St) (x3 : Int32) (aft54 : (Int32 × St) → Option (Int32 × St)), (∀ v : Int32 × St, aft54 v = some q → (some v : Option (Int32 × St)).bind some = some q) → ∀ (n54 : Nat) (ls : Array Slot) (H : Heap) (locs : List Loc) (z54 : Int32), lv_has ls 6 [(0, .ref (gg_o g 0)), (3, .int x3), (5, .int z54)] → HH wd_M g s S H locs → (iter (f_X6_isSo_L54  S x3) n54 z54).bind aft54 = some q → W p l e rm_X6_isSo s m args below meth c H locs 0 0 (MQ below (qc_w wd_M g q) args s 0 0 (aw g)) (F0 m 54 ls []) := by
    intro S x3 aft54 hR54 n54
    induction n54 with
    | zero => intro ls H locs z54 hl hw hf; exact h_iter0 hf
    | succ n54 ih54 =>
      intro ls H locs z54 hl hw hf
      replace hf := h_iter hf
      unfold f_X6_isSo_L54 at hf
      refine lv_iload hx hb dX6_isSo_54 (lv_at hl 2 rfl) ?_
      refine lv_iload_n hx hb dX6_isSo_56 rfl (lv_at hl 1 rfl) ?_
      refine lv_icmp_ge hx hb dX6_isSo_57 (tgt := 103) rfl (fun hc6 => ?_) (fun hc6 => ?_)
      · replace hf := h_pos hc6 hf
        refine lv_iconst (v := 1) hx hb dX6_isSo_103 (by decide) ?_
        replace hf := hR54 ((1 : Int32), S) hf
        exact r_zretw cx hw hr hlk (Or.inr rfl) hf dX6_isSo_104
      replace hf := h_neg hc6 hf
      refine lv_aload_n hx hb dX6_isSo_60 rfl (lv_at hl 0 rfl) ?_
      refine lv_aload_n hx hb dX6_isSo_61 rfl (lv_at hl 0 rfl) ?_
      refine gf_X6_155 cx hw hM dX6_isSo_62 ?_
      refine lv_iload hx hb dX6_isSo_65 (lv_at hl 2 rfl) ?_
      refine r_iald cx hw (hM.2.2.1 68 rfl) rfl rfl hf dX6_isSo_67 (fun hf => ?_)
      refine lv_aload_n hx hb dX6_isSo_68 rfl (lv_at hl 0 rfl) ?_
      refine gf_X6_158 cx hw hM dX6_isSo_69 ?_
      refine lv_iload hx hb dX6_isSo_72 (lv_at hl 2 rfl) ?_
      refine r_iald cx hw (hM.2.2.1 69 rfl) rfl rfl hf dX6_isSo_74 (fun hf => ?_)
      refine lv_aload_n hx hb dX6_isSo_75 rfl (lv_at hl 0 rfl) ?_
      refine gf_X6_161 cx hw hM dX6_isSo_76 ?_
      refine lv_iload hx hb dX6_isSo_79 (lv_at hl 2 rfl) ?_
      refine r_iald cx hw (hM.2.2.1 70 rfl) rfl rfl hf dX6_isSo_81 (fun hf => ?_)
      refine r_V_i (As := [.int (st_A S (ky 0 68) z54.toNatClampNeg), .int (st_A S (ky 0 69) z54.toNatClampNeg), .int (st_A S (ky 0 70) z54.toNatClampNeg)]) (rest := []) cx hw hf hM.2.1 (by rw [hM.1]; rfl) lk_X6_462 (fun q7 hq => k_X6_isSeenIn l g hg  hM S (st_A S (ky 0 68) z54.toNatClampNeg) (st_A S (ky 0 69) z54.toNatClampNeg) (st_A S (ky 0 70) z54.toNatClampNeg) q7 hq) ⟨⟨rfl, rfl⟩, Nat.le_of_ble_eq_true rfl, Nat.le_of_ble_eq_true rfl⟩ rfl hl.1 rfl (Nat.le_of_ble_eq_true rfl) dX6_isSo_82 ⟨Nat.zero_le _, Nat.zero_le _⟩ (fun q7 H locs hw hf => ?_)
      refine lv_aload_n hx hb dX6_isSo_85 rfl (lv_at hl 0 rfl) ?_
      refine gf_X6_164 cx hw hM dX6_isSo_86 ?_
      refine lv_iload hx hb dX6_isSo_89 (lv_at hl 2 rfl) ?_
      refine r_zald cx hw (hM.2.2.1 71 rfl) rfl rfl hf dX6_isSo_91 (fun hf => ?_)
      refine lv_icmp_eq hx hb dX6_isSo_92 (tgt := 97) rfl (fun hc8 => ?_) (fun hc8 => ?_)
      · replace hf := h_pos hc8 hf
        refine lv_iinc hx hb dX6_isSo_97 hl (k := 2) rfl (congrArg (HAdd.hAdd _) (show Int32.ofInt (1) = 1 by decide)) (by decide) (lv' := [(5, .int (z54 + 1)), (0, .ref (gg_o g 0)), (3, .int x3)]) rfl (fun ls hl => ?_)
        refine lv_goto hx hb dX6_isSo_100 (tgt := 54) rfl ?_
        exact ih54 _ _ _ (z54 + 1) (lv_sub hl [1, 2, 0] rfl) hw hf
      replace hf := h_neg hc8 hf
      refine lv_iconst (v := 0) hx hb dX6_isSo_95 (by decide) ?_
      replace hf := hR54 ((0 : Int32), S) hf
      exact r_zretw cx hw hr hlk (Or.inl rfl) hf dX6_isSo_96
  exact L54 q5 x3 some (fun v h => h) FU _ _ _ (0 : Int32) (lv_sub hl [1, 2, 0] rfl) hw hf
theorem dX6_began_0 : decode cX6_began 0 = .ok (.aload_n 0, 1) := by decide +kernel
theorem dX6_began_1 : decode cX6_began 1 = .ok (.iload_n 1, 1) := by decide +kernel
theorem dX6_began_2 : decode cX6_began 2 = .ok (.invokevirtual 410, 3) := by decide +kernel
theorem dX6_began_5 : decode cX6_began 5 = .ok (.ifCond .eq 20, 3) := by decide +kernel
theorem dX6_began_8 : decode cX6_began 8 = .ok (.iload_n 2, 1) := by decide +kernel
theorem dX6_began_9 : decode cX6_began 9 = .ok (.iconst 0, 1) := by decide +kernel
theorem dX6_began_10 : decode cX6_began 10 = .ok (.aload_n 0, 1) := by decide +kernel
theorem dX6_began_11 : decode cX6_began 11 = .ok (.getfield 278, 3) := by decide +kernel
theorem dX6_began_14 : decode cX6_began 14 = .ok (.invokestatic 341, 3) := by decide +kernel
theorem dX6_began_17 : decode cX6_began 17 = .ok (.ifCond .eq 8, 3) := by decide +kernel
theorem dX6_began_20 : decode cX6_began 20 = .ok (.iload_n 3, 1) := by decide +kernel
theorem dX6_began_21 : decode cX6_began 21 = .ok (.iconst (-1), 1) := by decide +kernel
theorem dX6_began_22 : decode cX6_began 22 = .ok (.if_icmp .ge 5, 3) := by decide +kernel
theorem dX6_began_25 : decode cX6_began 25 = .ok (.iconst (-1), 1) := by decide +kernel
theorem dX6_began_26 : decode cX6_began 26 = .ok (.ireturn, 1) := by decide +kernel
theorem dX6_began_27 : decode cX6_began 27 = .ok (.iconst 0, 1) := by decide +kernel
theorem dX6_began_28 : decode cX6_began 28 = .ok (.istore 4, 2) := by decide +kernel
theorem dX6_began_30 : decode cX6_began 30 = .ok (.iconst 0, 1) := by decide +kernel
theorem dX6_began_31 : decode cX6_began 31 = .ok (.istore 5, 2) := by decide +kernel
theorem dX6_began_33 : decode cX6_began 33 = .ok (.iload 5, 2) := by decide +kernel
theorem dX6_began_35 : decode cX6_began 35 = .ok (.aload_n 0, 1) := by decide +kernel
theorem dX6_began_36 : decode cX6_began 36 = .ok (.getfield 49, 3) := by decide +kernel
theorem dX6_began_39 : decode cX6_began 39 = .ok (.aload_n 0, 1) := by decide +kernel
theorem dX6_began_40 : decode cX6_began 40 = .ok (.getfield 257, 3) := by decide +kernel
theorem dX6_began_43 : decode cX6_began 43 = .ok (.iaload, 1) := by decide +kernel
theorem dX6_began_44 : decode cX6_began 44 = .ok (.if_icmp .ge 35, 3) := by decide +kernel
theorem dX6_began_47 : decode cX6_began 47 = .ok (.aload_n 0, 1) := by decide +kernel
theorem dX6_began_48 : decode cX6_began 48 = .ok (.iload_n 1, 1) := by decide +kernel
theorem dX6_began_49 : decode cX6_began 49 = .ok (.iload 5, 2) := by decide +kernel
theorem dX6_began_51 : decode cX6_began 51 = .ok (.iload_n 2, 1) := by decide +kernel
theorem dX6_began_52 : decode cX6_began 52 = .ok (.invokevirtual 480, 3) := by decide +kernel
theorem dX6_began_55 : decode cX6_began 55 = .ok (.ifCond .ne 6, 3) := by decide +kernel
theorem dX6_began_58 : decode cX6_began 58 = .ok (.goto 15, 3) := by decide +kernel
theorem dX6_began_61 : decode cX6_began 61 = .ok (.iload 4, 2) := by decide +kernel
theorem dX6_began_63 : decode cX6_began 63 = .ok (.iload_n 3, 1) := by decide +kernel
theorem dX6_began_64 : decode cX6_began 64 = .ok (.if_icmp .ne 6, 3) := by decide +kernel
theorem dX6_began_67 : decode cX6_began 67 = .ok (.iload 5, 2) := by decide +kernel
theorem dX6_began_69 : decode cX6_began 69 = .ok (.ireturn, 1) := by decide +kernel
theorem dX6_began_70 : decode cX6_began 70 = .ok (.iinc 4 1, 3) := by decide +kernel
theorem dX6_began_73 : decode cX6_began 73 = .ok (.iinc 5 1, 3) := by decide +kernel
theorem dX6_began_76 : decode cX6_began 76 = .ok (.goto (-43), 3) := by decide +kernel
theorem dX6_began_79 : decode cX6_began 79 = .ok (.iload_n 3, 1) := by decide +kernel
theorem dX6_began_80 : decode cX6_began 80 = .ok (.iconst (-1), 1) := by decide +kernel
theorem dX6_began_81 : decode cX6_began 81 = .ok (.if_icmp .ne 8, 3) := by decide +kernel
theorem dX6_began_84 : decode cX6_began 84 = .ok (.iload 4, 2) := by decide +kernel
theorem dX6_began_86 : decode cX6_began 86 = .ok (.goto 4, 3) := by decide +kernel
theorem dX6_began_89 : decode cX6_began 89 = .ok (.iconst (-1), 1) := by decide +kernel
theorem dX6_began_90 : decode cX6_began 90 = .ok (.ireturn, 1) := by decide +kernel
abbrev rm_X6_began : Room := { frames := 7, cells := 0, slots := 0, locals := 167 }
def f_X6_began_L33 (x1 : Int32) (x2 : Int32) (x3 : Int32) (z33 : Int32 × Int32 × St) : Option ((Int32 × Int32 × St) ⊕ ((Int32 × St) ⊕ (Int32 × St))) :=
  chk (ib (st_I z33.2.2 (ky 0 18)) 2) (if (st_A z33.2.2 (ky 0 24) (st_I z33.2.2 (ky 0 18)).toNatClampNeg) ≤ z33.2.1 then (some (.inr (.inl (z33.1, z33.2.2)))) else ((f_X6_isSo  z33.2.2 x1 z33.2.1 x2).bind (fun (q7 : Int32 × St) => if q7.1 = 0 then (some (.inl (z33.1, (z33.2.1 + 1), q7.2))) else (if z33.1 = x3 then (some (.inr (.inr (z33.2.1, q7.2)))) else (some (.inl ((z33.1 + 1), (z33.2.1 + 1), q7.2)))))))
def f_X6_began (S : St) (x1 : Int32) (x2 : Int32) (x3 : Int32) : Option (Int32 × St) :=
  (f_X6_isMan  S x1).bind (fun (q1 : Int32) => if q1 = 0 then (some ((-1 : Int32), S)) else ((f_X6_in   x2 (0 : Int32) (st_I S (ky 0 67))).bind (fun (q3 : Int32) => if q3 = 0 then (some ((-1 : Int32), S)) else (if (-1 : Int32) ≤ x3 then ((iter (f_X6_began_L33   x1 x2 x3) FU ((0 : Int32), (0 : Int32), S)).bind fun z => match z with | .inl z => (fun (u13 : Int32 × St) => (fun (e10 : Int32) (S11 : St) => if x3 = (-1 : Int32) then (some (e10, S11)) else (some ((-1 : Int32), S11))) u13.1 u13.2) z | .inr v14 => some v14) else (some ((-1 : Int32), S))))))
set_option maxRecDepth 100000 in
set_option maxHeartbeats 4000000 in
theorem k_X6_began (l : Launch) (g : GG) (hg : gd wd_M g)  (hM : hs wd_M g 0 6) (S : St) (x1 : Int32) (x2 : Int32) (x3 : Int32) (q : Int32 × St) (hf : f_X6_began  S x1 x2 x3 = some q) : Met l yX6_began (Cond.code yX6_began cX6_began 6 (some .int) :: gw_tbl) rm_X6_began (va_Pc [.ref (gg_o g 0), .int x1, .int x2, .int x3] (wI wd_M g S)) (qc_w wd_M g q) 0 0 (aw g) := by
  refine mt_start (own := RX6) hg (by decide) rfl (Nat.le_of_ble_eq_true rfl) (fun p e s m args below meth c ls H locs cx hw hr hlk hl => ?_)
  have hx := cx.1
  have hb := cx.2.1
  have hown := cx.2.2.2.1
  have hts := cx.2.2.2.2.1
  have hl : lv_has ls 6 [(0, .ref (gg_o g 0)), (1, .int x1), (2, .int x2), (3, .int x3)] := hl
  replace hf := h_top hf
  unfold f_X6_began at hf
  refine lv_aload_n hx hb dX6_began_0 rfl (lv_at hl 0 rfl) ?_
  refine lv_iload_n hx hb dX6_began_1 rfl (lv_at hl 1 rfl) ?_
  refine r_V_i (As := [.int x1]) (rest := []) cx hw hf hM.2.1 (by rw [hM.1]; rfl) lk_X6_410 (fun q1 hq => k_X6_isMan l g hg  hM S x1 q1 hq) ⟨⟨rfl, rfl⟩, Nat.le_of_ble_eq_true rfl, Nat.le_of_ble_eq_true rfl⟩ rfl hl.1 rfl (Nat.le_of_ble_eq_true rfl) dX6_began_2 ⟨Nat.zero_le _, Nat.zero_le _⟩ (fun q1 H locs hw hf => ?_)
  refine lv_if_eq hx hb dX6_began_5 (tgt := 25) rfl (fun hc2 => ?_) (fun hc2 => ?_)
  · replace hf := h_pos hc2 hf
    refine lv_iconst (v := -1) hx hb dX6_began_25 (by decide) ?_
    exact r_iretw cx hw hr hlk hf dX6_began_26
  replace hf := h_neg hc2 hf
  refine lv_iload_n hx hb dX6_began_8 rfl (lv_at hl 2 rfl) ?_
  refine lv_iconst (v := 0) hx hb dX6_began_9 (by decide) ?_
  refine lv_aload_n hx hb dX6_began_10 rfl (lv_at hl 0 rfl) ?_
  refine gf_X6_278 cx hw hM dX6_began_11 ?_
  refine r_S_i (As := [.int x2, .int (0 : Int32), .int (st_I S (ky 0 67))]) (rest := []) cx hw hf lk_X6_341 (fun q3 hq => k_X6_in l g hg   S x2 (0 : Int32) (st_I S (ky 0 67)) q3 hq) ⟨⟨rfl, rfl⟩, Nat.le_of_ble_eq_true rfl, Nat.le_of_ble_eq_true rfl⟩ rfl hl.1 rfl (Nat.le_of_ble_eq_true rfl) dX6_began_14 ⟨Nat.zero_le _, Nat.zero_le _⟩ (fun q3 H locs hw hf => ?_)
  refine lv_if_eq hx hb dX6_began_17 (tgt := 25) rfl (fun hc4 => ?_) (fun hc4 => ?_)
  · replace hf := h_pos hc4 hf
    refine lv_iconst (v := -1) hx hb dX6_began_25 (by decide) ?_
    exact r_iretw cx hw hr hlk hf dX6_began_26
  replace hf := h_neg hc4 hf
  refine lv_iload_n hx hb dX6_began_20 rfl (lv_at hl 3 rfl) ?_
  refine lv_iconst (v := -1) hx hb dX6_began_21 (by decide) ?_
  refine lv_icmp_ge hx hb dX6_began_22 (tgt := 27) rfl (fun hc5 => ?_) (fun hc5 => ?_)
  · replace hf := h_pos hc5 hf
    refine lv_iconst (v := 0) hx hb dX6_began_27 (by decide) ?_
    refine lv_istore hx hb dX6_began_28 hl (by decide) (lv' := [(4, .int (0 : Int32)), (0, .ref (gg_o g 0)), (1, .int x1), (2, .int x2), (3, .int x3)]) rfl (fun ls hl => ?_)
    refine lv_iconst (v := 0) hx hb dX6_began_30 (by decide) ?_
    refine lv_istore hx hb dX6_began_31 hl (by decide) (lv' := [(5, .int (0 : Int32)), (4, .int (0 : Int32)), (0, .ref (gg_o g 0)), (1, .int x1), (2, .int x2), (3, .int x3)]) rfl (fun ls hl => ?_)
    have L33 : ∀ (x1 : Int32) (x2 : Int32) (x3 : Int32) (aft33 : ((Int32 × St) ⊕ (Int32 × St)) → Option (Int32 × St)), (∀ (ls : Array Slot) (H : Heap) (locs : List Loc) (e4 : Int32) (S1 : St), lv_has ls 6 [(3, .int x3), (4, .int e4)] → HH wd_M g s S1 H locs → aft33 (.inl (e4, S1)) = some q → W p l e rm_X6_began s m args below meth c H locs 0 0 (MQ below (qc_w wd_M g q) args s 0 0 (aw g)) (F0 m 79 ls [])) → (∀ v : Int32 × St, aft33 (.inr v) = some q → (some v : Option (Int32 × St)).bind some = some q) → ∀ (n33 : Nat) (ls : Array Slot) (H : Heap) (locs : List Loc) (z33 : Int32 × Int32 × St), lv_has ls 6 [(0, .ref (gg_o g 0)), (1, .int x1), (2, .int x2), (3, .int x3), (4, .int z33.1), (5, .int z33.2.1)] → HH wd_M g s z33.2.2 H locs → (iter (f_X6_began_L33   x1 x2 x3) n33 z33).bind aft33 = some q → W p l e rm_X6_began s m args below meth c H locs 0 0 (MQ below (qc_w wd_M g q) args s 0 0 (aw g)) (F0 m 33 ls []) := by
      intro x1 x2 x3 aft33 hX33 hR33 n33
      induction n33 with
      | zero => intro ls H locs z33 hl hw hf; exact h_iter0 hf
      | succ n33 ih33 =>
        intro ls H locs z33 hl hw hf
        replace hf := h_iter hf
        unfold f_X6_began_L33 at hf
        refine lv_iload hx hb dX6_began_33 (lv_at hl 5 rfl) ?_
        refine lv_aload_n hx hb dX6_began_35 rfl (lv_at hl 0 rfl) ?_
        refine gf_X6_49 cx hw hM dX6_began_36 ?_
        refine lv_aload_n hx hb dX6_began_39 rfl (lv_at hl 0 rfl) ?_
        refine gf_X6_257 cx hw hM dX6_began_40 ?_
        refine r_iald cx hw (hM.2.2.1 24 rfl) rfl rfl hf dX6_began_43 (fun hf => ?_)
        refine lv_icmp_ge hx hb dX6_began_44 (tgt := 79) rfl (fun hc6 => ?_) (fun hc6 => ?_)
        · replace hf := h_pos hc6 hf
          exact hX33 _ _ _ z33.1 z33.2.2 (lv_sub hl [3, 4] rfl) hw hf
        replace hf := h_neg hc6 hf
        refine lv_aload_n hx hb dX6_began_47 rfl (lv_at hl 0 rfl) ?_
        refine lv_iload_n hx hb dX6_began_48 rfl (lv_at hl 1 rfl) ?_
        refine lv_iload hx hb dX6_began_49 (lv_at hl 5 rfl) ?_
        refine lv_iload_n hx hb dX6_began_51 rfl (lv_at hl 2 rfl) ?_
        refine r_V_w (As := [.int x1, .int z33.2.1, .int x2]) (rest := []) cx hw hf hM.2.1 (by rw [hM.1]; rfl) lk_X6_480 (fun q7 hq => k_X6_isSo l g hg  hM z33.2.2 x1 z33.2.1 x2 q7 hq) ⟨⟨rfl, rfl⟩, Nat.le_of_ble_eq_true rfl, Nat.le_of_ble_eq_true rfl⟩ rfl hl.1 rfl (Nat.le_of_ble_eq_true rfl) dX6_began_52 ⟨Nat.zero_le _, Nat.zero_le _⟩ (fun q7 H locs hw hf => ?_)
        refine lv_if_ne hx hb dX6_began_55 (tgt := 61) rfl (fun hc8 => ?_) (fun hc8 => ?_)
        · replace hf := h_neg hc8 hf
          refine lv_iload hx hb dX6_began_61 (lv_at hl 4 rfl) ?_
          refine lv_iload_n hx hb dX6_began_63 rfl (lv_at hl 3 rfl) ?_
          refine lv_icmp_ne hx hb dX6_began_64 (tgt := 70) rfl (fun hc9 => ?_) (fun hc9 => ?_)
          · replace hf := h_neg hc9 hf
            refine lv_iinc hx hb dX6_began_70 hl (k := 4) rfl (congrArg (HAdd.hAdd _) (show Int32.ofInt (1) = 1 by decide)) (by decide) (lv' := [(4, .int (z33.1 + 1)), (0, .ref (gg_o g 0)), (1, .int x1), (2, .int x2), (3, .int x3), (5, .int z33.2.1)]) rfl (fun ls hl => ?_)
            refine lv_iinc hx hb dX6_began_73 hl (k := 5) rfl (congrArg (HAdd.hAdd _) (show Int32.ofInt (1) = 1 by decide)) (by decide) (lv' := [(5, .int (z33.2.1 + 1)), (4, .int (z33.1 + 1)), (0, .ref (gg_o g 0)), (1, .int x1), (2, .int x2), (3, .int x3)]) rfl (fun ls hl => ?_)
            refine lv_goto hx hb dX6_began_76 (tgt := 33) rfl ?_
            exact ih33 _ _ _ ((z33.1 + 1), (z33.2.1 + 1), q7.2) (lv_sub hl [2, 3, 4, 5, 1, 0] rfl) hw hf
          replace hf := h_pos hc9 hf
          refine lv_iload hx hb dX6_began_67 (lv_at hl 5 rfl) ?_
          replace hf := hR33 (z33.2.1, q7.2) hf
          exact r_iretw cx hw hr hlk hf dX6_began_69
        replace hf := h_pos hc8 hf
        refine lv_goto hx hb dX6_began_58 (tgt := 73) rfl ?_
        refine lv_iinc hx hb dX6_began_73 hl (k := 5) rfl (congrArg (HAdd.hAdd _) (show Int32.ofInt (1) = 1 by decide)) (by decide) (lv' := [(5, .int (z33.2.1 + 1)), (0, .ref (gg_o g 0)), (1, .int x1), (2, .int x2), (3, .int x3), (4, .int z33.1)]) rfl (fun ls hl => ?_)
        refine lv_goto hx hb dX6_began_76 (tgt := 33) rfl ?_
        exact ih33 _ _ _ (z33.1, (z33.2.1 + 1), q7.2) (lv_sub hl [1, 2, 3, 4, 5, 0] rfl) hw hf
    refine L33 x1 x2 x3 _ (fun ls H locs e10 S11 hl hw hf => ?_) (fun v h => h) FU _ _ _ ((0 : Int32), (0 : Int32), S) (lv_sub hl [2, 3, 4, 5, 1, 0] rfl) hw (h_assoc hf)
    try dsimp only at hf
    refine lv_iload_n hx hb dX6_began_79 rfl (lv_at hl 0 rfl) ?_
    refine lv_iconst (v := -1) hx hb dX6_began_80 (by decide) ?_
    refine lv_icmp_ne hx hb dX6_began_81 (tgt := 89) rfl (fun hc12 => ?_) (fun hc12 => ?_)
    · replace hf := h_neg hc12 hf
      refine lv_iconst (v := -1) hx hb dX6_began_89 (by decide) ?_
      exact r_iretw cx hw hr hlk hf dX6_began_90
    replace hf := h_pos hc12 hf
    refine lv_iload hx hb dX6_began_84 (lv_at hl 1 rfl) ?_
    refine lv_goto hx hb dX6_began_86 (tgt := 90) rfl ?_
    exact r_iretw cx hw hr hlk hf dX6_began_90
  replace hf := h_neg hc5 hf
  refine lv_iconst (v := -1) hx hb dX6_began_25 (by decide) ?_
  exact r_iretw cx hw hr hlk hf dX6_began_26
theorem dX6_hold_0 : decode cX6_hold 0 = .ok (.iload_n 1, 1) := by decide +kernel
theorem dX6_hold_1 : decode cX6_hold 1 = .ok (.iconst 0, 1) := by decide +kernel
theorem dX6_hold_2 : decode cX6_hold 2 = .ok (.iconst 2, 1) := by decide +kernel
theorem dX6_hold_3 : decode cX6_hold 3 = .ok (.invokestatic 341, 3) := by decide +kernel
theorem dX6_hold_6 : decode cX6_hold 6 = .ok (.ifCond .ne 5, 3) := by decide +kernel
theorem dX6_hold_9 : decode cX6_hold 9 = .ok (.iconst 0, 1) := by decide +kernel
theorem dX6_hold_10 : decode cX6_hold 10 = .ok (.ireturn, 1) := by decide +kernel
theorem dX6_hold_11 : decode cX6_hold 11 = .ok (.aload_n 0, 1) := by decide +kernel
theorem dX6_hold_12 : decode cX6_hold 12 = .ok (.getfield 167, 3) := by decide +kernel
theorem dX6_hold_15 : decode cX6_hold 15 = .ok (.iload_n 1, 1) := by decide +kernel
theorem dX6_hold_16 : decode cX6_hold 16 = .ok (.iconst 1, 1) := by decide +kernel
theorem dX6_hold_17 : decode cX6_hold 17 = .ok (.bastore, 1) := by decide +kernel
theorem dX6_hold_18 : decode cX6_hold 18 = .ok (.iconst 0, 1) := by decide +kernel
theorem dX6_hold_19 : decode cX6_hold 19 = .ok (.istore_n 2, 1) := by decide +kernel
theorem dX6_hold_20 : decode cX6_hold 20 = .ok (.iload_n 2, 1) := by decide +kernel
theorem dX6_hold_21 : decode cX6_hold 21 = .ok (.bipush 36, 2) := by decide +kernel
theorem dX6_hold_23 : decode cX6_hold 23 = .ok (.aload_n 0, 1) := by decide +kernel
theorem dX6_hold_24 : decode cX6_hold 24 = .ok (.getfield 345, 3) := by decide +kernel
theorem dX6_hold_27 : decode cX6_hold 27 = .ok (.imul, 1) := by decide +kernel
theorem dX6_hold_28 : decode cX6_hold 28 = .ok (.bipush 36, 2) := by decide +kernel
theorem dX6_hold_30 : decode cX6_hold 30 = .ok (.iadd, 1) := by decide +kernel
theorem dX6_hold_31 : decode cX6_hold 31 = .ok (.if_icmp .ge 27, 3) := by decide +kernel
theorem dX6_hold_34 : decode cX6_hold 34 = .ok (.aload_n 0, 1) := by decide +kernel
theorem dX6_hold_35 : decode cX6_hold 35 = .ok (.getfield 170, 3) := by decide +kernel
theorem dX6_hold_38 : decode cX6_hold 38 = .ok (.sipush 10800, 3) := by decide +kernel
theorem dX6_hold_41 : decode cX6_hold 41 = .ok (.iload_n 1, 1) := by decide +kernel
theorem dX6_hold_42 : decode cX6_hold 42 = .ok (.imul, 1) := by decide +kernel
theorem dX6_hold_43 : decode cX6_hold 43 = .ok (.iload_n 2, 1) := by decide +kernel
theorem dX6_hold_44 : decode cX6_hold 44 = .ok (.iadd, 1) := by decide +kernel
theorem dX6_hold_45 : decode cX6_hold 45 = .ok (.aload_n 0, 1) := by decide +kernel
theorem dX6_hold_46 : decode cX6_hold 46 = .ok (.getfield 122, 3) := by decide +kernel
theorem dX6_hold_49 : decode cX6_hold 49 = .ok (.iload_n 2, 1) := by decide +kernel
theorem dX6_hold_50 : decode cX6_hold 50 = .ok (.iaload, 1) := by decide +kernel
theorem dX6_hold_51 : decode cX6_hold 51 = .ok (.iastore, 1) := by decide +kernel
theorem dX6_hold_52 : decode cX6_hold 52 = .ok (.iinc 2 1, 3) := by decide +kernel
theorem dX6_hold_55 : decode cX6_hold 55 = .ok (.goto (-35), 3) := by decide +kernel
theorem dX6_hold_58 : decode cX6_hold 58 = .ok (.aload_n 0, 1) := by decide +kernel
theorem dX6_hold_59 : decode cX6_hold 59 = .ok (.getfield 173, 3) := by decide +kernel
theorem dX6_hold_62 : decode cX6_hold 62 = .ok (.bipush 17, 2) := by decide +kernel
theorem dX6_hold_64 : decode cX6_hold 64 = .ok (.iload_n 1, 1) := by decide +kernel
theorem dX6_hold_65 : decode cX6_hold 65 = .ok (.imul, 1) := by decide +kernel
theorem dX6_hold_66 : decode cX6_hold 66 = .ok (.aload_n 0, 1) := by decide +kernel
theorem dX6_hold_67 : decode cX6_hold 67 = .ok (.getfield 345, 3) := by decide +kernel
theorem dX6_hold_70 : decode cX6_hold 70 = .ok (.iastore, 1) := by decide +kernel
theorem dX6_hold_71 : decode cX6_hold 71 = .ok (.iconst 0, 1) := by decide +kernel
theorem dX6_hold_72 : decode cX6_hold 72 = .ok (.istore_n 2, 1) := by decide +kernel
theorem dX6_hold_73 : decode cX6_hold 73 = .ok (.iload_n 2, 1) := by decide +kernel
theorem dX6_hold_74 : decode cX6_hold 74 = .ok (.bipush 8, 2) := by decide +kernel
theorem dX6_hold_76 : decode cX6_hold 76 = .ok (.if_icmp .ge 48, 3) := by decide +kernel
theorem dX6_hold_79 : decode cX6_hold 79 = .ok (.aload_n 0, 1) := by decide +kernel
theorem dX6_hold_80 : decode cX6_hold 80 = .ok (.getfield 173, 3) := by decide +kernel
theorem dX6_hold_83 : decode cX6_hold 83 = .ok (.bipush 17, 2) := by decide +kernel
theorem dX6_hold_85 : decode cX6_hold 85 = .ok (.iload_n 1, 1) := by decide +kernel
theorem dX6_hold_86 : decode cX6_hold 86 = .ok (.imul, 1) := by decide +kernel
theorem dX6_hold_87 : decode cX6_hold 87 = .ok (.iconst 1, 1) := by decide +kernel
theorem dX6_hold_88 : decode cX6_hold 88 = .ok (.iadd, 1) := by decide +kernel
theorem dX6_hold_89 : decode cX6_hold 89 = .ok (.iload_n 2, 1) := by decide +kernel
theorem dX6_hold_90 : decode cX6_hold 90 = .ok (.iadd, 1) := by decide +kernel
theorem dX6_hold_91 : decode cX6_hold 91 = .ok (.aload_n 0, 1) := by decide +kernel
theorem dX6_hold_92 : decode cX6_hold 92 = .ok (.getfield 125, 3) := by decide +kernel
theorem dX6_hold_95 : decode cX6_hold 95 = .ok (.iload_n 2, 1) := by decide +kernel
theorem dX6_hold_96 : decode cX6_hold 96 = .ok (.iaload, 1) := by decide +kernel
theorem dX6_hold_97 : decode cX6_hold 97 = .ok (.iastore, 1) := by decide +kernel
theorem dX6_hold_98 : decode cX6_hold 98 = .ok (.aload_n 0, 1) := by decide +kernel
theorem dX6_hold_99 : decode cX6_hold 99 = .ok (.getfield 173, 3) := by decide +kernel
theorem dX6_hold_102 : decode cX6_hold 102 = .ok (.bipush 17, 2) := by decide +kernel
theorem dX6_hold_104 : decode cX6_hold 104 = .ok (.iload_n 1, 1) := by decide +kernel
theorem dX6_hold_105 : decode cX6_hold 105 = .ok (.imul, 1) := by decide +kernel
theorem dX6_hold_106 : decode cX6_hold 106 = .ok (.bipush 9, 2) := by decide +kernel
theorem dX6_hold_108 : decode cX6_hold 108 = .ok (.iadd, 1) := by decide +kernel
theorem dX6_hold_109 : decode cX6_hold 109 = .ok (.iload_n 2, 1) := by decide +kernel
theorem dX6_hold_110 : decode cX6_hold 110 = .ok (.iadd, 1) := by decide +kernel
theorem dX6_hold_111 : decode cX6_hold 111 = .ok (.aload_n 0, 1) := by decide +kernel
theorem dX6_hold_112 : decode cX6_hold 112 = .ok (.getfield 128, 3) := by decide +kernel
theorem dX6_hold_115 : decode cX6_hold 115 = .ok (.iload_n 2, 1) := by decide +kernel
theorem dX6_hold_116 : decode cX6_hold 116 = .ok (.iaload, 1) := by decide +kernel
theorem dX6_hold_117 : decode cX6_hold 117 = .ok (.iastore, 1) := by decide +kernel
theorem dX6_hold_118 : decode cX6_hold 118 = .ok (.iinc 2 1, 3) := by decide +kernel
theorem dX6_hold_121 : decode cX6_hold 121 = .ok (.goto (-48), 3) := by decide +kernel
theorem dX6_hold_124 : decode cX6_hold 124 = .ok (.iconst 1, 1) := by decide +kernel
theorem dX6_hold_125 : decode cX6_hold 125 = .ok (.ireturn, 1) := by decide +kernel
abbrev rm_X6_hold : Room := { frames := 1, cells := 0, slots := 0, locals := 22 }
def f_X6_hold_L20 (x1 : Int32) (z20 : Int32 × St) : Option ((Int32 × St) ⊕ (St)) :=
  if (((36 : Int32) * (st_I z20.2 (ky 0 53))) + (36 : Int32)) ≤ z20.1 then (some (.inr z20.2)) else (chk (ib z20.1 10800) (chk (ib (((10800 : Int32) * x1) + z20.1) 32400) (lt_v (up_A z20.2 (ky 0 73) (upd (st_A z20.2 (ky 0 73)) (((10800 : Int32) * x1) + z20.1).toNatClampNeg (st_A z20.2 (ky 0 52) z20.1.toNatClampNeg))) (fun (S5 : St) => some (.inl ((z20.1 + 1), S5))))))
def f_X6_hold_L73 (x1 : Int32) (z73 : Int32 × St) : Option ((Int32 × St) ⊕ (Int32 × St)) :=
  if (8 : Int32) ≤ z73.1 then (some (.inr ((1 : Int32), z73.2))) else (chk (ib z73.1 8) (chk (ib ((((17 : Int32) * x1) + (1 : Int32)) + z73.1) 51) (lt_v (up_A z73.2 (ky 0 74) (upd (st_A z73.2 (ky 0 74)) ((((17 : Int32) * x1) + (1 : Int32)) + z73.1).toNatClampNeg (st_A z73.2 (ky 0 54) z73.1.toNatClampNeg))) (fun (S9 : St) => chk (ib z73.1 8) (chk (ib ((((17 : Int32) * x1) + (9 : Int32)) + z73.1) 51) (lt_v (up_A S9 (ky 0 74) (upd (st_A S9 (ky 0 74)) ((((17 : Int32) * x1) + (9 : Int32)) + z73.1).toNatClampNeg (st_A S9 (ky 0 55) z73.1.toNatClampNeg))) (fun (S10 : St) => some (.inl ((z73.1 + 1), S10)))))))))
def f_X6_hold (S : St) (x1 : Int32) : Option (Int32 × St) :=
  (f_X6_in   x1 (0 : Int32) (2 : Int32)).bind (fun (q1 : Int32) => if q1 = 0 then (some ((0 : Int32), S)) else (chk (ib x1 3) (lt_v (up_A S (ky 0 72) (upd (st_A S (ky 0 72)) x1.toNatClampNeg (vp_nar .boolean (1 : Int32)))) (fun (S3 : St) => (iter (f_X6_hold_L20   x1) FU ((0 : Int32), S3)).bind (fun (S6 : St) => chk (ib ((17 : Int32) * x1) 51) (lt_v (up_A S6 (ky 0 74) (upd (st_A S6 (ky 0 74)) ((17 : Int32) * x1).toNatClampNeg (st_I S6 (ky 0 53)))) (fun (S7 : St) => iter (f_X6_hold_L73   x1) FU ((0 : Int32), S7))))))))
set_option maxRecDepth 100000 in
set_option maxHeartbeats 4000000 in
theorem k_X6_hold (l : Launch) (g : GG) (hg : gd wd_M g)  (hM : hs wd_M g 0 6) (S : St) (x1 : Int32) (q : Int32 × St) (hf : f_X6_hold  S x1 = some q) : Met l yX6_hold (Cond.code yX6_hold cX6_hold 3 (some .boolean) :: gw_tbl) rm_X6_hold (va_Pc [.ref (gg_o g 0), .int x1] (wI wd_M g S)) (qc_w wd_M g q) 0 0 (aw g) := by
  refine mt_start (own := RX6) hg (by decide) rfl (Nat.le_of_ble_eq_true rfl) (fun p e s m args below meth c ls H locs cx hw hr hlk hl => ?_)
  have hx := cx.1
  have hb := cx.2.1
  have hown := cx.2.2.2.1
  have hts := cx.2.2.2.2.1
  have hl : lv_has ls 3 [(0, .ref (gg_o g 0)), (1, .int x1)] := hl
  replace hf := h_top hf
  unfold f_X6_hold at hf
  refine lv_iload_n hx hb dX6_hold_0 rfl (lv_at hl 1 rfl) ?_
  refine lv_iconst (v := 0) hx hb dX6_hold_1 (by decide) ?_
  refine lv_iconst (v := 2) hx hb dX6_hold_2 (by decide) ?_
  refine r_S_i (As := [.int x1, .int (0 : Int32), .int (2 : Int32)]) (rest := []) cx hw hf lk_X6_341 (fun q1 hq => k_X6_in l g hg   S x1 (0 : Int32) (2 : Int32) q1 hq) ⟨⟨rfl, rfl⟩, Nat.le_of_ble_eq_true rfl, Nat.le_of_ble_eq_true rfl⟩ rfl hl.1 rfl (Nat.le_of_ble_eq_true rfl) dX6_hold_3 ⟨Nat.zero_le _, Nat.zero_le _⟩ (fun q1 H locs hw hf => ?_)
  refine lv_if_ne hx hb dX6_hold_6 (tgt := 11) rfl (fun hc2 => ?_) (fun hc2 => ?_)
  · replace hf := h_neg hc2 hf
    refine lv_aload_n hx hb dX6_hold_11 rfl (lv_at hl 0 rfl) ?_
    refine gf_X6_167 cx hw hM dX6_hold_12 ?_
    refine lv_iload_n hx hb dX6_hold_15 rfl (lv_at hl 1 rfl) ?_
    refine lv_iconst (v := 1) hx hb dX6_hold_16 (by decide) ?_
    refine r_zast cx hw (hM.2.2.1 72 rfl) rfl rfl hf dX6_hold_17 (fun S3 H locs hw hf => ?_)
    refine lv_iconst (v := 0) hx hb dX6_hold_18 (by decide) ?_
    refine lv_istore_n hx hb dX6_hold_19 rfl hl (by decide) (lv' := [(2, .int (0 : Int32)), (0, .ref (gg_o g 0)), (1, .int x1)]) rfl (fun ls hl => ?_)
    have L20 : ∀ (x1 : Int32) (aft20 : St → Option (Int32 × St)), (∀ (ls : Array Slot) (H : Heap) (locs : List Loc) (S1 : St), lv_has ls 3 [(0, .ref (gg_o g 0)), (1, .int x1)] → HH wd_M g s S1 H locs → aft20 S1 = some q → W p l e rm_X6_hold s m args below meth c H locs 0 0 (MQ below (qc_w wd_M g q) args s 0 0 (aw g)) (F0 m 58 ls [])) → ∀ (n20 : Nat) (ls : Array Slot) (H : Heap) (locs : List Loc) (z20 : Int32 × St), lv_has ls 3 [(0, .ref (gg_o g 0)), (1, .int x1), (2, .int z20.1)] → HH wd_M g s z20.2 H locs → (iter (f_X6_hold_L20   x1) n20 z20).bind aft20 = some q → W p l e rm_X6_hold s m args below meth c H locs 0 0 (MQ below (qc_w wd_M g q) args s 0 0 (aw g)) (F0 m 20 ls []) := by
      intro x1 aft20 hX20 n20
      induction n20 with
      | zero => intro ls H locs z20 hl hw hf; exact h_iter0 hf
      | succ n20 ih20 =>
        intro ls H locs z20 hl hw hf
        replace hf := h_iter hf
        unfold f_X6_hold_L20 at hf
        refine lv_iload_n hx hb dX6_hold_20 rfl (lv_at hl 2 rfl) ?_
        refine lv_bipush (v := 36) hx hb dX6_hold_21 (by decide) ?_
        refine lv_aload_n hx hb dX6_hold_23 rfl (lv_at hl 0 rfl) ?_
        refine gf_X6_345 cx hw hM dX6_hold_24 ?_
        refine lv_imul hx hb dX6_hold_27 ?_
        refine lv_bipush (v := 36) hx hb dX6_hold_28 (by decide) ?_
        refine lv_iadd hx hb dX6_hold_30 ?_
        refine lv_icmp_ge hx hb dX6_hold_31 (tgt := 58) rfl (fun hc4 => ?_) (fun hc4 => ?_)
        · replace hf := h_pos hc4 hf
          exact hX20 _ _ _ z20.2 (lv_sub hl [0, 1] rfl) hw hf
        replace hf := h_neg hc4 hf
        refine lv_aload_n hx hb dX6_hold_34 rfl (lv_at hl 0 rfl) ?_
        refine gf_X6_170 cx hw hM dX6_hold_35 ?_
        refine lv_sipush (v := 10800) hx hb dX6_hold_38 (by decide) ?_
        refine lv_iload_n hx hb dX6_hold_41 rfl (lv_at hl 1 rfl) ?_
        refine lv_imul hx hb dX6_hold_42 ?_
        refine lv_iload_n hx hb dX6_hold_43 rfl (lv_at hl 2 rfl) ?_
        refine lv_iadd hx hb dX6_hold_44 ?_
        refine lv_aload_n hx hb dX6_hold_45 rfl (lv_at hl 0 rfl) ?_
        refine gf_X6_122 cx hw hM dX6_hold_46 ?_
        refine lv_iload_n hx hb dX6_hold_49 rfl (lv_at hl 2 rfl) ?_
        refine r_iald cx hw (hM.2.2.1 52 rfl) rfl rfl hf dX6_hold_50 (fun hf => ?_)
        refine r_iast cx hw (hM.2.2.1 73 rfl) rfl rfl hf dX6_hold_51 (fun S5 H locs hw hf => ?_)
        refine lv_iinc hx hb dX6_hold_52 hl (k := 2) rfl (congrArg (HAdd.hAdd _) (show Int32.ofInt (1) = 1 by decide)) (by decide) (lv' := [(2, .int (z20.1 + 1)), (0, .ref (gg_o g 0)), (1, .int x1)]) rfl (fun ls hl => ?_)
        refine lv_goto hx hb dX6_hold_55 (tgt := 20) rfl ?_
        exact ih20 _ _ _ ((z20.1 + 1), S5) (lv_sub hl [1, 2, 0] rfl) hw hf
    refine L20 x1 _ (fun ls H locs S6 hl hw hf => ?_) FU _ _ _ ((0 : Int32), S3) (lv_sub hl [1, 2, 0] rfl) hw (h_assoc hf)
    try dsimp only at hf
    refine lv_aload_n hx hb dX6_hold_58 rfl (lv_at hl 0 rfl) ?_
    refine gf_X6_173 cx hw hM dX6_hold_59 ?_
    refine lv_bipush (v := 17) hx hb dX6_hold_62 (by decide) ?_
    refine lv_iload_n hx hb dX6_hold_64 rfl (lv_at hl 1 rfl) ?_
    refine lv_imul hx hb dX6_hold_65 ?_
    refine lv_aload_n hx hb dX6_hold_66 rfl (lv_at hl 0 rfl) ?_
    refine gf_X6_345 cx hw hM dX6_hold_67 ?_
    refine r_iast cx hw (hM.2.2.1 74 rfl) rfl rfl hf dX6_hold_70 (fun S7 H locs hw hf => ?_)
    refine lv_iconst (v := 0) hx hb dX6_hold_71 (by decide) ?_
    refine lv_istore_n hx hb dX6_hold_72 rfl hl (by decide) (lv' := [(2, .int (0 : Int32)), (0, .ref (gg_o g 0)), (1, .int x1)]) rfl (fun ls hl => ?_)
    have L73 : ∀ (x1 : Int32) (aft73 : (Int32 × St) → Option (Int32 × St)), (∀ v : Int32 × St, aft73 v = some q → (some v : Option (Int32 × St)).bind some = some q) → ∀ (n73 : Nat) (ls : Array Slot) (H : Heap) (locs : List Loc) (z73 : Int32 × St), lv_has ls 3 [(0, .ref (gg_o g 0)), (1, .int x1), (2, .int z73.1)] → HH wd_M g s z73.2 H locs → (iter (f_X6_hold_L73   x1) n73 z73).bind aft73 = some q → W p l e rm_X6_hold s m args below meth c H locs 0 0 (MQ below (qc_w wd_M g q) args s 0 0 (aw g)) (F0 m 73 ls []) := by
      intro x1 aft73 hR73 n73
      induction n73 with
      | zero => intro ls H locs z73 hl hw hf; exact h_iter0 hf
      | succ n73 ih73 =>
        intro ls H locs z73 hl hw hf
        replace hf := h_iter hf
        unfold f_X6_hold_L73 at hf
        refine lv_iload_n hx hb dX6_hold_73 rfl (lv_at hl 2 rfl) ?_
        refine lv_bipush (v := 8) hx hb dX6_hold_74 (by decide) ?_
        refine lv_icmp_ge hx hb dX6_hold_76 (tgt := 124) rfl (fun hc8 => ?_) (fun hc8 => ?_)
        · replace hf := h_pos hc8 hf
          refine lv_iconst (v := 1) hx hb dX6_hold_124 (by decide) ?_
          replace hf := hR73 ((1 : Int32), z73.2) hf
          exact r_zretw cx hw hr hlk (Or.inr rfl) hf dX6_hold_125
        replace hf := h_neg hc8 hf
        refine lv_aload_n hx hb dX6_hold_79 rfl (lv_at hl 0 rfl) ?_
        refine gf_X6_173 cx hw hM dX6_hold_80 ?_
        refine lv_bipush (v := 17) hx hb dX6_hold_83 (by decide) ?_
        refine lv_iload_n hx hb dX6_hold_85 rfl (lv_at hl 1 rfl) ?_
        refine lv_imul hx hb dX6_hold_86 ?_
        refine lv_iconst (v := 1) hx hb dX6_hold_87 (by decide) ?_
        refine lv_iadd hx hb dX6_hold_88 ?_
        refine lv_iload_n hx hb dX6_hold_89 rfl (lv_at hl 2 rfl) ?_
        refine lv_iadd hx hb dX6_hold_90 ?_
        refine lv_aload_n hx hb dX6_hold_91 rfl (lv_at hl 0 rfl) ?_
        refine gf_X6_125 cx hw hM dX6_hold_92 ?_
        refine lv_iload_n hx hb dX6_hold_95 rfl (lv_at hl 2 rfl) ?_
        refine r_iald cx hw (hM.2.2.1 54 rfl) rfl rfl hf dX6_hold_96 (fun hf => ?_)
        refine r_iast cx hw (hM.2.2.1 74 rfl) rfl rfl hf dX6_hold_97 (fun S9 H locs hw hf => ?_)
        refine lv_aload_n hx hb dX6_hold_98 rfl (lv_at hl 0 rfl) ?_
        refine gf_X6_173 cx hw hM dX6_hold_99 ?_
        refine lv_bipush (v := 17) hx hb dX6_hold_102 (by decide) ?_
        refine lv_iload_n hx hb dX6_hold_104 rfl (lv_at hl 1 rfl) ?_
        refine lv_imul hx hb dX6_hold_105 ?_
        refine lv_bipush (v := 9) hx hb dX6_hold_106 (by decide) ?_
        refine lv_iadd hx hb dX6_hold_108 ?_
        refine lv_iload_n hx hb dX6_hold_109 rfl (lv_at hl 2 rfl) ?_
        refine lv_iadd hx hb dX6_hold_110 ?_
        refine lv_aload_n hx hb dX6_hold_111 rfl (lv_at hl 0 rfl) ?_
        refine gf_X6_128 cx hw hM dX6_hold_112 ?_
        refine lv_iload_n hx hb dX6_hold_115 rfl (lv_at hl 2 rfl) ?_
        refine r_iald cx hw (hM.2.2.1 55 rfl) rfl rfl hf dX6_hold_116 (fun hf => ?_)
        refine r_iast cx hw (hM.2.2.1 74 rfl) rfl rfl hf dX6_hold_117 (fun S10 H locs hw hf => ?_)
        refine lv_iinc hx hb dX6_hold_118 hl (k := 2) rfl (congrArg (HAdd.hAdd _) (show Int32.ofInt (1) = 1 by decide)) (by decide) (lv' := [(2, .int (z73.1 + 1)), (0, .ref (gg_o g 0)), (1, .int x1)]) rfl (fun ls hl => ?_)
        refine lv_goto hx hb dX6_hold_121 (tgt := 73) rfl ?_
        exact ih73 _ _ _ ((z73.1 + 1), S10) (lv_sub hl [1, 2, 0] rfl) hw hf
    exact L73 x1 some (fun v h => h) FU _ _ _ ((0 : Int32), S7) (lv_sub hl [1, 2, 0] rfl) hw hf
  replace hf := h_pos hc2 hf
  refine lv_iconst (v := 0) hx hb dX6_hold_9 (by decide) ?_
  exact r_zretw cx hw hr hlk (Or.inl rfl) hf dX6_hold_10
theorem dX6_restore_0 : decode cX6_restore 0 = .ok (.iload_n 1, 1) := by decide +kernel
theorem dX6_restore_1 : decode cX6_restore 1 = .ok (.iconst 0, 1) := by decide +kernel
theorem dX6_restore_2 : decode cX6_restore 2 = .ok (.iconst 2, 1) := by decide +kernel
theorem dX6_restore_3 : decode cX6_restore 3 = .ok (.invokestatic 341, 3) := by decide +kernel
theorem dX6_restore_6 : decode cX6_restore 6 = .ok (.ifCond .eq 12, 3) := by decide +kernel
theorem dX6_restore_9 : decode cX6_restore 9 = .ok (.aload_n 0, 1) := by decide +kernel
theorem dX6_restore_10 : decode cX6_restore 10 = .ok (.getfield 167, 3) := by decide +kernel
theorem dX6_restore_13 : decode cX6_restore 13 = .ok (.iload_n 1, 1) := by decide +kernel
theorem dX6_restore_14 : decode cX6_restore 14 = .ok (.baload, 1) := by decide +kernel
theorem dX6_restore_15 : decode cX6_restore 15 = .ok (.ifCond .ne 5, 3) := by decide +kernel
theorem dX6_restore_18 : decode cX6_restore 18 = .ok (.iconst 0, 1) := by decide +kernel
theorem dX6_restore_19 : decode cX6_restore 19 = .ok (.ireturn, 1) := by decide +kernel
theorem dX6_restore_20 : decode cX6_restore 20 = .ok (.aload_n 0, 1) := by decide +kernel
theorem dX6_restore_21 : decode cX6_restore 21 = .ok (.aload_n 0, 1) := by decide +kernel
theorem dX6_restore_22 : decode cX6_restore 22 = .ok (.getfield 173, 3) := by decide +kernel
theorem dX6_restore_25 : decode cX6_restore 25 = .ok (.bipush 17, 2) := by decide +kernel
theorem dX6_restore_27 : decode cX6_restore 27 = .ok (.iload_n 1, 1) := by decide +kernel
theorem dX6_restore_28 : decode cX6_restore 28 = .ok (.imul, 1) := by decide +kernel
theorem dX6_restore_29 : decode cX6_restore 29 = .ok (.iaload, 1) := by decide +kernel
theorem dX6_restore_30 : decode cX6_restore 30 = .ok (.putfield 345, 3) := by decide +kernel
theorem dX6_restore_33 : decode cX6_restore 33 = .ok (.iconst 0, 1) := by decide +kernel
theorem dX6_restore_34 : decode cX6_restore 34 = .ok (.istore_n 2, 1) := by decide +kernel
theorem dX6_restore_35 : decode cX6_restore 35 = .ok (.iload_n 2, 1) := by decide +kernel
theorem dX6_restore_36 : decode cX6_restore 36 = .ok (.bipush 36, 2) := by decide +kernel
theorem dX6_restore_38 : decode cX6_restore 38 = .ok (.aload_n 0, 1) := by decide +kernel
theorem dX6_restore_39 : decode cX6_restore 39 = .ok (.getfield 345, 3) := by decide +kernel
theorem dX6_restore_42 : decode cX6_restore 42 = .ok (.imul, 1) := by decide +kernel
theorem dX6_restore_43 : decode cX6_restore 43 = .ok (.bipush 36, 2) := by decide +kernel
theorem dX6_restore_45 : decode cX6_restore 45 = .ok (.iadd, 1) := by decide +kernel
theorem dX6_restore_46 : decode cX6_restore 46 = .ok (.if_icmp .ge 27, 3) := by decide +kernel
theorem dX6_restore_49 : decode cX6_restore 49 = .ok (.aload_n 0, 1) := by decide +kernel
theorem dX6_restore_50 : decode cX6_restore 50 = .ok (.getfield 122, 3) := by decide +kernel
theorem dX6_restore_53 : decode cX6_restore 53 = .ok (.iload_n 2, 1) := by decide +kernel
theorem dX6_restore_54 : decode cX6_restore 54 = .ok (.aload_n 0, 1) := by decide +kernel
theorem dX6_restore_55 : decode cX6_restore 55 = .ok (.getfield 170, 3) := by decide +kernel
theorem dX6_restore_58 : decode cX6_restore 58 = .ok (.sipush 10800, 3) := by decide +kernel
theorem dX6_restore_61 : decode cX6_restore 61 = .ok (.iload_n 1, 1) := by decide +kernel
theorem dX6_restore_62 : decode cX6_restore 62 = .ok (.imul, 1) := by decide +kernel
theorem dX6_restore_63 : decode cX6_restore 63 = .ok (.iload_n 2, 1) := by decide +kernel
theorem dX6_restore_64 : decode cX6_restore 64 = .ok (.iadd, 1) := by decide +kernel
theorem dX6_restore_65 : decode cX6_restore 65 = .ok (.iaload, 1) := by decide +kernel
theorem dX6_restore_66 : decode cX6_restore 66 = .ok (.iastore, 1) := by decide +kernel
theorem dX6_restore_67 : decode cX6_restore 67 = .ok (.iinc 2 1, 3) := by decide +kernel
theorem dX6_restore_70 : decode cX6_restore 70 = .ok (.goto (-35), 3) := by decide +kernel
theorem dX6_restore_73 : decode cX6_restore 73 = .ok (.iconst 0, 1) := by decide +kernel
theorem dX6_restore_74 : decode cX6_restore 74 = .ok (.istore_n 2, 1) := by decide +kernel
theorem dX6_restore_75 : decode cX6_restore 75 = .ok (.iload_n 2, 1) := by decide +kernel
theorem dX6_restore_76 : decode cX6_restore 76 = .ok (.bipush 8, 2) := by decide +kernel
theorem dX6_restore_78 : decode cX6_restore 78 = .ok (.if_icmp .ge 48, 3) := by decide +kernel
theorem dX6_restore_81 : decode cX6_restore 81 = .ok (.aload_n 0, 1) := by decide +kernel
theorem dX6_restore_82 : decode cX6_restore 82 = .ok (.getfield 125, 3) := by decide +kernel
theorem dX6_restore_85 : decode cX6_restore 85 = .ok (.iload_n 2, 1) := by decide +kernel
theorem dX6_restore_86 : decode cX6_restore 86 = .ok (.aload_n 0, 1) := by decide +kernel
theorem dX6_restore_87 : decode cX6_restore 87 = .ok (.getfield 173, 3) := by decide +kernel
theorem dX6_restore_90 : decode cX6_restore 90 = .ok (.bipush 17, 2) := by decide +kernel
theorem dX6_restore_92 : decode cX6_restore 92 = .ok (.iload_n 1, 1) := by decide +kernel
theorem dX6_restore_93 : decode cX6_restore 93 = .ok (.imul, 1) := by decide +kernel
theorem dX6_restore_94 : decode cX6_restore 94 = .ok (.iconst 1, 1) := by decide +kernel
theorem dX6_restore_95 : decode cX6_restore 95 = .ok (.iadd, 1) := by decide +kernel
theorem dX6_restore_96 : decode cX6_restore 96 = .ok (.iload_n 2, 1) := by decide +kernel
theorem dX6_restore_97 : decode cX6_restore 97 = .ok (.iadd, 1) := by decide +kernel
theorem dX6_restore_98 : decode cX6_restore 98 = .ok (.iaload, 1) := by decide +kernel
theorem dX6_restore_99 : decode cX6_restore 99 = .ok (.iastore, 1) := by decide +kernel
theorem dX6_restore_100 : decode cX6_restore 100 = .ok (.aload_n 0, 1) := by decide +kernel
theorem dX6_restore_101 : decode cX6_restore 101 = .ok (.getfield 128, 3) := by decide +kernel
theorem dX6_restore_104 : decode cX6_restore 104 = .ok (.iload_n 2, 1) := by decide +kernel
theorem dX6_restore_105 : decode cX6_restore 105 = .ok (.aload_n 0, 1) := by decide +kernel
theorem dX6_restore_106 : decode cX6_restore 106 = .ok (.getfield 173, 3) := by decide +kernel
theorem dX6_restore_109 : decode cX6_restore 109 = .ok (.bipush 17, 2) := by decide +kernel
theorem dX6_restore_111 : decode cX6_restore 111 = .ok (.iload_n 1, 1) := by decide +kernel
theorem dX6_restore_112 : decode cX6_restore 112 = .ok (.imul, 1) := by decide +kernel
theorem dX6_restore_113 : decode cX6_restore 113 = .ok (.bipush 9, 2) := by decide +kernel
theorem dX6_restore_115 : decode cX6_restore 115 = .ok (.iadd, 1) := by decide +kernel
theorem dX6_restore_116 : decode cX6_restore 116 = .ok (.iload_n 2, 1) := by decide +kernel
theorem dX6_restore_117 : decode cX6_restore 117 = .ok (.iadd, 1) := by decide +kernel
theorem dX6_restore_118 : decode cX6_restore 118 = .ok (.iaload, 1) := by decide +kernel
theorem dX6_restore_119 : decode cX6_restore 119 = .ok (.iastore, 1) := by decide +kernel
theorem dX6_restore_120 : decode cX6_restore 120 = .ok (.iinc 2 1, 3) := by decide +kernel
theorem dX6_restore_123 : decode cX6_restore 123 = .ok (.goto (-48), 3) := by decide +kernel
theorem dX6_restore_126 : decode cX6_restore 126 = .ok (.aload_n 0, 1) := by decide +kernel
theorem dX6_restore_127 : decode cX6_restore 127 = .ok (.iconst 0, 1) := by decide +kernel
theorem dX6_restore_128 : decode cX6_restore 128 = .ok (.putfield 275, 3) := by decide +kernel
theorem dX6_restore_131 : decode cX6_restore 131 = .ok (.iconst 1, 1) := by decide +kernel
theorem dX6_restore_132 : decode cX6_restore 132 = .ok (.ireturn, 1) := by decide +kernel
abbrev rm_X6_restore : Room := { frames := 1, cells := 0, slots := 0, locals := 22 }
def f_X6_restore_L35 (x1 : Int32) (z35 : Int32 × St) : Option ((Int32 × St) ⊕ (St)) :=
  if (((36 : Int32) * (st_I z35.2 (ky 0 53))) + (36 : Int32)) ≤ z35.1 then (some (.inr z35.2)) else (chk (ib (((10800 : Int32) * x1) + z35.1) 32400) (chk (ib z35.1 10800) (lt_v (up_A z35.2 (ky 0 52) (upd (st_A z35.2 (ky 0 52)) z35.1.toNatClampNeg (st_A z35.2 (ky 0 73) (((10800 : Int32) * x1) + z35.1).toNatClampNeg))) (fun (S6 : St) => some (.inl ((z35.1 + 1), S6))))))
def f_X6_restore_L75 (x1 : Int32) (z75 : Int32 × St) : Option ((Int32 × St) ⊕ (St)) :=
  if (8 : Int32) ≤ z75.1 then (some (.inr z75.2)) else (chk (ib ((((17 : Int32) * x1) + (1 : Int32)) + z75.1) 51) (chk (ib z75.1 8) (lt_v (up_A z75.2 (ky 0 54) (upd (st_A z75.2 (ky 0 54)) z75.1.toNatClampNeg (st_A z75.2 (ky 0 74) ((((17 : Int32) * x1) + (1 : Int32)) + z75.1).toNatClampNeg))) (fun (S9 : St) => chk (ib ((((17 : Int32) * x1) + (9 : Int32)) + z75.1) 51) (chk (ib z75.1 8) (lt_v (up_A S9 (ky 0 55) (upd (st_A S9 (ky 0 55)) z75.1.toNatClampNeg (st_A S9 (ky 0 74) ((((17 : Int32) * x1) + (9 : Int32)) + z75.1).toNatClampNeg))) (fun (S10 : St) => some (.inl ((z75.1 + 1), S10)))))))))
def f_X6_restore (S : St) (x1 : Int32) : Option (Int32 × St) :=
  (f_X6_in   x1 (0 : Int32) (2 : Int32)).bind (fun (q1 : Int32) => if q1 = 0 then (some ((0 : Int32), S)) else (chk (ib x1 3) (if (st_A S (ky 0 72) x1.toNatClampNeg) = 0 then (some ((0 : Int32), S)) else (chk (ib ((17 : Int32) * x1) 51) (lt_v (up_I S (ky 0 53) (st_A S (ky 0 74) ((17 : Int32) * x1).toNatClampNeg)) (fun (S4 : St) => (iter (f_X6_restore_L35   x1) FU ((0 : Int32), S4)).bind (fun (S7 : St) => (iter (f_X6_restore_L75   x1) FU ((0 : Int32), S7)).bind (fun (S11 : St) => lt_v (up_I S11 (ky 0 61) (0 : Int32)) (fun (S12 : St) => some ((1 : Int32), S12))))))))))
set_option maxRecDepth 100000 in
set_option maxHeartbeats 4000000 in
theorem k_X6_restore (l : Launch) (g : GG) (hg : gd wd_M g)  (hM : hs wd_M g 0 6) (S : St) (x1 : Int32) (q : Int32 × St) (hf : f_X6_restore  S x1 = some q) : Met l yX6_restore (Cond.code yX6_restore cX6_restore 3 (some .boolean) :: gw_tbl) rm_X6_restore (va_Pc [.ref (gg_o g 0), .int x1] (wI wd_M g S)) (qc_w wd_M g q) 0 0 (aw g) := by
  refine mt_start (own := RX6) hg (by decide) rfl (Nat.le_of_ble_eq_true rfl) (fun p e s m args below meth c ls H locs cx hw hr hlk hl => ?_)
  have hx := cx.1
  have hb := cx.2.1
  have hown := cx.2.2.2.1
  have hts := cx.2.2.2.2.1
  have hl : lv_has ls 3 [(0, .ref (gg_o g 0)), (1, .int x1)] := hl
  replace hf := h_top hf
  unfold f_X6_restore at hf
  refine lv_iload_n hx hb dX6_restore_0 rfl (lv_at hl 1 rfl) ?_
  refine lv_iconst (v := 0) hx hb dX6_restore_1 (by decide) ?_
  refine lv_iconst (v := 2) hx hb dX6_restore_2 (by decide) ?_
  refine r_S_i (As := [.int x1, .int (0 : Int32), .int (2 : Int32)]) (rest := []) cx hw hf lk_X6_341 (fun q1 hq => k_X6_in l g hg   S x1 (0 : Int32) (2 : Int32) q1 hq) ⟨⟨rfl, rfl⟩, Nat.le_of_ble_eq_true rfl, Nat.le_of_ble_eq_true rfl⟩ rfl hl.1 rfl (Nat.le_of_ble_eq_true rfl) dX6_restore_3 ⟨Nat.zero_le _, Nat.zero_le _⟩ (fun q1 H locs hw hf => ?_)
  refine lv_if_eq hx hb dX6_restore_6 (tgt := 18) rfl (fun hc2 => ?_) (fun hc2 => ?_)
  · replace hf := h_pos hc2 hf
    refine lv_iconst (v := 0) hx hb dX6_restore_18 (by decide) ?_
    exact r_zretw cx hw hr hlk (Or.inl rfl) hf dX6_restore_19
  replace hf := h_neg hc2 hf
  refine lv_aload_n hx hb dX6_restore_9 rfl (lv_at hl 0 rfl) ?_
  refine gf_X6_167 cx hw hM dX6_restore_10 ?_
  refine lv_iload_n hx hb dX6_restore_13 rfl (lv_at hl 1 rfl) ?_
  refine r_zald cx hw (hM.2.2.1 72 rfl) rfl rfl hf dX6_restore_14 (fun hf => ?_)
  refine lv_if_ne hx hb dX6_restore_15 (tgt := 20) rfl (fun hc3 => ?_) (fun hc3 => ?_)
  · replace hf := h_neg hc3 hf
    refine lv_aload_n hx hb dX6_restore_20 rfl (lv_at hl 0 rfl) ?_
    refine lv_aload_n hx hb dX6_restore_21 rfl (lv_at hl 0 rfl) ?_
    refine gf_X6_173 cx hw hM dX6_restore_22 ?_
    refine lv_bipush (v := 17) hx hb dX6_restore_25 (by decide) ?_
    refine lv_iload_n hx hb dX6_restore_27 rfl (lv_at hl 1 rfl) ?_
    refine lv_imul hx hb dX6_restore_28 ?_
    refine r_iald cx hw (hM.2.2.1 74 rfl) rfl rfl hf dX6_restore_29 (fun hf => ?_)
    refine pf_X6_345 cx hw hM hf dX6_restore_30 (fun S4 H locs hw hf => ?_)
    refine lv_iconst (v := 0) hx hb dX6_restore_33 (by decide) ?_
    refine lv_istore_n hx hb dX6_restore_34 rfl hl (by decide) (lv' := [(2, .int (0 : Int32)), (0, .ref (gg_o g 0)), (1, .int x1)]) rfl (fun ls hl => ?_)
    have L35 : ∀ (x1 : Int32) (aft35 : St → Option (Int32 × St)), (∀ (ls : Array Slot) (H : Heap) (locs : List Loc) (S1 : St), lv_has ls 3 [(0, .ref (gg_o g 0)), (1, .int x1)] → HH wd_M g s S1 H locs → aft35 S1 = some q → W p l e rm_X6_restore s m args below meth c H locs 0 0 (MQ below (qc_w wd_M g q) args s 0 0 (aw g)) (F0 m 73 ls [])) → ∀ (n35 : Nat) (ls : Array Slot) (H : Heap) (locs : List Loc) (z35 : Int32 × St), lv_has ls 3 [(0, .ref (gg_o g 0)), (1, .int x1), (2, .int z35.1)] → HH wd_M g s z35.2 H locs → (iter (f_X6_restore_L35   x1) n35 z35).bind aft35 = some q → W p l e rm_X6_restore s m args below meth c H locs 0 0 (MQ below (qc_w wd_M g q) args s 0 0 (aw g)) (F0 m 35 ls []) := by
      intro x1 aft35 hX35 n35
      induction n35 with
      | zero => intro ls H locs z35 hl hw hf; exact h_iter0 hf
      | succ n35 ih35 =>
        intro ls H locs z35 hl hw hf
        replace hf := h_iter hf
        unfold f_X6_restore_L35 at hf
        refine lv_iload_n hx hb dX6_restore_35 rfl (lv_at hl 2 rfl) ?_
        refine lv_bipush (v := 36) hx hb dX6_restore_36 (by decide) ?_
        refine lv_aload_n hx hb dX6_restore_38 rfl (lv_at hl 0 rfl) ?_
        refine gf_X6_345 cx hw hM dX6_restore_39 ?_
        refine lv_imul hx hb dX6_restore_42 ?_
        refine lv_bipush (v := 36) hx hb dX6_restore_43 (by decide) ?_
        refine lv_iadd hx hb dX6_restore_45 ?_
        refine lv_icmp_ge hx hb dX6_restore_46 (tgt := 73) rfl (fun hc5 => ?_) (fun hc5 => ?_)
        · replace hf := h_pos hc5 hf
          exact hX35 _ _ _ z35.2 (lv_sub hl [0, 1] rfl) hw hf
        replace hf := h_neg hc5 hf
        refine lv_aload_n hx hb dX6_restore_49 rfl (lv_at hl 0 rfl) ?_
        refine gf_X6_122 cx hw hM dX6_restore_50 ?_
        refine lv_iload_n hx hb dX6_restore_53 rfl (lv_at hl 2 rfl) ?_
        refine lv_aload_n hx hb dX6_restore_54 rfl (lv_at hl 0 rfl) ?_
        refine gf_X6_170 cx hw hM dX6_restore_55 ?_
        refine lv_sipush (v := 10800) hx hb dX6_restore_58 (by decide) ?_
        refine lv_iload_n hx hb dX6_restore_61 rfl (lv_at hl 1 rfl) ?_
        refine lv_imul hx hb dX6_restore_62 ?_
        refine lv_iload_n hx hb dX6_restore_63 rfl (lv_at hl 2 rfl) ?_
        refine lv_iadd hx hb dX6_restore_64 ?_
        refine r_iald cx hw (hM.2.2.1 73 rfl) rfl rfl hf dX6_restore_65 (fun hf => ?_)
        refine r_iast cx hw (hM.2.2.1 52 rfl) rfl rfl hf dX6_restore_66 (fun S6 H locs hw hf => ?_)
        refine lv_iinc hx hb dX6_restore_67 hl (k := 2) rfl (congrArg (HAdd.hAdd _) (show Int32.ofInt (1) = 1 by decide)) (by decide) (lv' := [(2, .int (z35.1 + 1)), (0, .ref (gg_o g 0)), (1, .int x1)]) rfl (fun ls hl => ?_)
        refine lv_goto hx hb dX6_restore_70 (tgt := 35) rfl ?_
        exact ih35 _ _ _ ((z35.1 + 1), S6) (lv_sub hl [1, 2, 0] rfl) hw hf
    refine L35 x1 _ (fun ls H locs S7 hl hw hf => ?_) FU _ _ _ ((0 : Int32), S4) (lv_sub hl [1, 2, 0] rfl) hw (h_assoc hf)
    try dsimp only at hf
    refine lv_iconst (v := 0) hx hb dX6_restore_73 (by decide) ?_
    refine lv_istore_n hx hb dX6_restore_74 rfl hl (by decide) (lv' := [(2, .int (0 : Int32)), (0, .ref (gg_o g 0)), (1, .int x1)]) rfl (fun ls hl => ?_)
    have L75 : ∀ (x1 : Int32) (aft75 : St → Option (Int32 × St)), (∀ (ls : Array Slot) (H : Heap) (locs : List Loc) (S1 : St), lv_has ls 3 [(0, .ref (gg_o g 0))] → HH wd_M g s S1 H locs → aft75 S1 = some q → W p l e rm_X6_restore s m args below meth c H locs 0 0 (MQ below (qc_w wd_M g q) args s 0 0 (aw g)) (F0 m 126 ls [])) → ∀ (n75 : Nat) (ls : Array Slot) (H : Heap) (locs : List Loc) (z75 : Int32 × St), lv_has ls 3 [(0, .ref (gg_o g 0)), (1, .int x1), (2, .int z75.1)] → HH wd_M g s z75.2 H locs → (iter (f_X6_restore_L75   x1) n75 z75).bind aft75 = some q → W p l e rm_X6_restore s m args below meth c H locs 0 0 (MQ below (qc_w wd_M g q) args s 0 0 (aw g)) (F0 m 75 ls []) := by
      intro x1 aft75 hX75 n75
      induction n75 with
      | zero => intro ls H locs z75 hl hw hf; exact h_iter0 hf
      | succ n75 ih75 =>
        intro ls H locs z75 hl hw hf
        replace hf := h_iter hf
        unfold f_X6_restore_L75 at hf
        refine lv_iload_n hx hb dX6_restore_75 rfl (lv_at hl 2 rfl) ?_
        refine lv_bipush (v := 8) hx hb dX6_restore_76 (by decide) ?_
        refine lv_icmp_ge hx hb dX6_restore_78 (tgt := 126) rfl (fun hc8 => ?_) (fun hc8 => ?_)
        · replace hf := h_pos hc8 hf
          exact hX75 _ _ _ z75.2 (lv_sub hl [0] rfl) hw hf
        replace hf := h_neg hc8 hf
        refine lv_aload_n hx hb dX6_restore_81 rfl (lv_at hl 0 rfl) ?_
        refine gf_X6_125 cx hw hM dX6_restore_82 ?_
        refine lv_iload_n hx hb dX6_restore_85 rfl (lv_at hl 2 rfl) ?_
        refine lv_aload_n hx hb dX6_restore_86 rfl (lv_at hl 0 rfl) ?_
        refine gf_X6_173 cx hw hM dX6_restore_87 ?_
        refine lv_bipush (v := 17) hx hb dX6_restore_90 (by decide) ?_
        refine lv_iload_n hx hb dX6_restore_92 rfl (lv_at hl 1 rfl) ?_
        refine lv_imul hx hb dX6_restore_93 ?_
        refine lv_iconst (v := 1) hx hb dX6_restore_94 (by decide) ?_
        refine lv_iadd hx hb dX6_restore_95 ?_
        refine lv_iload_n hx hb dX6_restore_96 rfl (lv_at hl 2 rfl) ?_
        refine lv_iadd hx hb dX6_restore_97 ?_
        refine r_iald cx hw (hM.2.2.1 74 rfl) rfl rfl hf dX6_restore_98 (fun hf => ?_)
        refine r_iast cx hw (hM.2.2.1 54 rfl) rfl rfl hf dX6_restore_99 (fun S9 H locs hw hf => ?_)
        refine lv_aload_n hx hb dX6_restore_100 rfl (lv_at hl 0 rfl) ?_
        refine gf_X6_128 cx hw hM dX6_restore_101 ?_
        refine lv_iload_n hx hb dX6_restore_104 rfl (lv_at hl 2 rfl) ?_
        refine lv_aload_n hx hb dX6_restore_105 rfl (lv_at hl 0 rfl) ?_
        refine gf_X6_173 cx hw hM dX6_restore_106 ?_
        refine lv_bipush (v := 17) hx hb dX6_restore_109 (by decide) ?_
        refine lv_iload_n hx hb dX6_restore_111 rfl (lv_at hl 1 rfl) ?_
        refine lv_imul hx hb dX6_restore_112 ?_
        refine lv_bipush (v := 9) hx hb dX6_restore_113 (by decide) ?_
        refine lv_iadd hx hb dX6_restore_115 ?_
        refine lv_iload_n hx hb dX6_restore_116 rfl (lv_at hl 2 rfl) ?_
        refine lv_iadd hx hb dX6_restore_117 ?_
        refine r_iald cx hw (hM.2.2.1 74 rfl) rfl rfl hf dX6_restore_118 (fun hf => ?_)
        refine r_iast cx hw (hM.2.2.1 55 rfl) rfl rfl hf dX6_restore_119 (fun S10 H locs hw hf => ?_)
        refine lv_iinc hx hb dX6_restore_120 hl (k := 2) rfl (congrArg (HAdd.hAdd _) (show Int32.ofInt (1) = 1 by decide)) (by decide) (lv' := [(2, .int (z75.1 + 1)), (0, .ref (gg_o g 0)), (1, .int x1)]) rfl (fun ls hl => ?_)
        refine lv_goto hx hb dX6_restore_123 (tgt := 75) rfl ?_
        exact ih75 _ _ _ ((z75.1 + 1), S10) (lv_sub hl [1, 2, 0] rfl) hw hf
    refine L75 x1 _ (fun ls H locs S11 hl hw hf => ?_) FU _ _ _ ((0 : Int32), S7) (lv_sub hl [1, 2, 0] rfl) hw (h_assoc hf)
    try dsimp only at hf
    refine lv_aload_n hx hb dX6_restore_126 rfl (lv_at hl 0 rfl) ?_
    refine lv_iconst (v := 0) hx hb dX6_restore_127 (by decide) ?_
    refine pf_X6_275 cx hw hM hf dX6_restore_128 (fun S12 H locs hw hf => ?_)
    refine lv_iconst (v := 1) hx hb dX6_restore_131 (by decide) ?_
    exact r_zretw cx hw hr hlk (Or.inr rfl) hf dX6_restore_132
  replace hf := h_pos hc3 hf
  refine lv_iconst (v := 0) hx hb dX6_restore_18 (by decide) ?_
  exact r_zretw cx hw hr hlk (Or.inl rfl) hf dX6_restore_19
theorem dX6_count_0 : decode cX6_count 0 = .ok (.iload_n 1, 1) := by decide +kernel
theorem dX6_count_1 : decode cX6_count 1 = .ok (.tableswitch 225 0 10 #[59, 69, 79, 89, 99, 104, 104, 165, 170, 175, 180], 59) := by decide +kernel
theorem dX6_count_60 : decode cX6_count 60 = .ok (.aload_n 0, 1) := by decide +kernel
theorem dX6_count_61 : decode cX6_count 61 = .ok (.getfield 49, 3) := by decide +kernel
theorem dX6_count_64 : decode cX6_count 64 = .ok (.aload_n 0, 1) := by decide +kernel
theorem dX6_count_65 : decode cX6_count 65 = .ok (.getfield 257, 3) := by decide +kernel
theorem dX6_count_68 : decode cX6_count 68 = .ok (.iaload, 1) := by decide +kernel
theorem dX6_count_69 : decode cX6_count 69 = .ok (.ireturn, 1) := by decide +kernel
theorem dX6_count_70 : decode cX6_count 70 = .ok (.aload_n 0, 1) := by decide +kernel
theorem dX6_count_71 : decode cX6_count 71 = .ok (.getfield 52, 3) := by decide +kernel
theorem dX6_count_74 : decode cX6_count 74 = .ok (.aload_n 0, 1) := by decide +kernel
theorem dX6_count_75 : decode cX6_count 75 = .ok (.getfield 257, 3) := by decide +kernel
theorem dX6_count_78 : decode cX6_count 78 = .ok (.iaload, 1) := by decide +kernel
theorem dX6_count_79 : decode cX6_count 79 = .ok (.ireturn, 1) := by decide +kernel
theorem dX6_count_80 : decode cX6_count 80 = .ok (.aload_n 0, 1) := by decide +kernel
theorem dX6_count_81 : decode cX6_count 81 = .ok (.getfield 61, 3) := by decide +kernel
theorem dX6_count_84 : decode cX6_count 84 = .ok (.aload_n 0, 1) := by decide +kernel
theorem dX6_count_85 : decode cX6_count 85 = .ok (.getfield 257, 3) := by decide +kernel
theorem dX6_count_88 : decode cX6_count 88 = .ok (.iaload, 1) := by decide +kernel
theorem dX6_count_89 : decode cX6_count 89 = .ok (.ireturn, 1) := by decide +kernel
theorem dX6_count_90 : decode cX6_count 90 = .ok (.aload_n 0, 1) := by decide +kernel
theorem dX6_count_91 : decode cX6_count 91 = .ok (.getfield 70, 3) := by decide +kernel
theorem dX6_count_94 : decode cX6_count 94 = .ok (.aload_n 0, 1) := by decide +kernel
theorem dX6_count_95 : decode cX6_count 95 = .ok (.getfield 257, 3) := by decide +kernel
theorem dX6_count_98 : decode cX6_count 98 = .ok (.iaload, 1) := by decide +kernel
theorem dX6_count_99 : decode cX6_count 99 = .ok (.ireturn, 1) := by decide +kernel
theorem dX6_count_100 : decode cX6_count 100 = .ok (.aload_n 0, 1) := by decide +kernel
theorem dX6_count_101 : decode cX6_count 101 = .ok (.getfield 345, 3) := by decide +kernel
theorem dX6_count_104 : decode cX6_count 104 = .ok (.ireturn, 1) := by decide +kernel
theorem dX6_count_105 : decode cX6_count 105 = .ok (.iconst 0, 1) := by decide +kernel
theorem dX6_count_106 : decode cX6_count 106 = .ok (.istore_n 2, 1) := by decide +kernel
theorem dX6_count_107 : decode cX6_count 107 = .ok (.iconst 0, 1) := by decide +kernel
theorem dX6_count_108 : decode cX6_count 108 = .ok (.istore_n 3, 1) := by decide +kernel
theorem dX6_count_109 : decode cX6_count 109 = .ok (.iload_n 3, 1) := by decide +kernel
theorem dX6_count_110 : decode cX6_count 110 = .ok (.aload_n 0, 1) := by decide +kernel
theorem dX6_count_111 : decode cX6_count 111 = .ok (.getfield 70, 3) := by decide +kernel
theorem dX6_count_114 : decode cX6_count 114 = .ok (.aload_n 0, 1) := by decide +kernel
theorem dX6_count_115 : decode cX6_count 115 = .ok (.getfield 257, 3) := by decide +kernel
theorem dX6_count_118 : decode cX6_count 118 = .ok (.iaload, 1) := by decide +kernel
theorem dX6_count_119 : decode cX6_count 119 = .ok (.if_icmp .ge 45, 3) := by decide +kernel
theorem dX6_count_122 : decode cX6_count 122 = .ok (.iload_n 1, 1) := by decide +kernel
theorem dX6_count_123 : decode cX6_count 123 = .ok (.iconst 5, 1) := by decide +kernel
theorem dX6_count_124 : decode cX6_count 124 = .ok (.if_icmp .ne 16, 3) := by decide +kernel
theorem dX6_count_127 : decode cX6_count 127 = .ok (.aload_n 0, 1) := by decide +kernel
theorem dX6_count_128 : decode cX6_count 128 = .ok (.getfield 125, 3) := by decide +kernel
theorem dX6_count_131 : decode cX6_count 131 = .ok (.iload_n 3, 1) := by decide +kernel
theorem dX6_count_132 : decode cX6_count 132 = .ok (.iaload, 1) := by decide +kernel
theorem dX6_count_133 : decode cX6_count 133 = .ok (.iconst (-1), 1) := by decide +kernel
theorem dX6_count_134 : decode cX6_count 134 = .ok (.if_icmp .eq 24, 3) := by decide +kernel
theorem dX6_count_137 : decode cX6_count 137 = .ok (.goto 15, 3) := by decide +kernel
theorem dX6_count_140 : decode cX6_count 140 = .ok (.aload_n 0, 1) := by decide +kernel
theorem dX6_count_141 : decode cX6_count 141 = .ok (.bipush 20, 2) := by decide +kernel
theorem dX6_count_143 : decode cX6_count 143 = .ok (.iload_n 3, 1) := by decide +kernel
theorem dX6_count_144 : decode cX6_count 144 = .ok (.iadd, 1) := by decide +kernel
theorem dX6_count_145 : decode cX6_count 145 = .ok (.invokevirtual 431, 3) := by decide +kernel
theorem dX6_count_148 : decode cX6_count 148 = .ok (.iconst 1, 1) := by decide +kernel
theorem dX6_count_149 : decode cX6_count 149 = .ok (.if_icmp .ne 9, 3) := by decide +kernel
theorem dX6_count_152 : decode cX6_count 152 = .ok (.iload_n 2, 1) := by decide +kernel
theorem dX6_count_153 : decode cX6_count 153 = .ok (.iconst 1, 1) := by decide +kernel
theorem dX6_count_154 : decode cX6_count 154 = .ok (.iload_n 3, 1) := by decide +kernel
theorem dX6_count_155 : decode cX6_count 155 = .ok (.ishl, 1) := by decide +kernel
theorem dX6_count_156 : decode cX6_count 156 = .ok (.ior, 1) := by decide +kernel
theorem dX6_count_157 : decode cX6_count 157 = .ok (.istore_n 2, 1) := by decide +kernel
theorem dX6_count_158 : decode cX6_count 158 = .ok (.iinc 3 1, 3) := by decide +kernel
theorem dX6_count_161 : decode cX6_count 161 = .ok (.goto (-52), 3) := by decide +kernel
theorem dX6_count_164 : decode cX6_count 164 = .ok (.iload_n 2, 1) := by decide +kernel
theorem dX6_count_165 : decode cX6_count 165 = .ok (.ireturn, 1) := by decide +kernel
theorem dX6_count_166 : decode cX6_count 166 = .ok (.aload_n 0, 1) := by decide +kernel
theorem dX6_count_167 : decode cX6_count 167 = .ok (.getfield 190, 3) := by decide +kernel
theorem dX6_count_170 : decode cX6_count 170 = .ok (.ireturn, 1) := by decide +kernel
theorem dX6_count_171 : decode cX6_count 171 = .ok (.aload_n 0, 1) := by decide +kernel
theorem dX6_count_172 : decode cX6_count 172 = .ok (.getfield 275, 3) := by decide +kernel
theorem dX6_count_175 : decode cX6_count 175 = .ok (.ireturn, 1) := by decide +kernel
theorem dX6_count_176 : decode cX6_count 176 = .ok (.aload_n 0, 1) := by decide +kernel
theorem dX6_count_177 : decode cX6_count 177 = .ok (.getfield 278, 3) := by decide +kernel
theorem dX6_count_180 : decode cX6_count 180 = .ok (.ireturn, 1) := by decide +kernel
theorem dX6_count_181 : decode cX6_count 181 = .ok (.aload_n 0, 1) := by decide +kernel
theorem dX6_count_182 : decode cX6_count 182 = .ok (.getfield 167, 3) := by decide +kernel
theorem dX6_count_185 : decode cX6_count 185 = .ok (.iconst 0, 1) := by decide +kernel
theorem dX6_count_186 : decode cX6_count 186 = .ok (.baload, 1) := by decide +kernel
theorem dX6_count_187 : decode cX6_count 187 = .ok (.ifCond .eq 7, 3) := by decide +kernel
theorem dX6_count_190 : decode cX6_count 190 = .ok (.iconst 1, 1) := by decide +kernel
theorem dX6_count_191 : decode cX6_count 191 = .ok (.goto 4, 3) := by decide +kernel
theorem dX6_count_194 : decode cX6_count 194 = .ok (.iconst 0, 1) := by decide +kernel
theorem dX6_count_195 : decode cX6_count 195 = .ok (.aload_n 0, 1) := by decide +kernel
theorem dX6_count_196 : decode cX6_count 196 = .ok (.getfield 167, 3) := by decide +kernel
theorem dX6_count_199 : decode cX6_count 199 = .ok (.iconst 1, 1) := by decide +kernel
theorem dX6_count_200 : decode cX6_count 200 = .ok (.baload, 1) := by decide +kernel
theorem dX6_count_201 : decode cX6_count 201 = .ok (.ifCond .eq 7, 3) := by decide +kernel
theorem dX6_count_204 : decode cX6_count 204 = .ok (.iconst 1, 1) := by decide +kernel
theorem dX6_count_205 : decode cX6_count 205 = .ok (.goto 4, 3) := by decide +kernel
theorem dX6_count_208 : decode cX6_count 208 = .ok (.iconst 0, 1) := by decide +kernel
theorem dX6_count_209 : decode cX6_count 209 = .ok (.iadd, 1) := by decide +kernel
theorem dX6_count_210 : decode cX6_count 210 = .ok (.aload_n 0, 1) := by decide +kernel
theorem dX6_count_211 : decode cX6_count 211 = .ok (.getfield 167, 3) := by decide +kernel
theorem dX6_count_214 : decode cX6_count 214 = .ok (.iconst 2, 1) := by decide +kernel
theorem dX6_count_215 : decode cX6_count 215 = .ok (.baload, 1) := by decide +kernel
theorem dX6_count_216 : decode cX6_count 216 = .ok (.ifCond .eq 7, 3) := by decide +kernel
theorem dX6_count_219 : decode cX6_count 219 = .ok (.iconst 1, 1) := by decide +kernel
theorem dX6_count_220 : decode cX6_count 220 = .ok (.goto 4, 3) := by decide +kernel
theorem dX6_count_223 : decode cX6_count 223 = .ok (.iconst 0, 1) := by decide +kernel
theorem dX6_count_224 : decode cX6_count 224 = .ok (.iadd, 1) := by decide +kernel
theorem dX6_count_225 : decode cX6_count 225 = .ok (.ireturn, 1) := by decide +kernel
theorem dX6_count_226 : decode cX6_count 226 = .ok (.iconst (-1), 1) := by decide +kernel
theorem dX6_count_227 : decode cX6_count 227 = .ok (.ireturn, 1) := by decide +kernel
abbrev rm_X6_count : Room := { frames := 1, cells := 0, slots := 0, locals := 21 }
def f_X6_count_J152 (S : St) (x1 : Int32) (x2 : Int32) (x3 : Int32) : Option ((Int32 × Int32) ⊕ (Int32)) :=
  some (.inl ((x2 ||| ((1 : Int32) <<< (x3 &&& 31))), (x3 + 1)))
def f_X6_count_L109 (S : St) (x1 : Int32) (z109 : Int32 × Int32) : Option ((Int32 × Int32) ⊕ (Int32)) :=
  chk (ib (st_I S (ky 0 18)) 2) (if (st_A S (ky 0 31) (st_I S (ky 0 18)).toNatClampNeg) ≤ z109.2 then (some (.inr z109.1)) else (if x1 = (5 : Int32) then (chk (ib z109.2 8) (if (st_A S (ky 0 54) z109.2.toNatClampNeg) = (-1 : Int32) then (some (.inl (z109.1, (z109.2 + 1)))) else (f_X6_count_J152  S x1 z109.1 z109.2))) else ((f_X6_nowOf  S ((20 : Int32) + z109.2)).bind (fun (q4 : Int32) => if q4 = (1 : Int32) then (f_X6_count_J152  S x1 z109.1 z109.2) else (some (.inl (z109.1, (z109.2 + 1))))))))
def f_X6_count_J209 (S : St) (y0 : Int32) (y1 : Int32) : Option (Int32) :=
  chk (ib (2 : Int32) 3) (if (st_A S (ky 0 72) (2 : Int32).toNatClampNeg) = 0 then (some ((y1 + y0) + (0 : Int32))) else (some ((y1 + y0) + (1 : Int32))))
def f_X6_count_J195 (S : St) (y0 : Int32) : Option (Int32) :=
  chk (ib (1 : Int32) 3) (if (st_A S (ky 0 72) (1 : Int32).toNatClampNeg) = 0 then (f_X6_count_J209  S (0 : Int32) y0) else (f_X6_count_J209  S (1 : Int32) y0))
def f_X6_count (S : St) (x1 : Int32) : Option (Int32) :=
  if x1 = 0 then (chk (ib (st_I S (ky 0 18)) 2) (some (st_A S (ky 0 24) (st_I S (ky 0 18)).toNatClampNeg))) else (if x1 = 1 then (chk (ib (st_I S (ky 0 18)) 2) (some (st_A S (ky 0 25) (st_I S (ky 0 18)).toNatClampNeg))) else (if x1 = 2 then (chk (ib (st_I S (ky 0 18)) 2) (some (st_A S (ky 0 28) (st_I S (ky 0 18)).toNatClampNeg))) else (if x1 = 3 then (chk (ib (st_I S (ky 0 18)) 2) (some (st_A S (ky 0 31) (st_I S (ky 0 18)).toNatClampNeg))) else (if x1 = 4 then (some (st_I S (ky 0 53))) else (if x1 = 5 ∨ x1 = 6 then (iter (f_X6_count_L109  S x1) FU ((0 : Int32), (0 : Int32))) else (if x1 = 7 then (some (st_I S (ky 0 2))) else (if x1 = 8 then (some (st_I S (ky 0 61))) else (if x1 = 9 then (some (st_I S (ky 0 67))) else (if x1 = 10 then (chk (ib (0 : Int32) 3) (if (st_A S (ky 0 72) (0 : Int32).toNatClampNeg) = 0 then (f_X6_count_J195  S (0 : Int32)) else (f_X6_count_J195  S (1 : Int32)))) else (some (-1 : Int32)))))))))))
set_option maxRecDepth 100000 in
set_option maxHeartbeats 4000000 in
theorem k_X6_count (l : Launch) (g : GG) (hg : gd wd_M g)  (hM : hs wd_M g 0 6) (S : St) (x1 : Int32) (q : Int32) (hf : f_X6_count  S x1 = some q) : Met l yX6_count (Cond.code yX6_count cX6_count 4 (some .int) :: gw_tbl) rm_X6_count (va_Pc [.ref (gg_o g 0), .int x1] (wI wd_M g S)) (qc_i wd_M g S q) 0 0 (aw g) := by
  refine mt_start (own := RX6) hg (by decide) rfl (Nat.le_of_ble_eq_true rfl) (fun p e s m args below meth c ls H locs cx hw hr hlk hl => ?_)
  have hx := cx.1
  have hb := cx.2.1
  have hown := cx.2.2.2.1
  have hts := cx.2.2.2.2.1
  have hl : lv_has ls 4 [(0, .ref (gg_o g 0)), (1, .int x1)] := hl
  replace hf := h_top hf
  unfold f_X6_count at hf
  have J209 : ∀ (ls : Array Slot) (H : Heap) (locs : List Loc) (y0 : Int32) (y1 : Int32), lv_has ls 4 [(0, .ref (gg_o g 0))] → HH wd_M g s S H locs → (f_X6_count_J209  S y0 y1).bind some = some q → W p l e rm_X6_count s m args below meth c H locs 0 0 (MQ below (qc_i wd_M g S q) args s 0 0 (aw g)) (F0 m 209 ls [.int y0, .int y1]) := by
    intro ls H locs y0 y1 hl hw hf
    unfold f_X6_count_J209 at hf
    refine lv_iadd hx hb dX6_count_209 ?_
    refine lv_aload_n hx hb dX6_count_210 rfl (lv_at hl 0 rfl) ?_
    refine gf_X6_167 cx hw hM dX6_count_211 ?_
    refine lv_iconst (v := 2) hx hb dX6_count_214 (by decide) ?_
    refine r_zald cx hw (hM.2.2.1 72 rfl) rfl rfl hf dX6_count_215 (fun hf => ?_)
    refine lv_if_eq hx hb dX6_count_216 (tgt := 223) rfl (fun hc9 => ?_) (fun hc9 => ?_)
    · replace hf := h_pos hc9 hf
      refine lv_iconst (v := 0) hx hb dX6_count_223 (by decide) ?_
      refine lv_iadd hx hb dX6_count_224 ?_
      exact r_iret cx hw hr hlk hf dX6_count_225
    replace hf := h_neg hc9 hf
    refine lv_iconst (v := 1) hx hb dX6_count_219 (by decide) ?_
    refine lv_goto hx hb dX6_count_220 (tgt := 224) rfl ?_
    refine lv_iadd hx hb dX6_count_224 ?_
    exact r_iret cx hw hr hlk hf dX6_count_225
  have J195 : ∀ (ls : Array Slot) (H : Heap) (locs : List Loc) (y0 : Int32), lv_has ls 4 [(0, .ref (gg_o g 0))] → HH wd_M g s S H locs → (f_X6_count_J195  S y0).bind some = some q → W p l e rm_X6_count s m args below meth c H locs 0 0 (MQ below (qc_i wd_M g S q) args s 0 0 (aw g)) (F0 m 195 ls [.int y0]) := by
    intro ls H locs y0 hl hw hf
    unfold f_X6_count_J195 at hf
    refine lv_aload_n hx hb dX6_count_195 rfl (lv_at hl 0 rfl) ?_
    refine gf_X6_167 cx hw hM dX6_count_196 ?_
    refine lv_iconst (v := 1) hx hb dX6_count_199 (by decide) ?_
    refine r_zald cx hw (hM.2.2.1 72 rfl) rfl rfl hf dX6_count_200 (fun hf => ?_)
    refine lv_if_eq hx hb dX6_count_201 (tgt := 208) rfl (fun hc8 => ?_) (fun hc8 => ?_)
    · replace hf := h_pos hc8 hf
      refine lv_iconst (v := 0) hx hb dX6_count_208 (by decide) ?_
      exact J209 _ _ _ (0 : Int32) y0 (lv_sub hl [0] rfl) hw hf
    replace hf := h_neg hc8 hf
    refine lv_iconst (v := 1) hx hb dX6_count_204 (by decide) ?_
    refine lv_goto hx hb dX6_count_205 (tgt := 209) rfl ?_
    exact J209 _ _ _ (1 : Int32) y0 (lv_sub hl [0] rfl) hw hf
  refine lv_iload_n hx hb dX6_count_0 rfl (lv_at hl 1 rfl) ?_
  by_cases hc1_0 : x1 = 0
  · replace hf := h_pos hc1_0 hf
    refine lv_tableIn hx hb dX6_count_1 (by rw [hc1_0]; decide) (by rw [hc1_0]; decide) (off := 59) (by rw [hc1_0]; rfl) (tgt := 60) rfl ?_
    refine lv_aload_n hx hb dX6_count_60 rfl (lv_at hl 0 rfl) ?_
    refine gf_X6_49 cx hw hM dX6_count_61 ?_
    refine lv_aload_n hx hb dX6_count_64 rfl (lv_at hl 0 rfl) ?_
    refine gf_X6_257 cx hw hM dX6_count_65 ?_
    refine r_iald cx hw (hM.2.2.1 24 rfl) rfl rfl hf dX6_count_68 (fun hf => ?_)
    exact r_iret cx hw hr hlk hf dX6_count_69
  replace hf := h_neg hc1_0 hf
  by_cases hc1_1 : x1 = 1
  · replace hf := h_pos hc1_1 hf
    refine lv_tableIn hx hb dX6_count_1 (by rw [hc1_1]; decide) (by rw [hc1_1]; decide) (off := 69) (by rw [hc1_1]; rfl) (tgt := 70) rfl ?_
    refine lv_aload_n hx hb dX6_count_70 rfl (lv_at hl 0 rfl) ?_
    refine gf_X6_52 cx hw hM dX6_count_71 ?_
    refine lv_aload_n hx hb dX6_count_74 rfl (lv_at hl 0 rfl) ?_
    refine gf_X6_257 cx hw hM dX6_count_75 ?_
    refine r_iald cx hw (hM.2.2.1 25 rfl) rfl rfl hf dX6_count_78 (fun hf => ?_)
    exact r_iret cx hw hr hlk hf dX6_count_79
  replace hf := h_neg hc1_1 hf
  by_cases hc1_2 : x1 = 2
  · replace hf := h_pos hc1_2 hf
    refine lv_tableIn hx hb dX6_count_1 (by rw [hc1_2]; decide) (by rw [hc1_2]; decide) (off := 79) (by rw [hc1_2]; rfl) (tgt := 80) rfl ?_
    refine lv_aload_n hx hb dX6_count_80 rfl (lv_at hl 0 rfl) ?_
    refine gf_X6_61 cx hw hM dX6_count_81 ?_
    refine lv_aload_n hx hb dX6_count_84 rfl (lv_at hl 0 rfl) ?_
    refine gf_X6_257 cx hw hM dX6_count_85 ?_
    refine r_iald cx hw (hM.2.2.1 28 rfl) rfl rfl hf dX6_count_88 (fun hf => ?_)
    exact r_iret cx hw hr hlk hf dX6_count_89
  replace hf := h_neg hc1_2 hf
  by_cases hc1_3 : x1 = 3
  · replace hf := h_pos hc1_3 hf
    refine lv_tableIn hx hb dX6_count_1 (by rw [hc1_3]; decide) (by rw [hc1_3]; decide) (off := 89) (by rw [hc1_3]; rfl) (tgt := 90) rfl ?_
    refine lv_aload_n hx hb dX6_count_90 rfl (lv_at hl 0 rfl) ?_
    refine gf_X6_70 cx hw hM dX6_count_91 ?_
    refine lv_aload_n hx hb dX6_count_94 rfl (lv_at hl 0 rfl) ?_
    refine gf_X6_257 cx hw hM dX6_count_95 ?_
    refine r_iald cx hw (hM.2.2.1 31 rfl) rfl rfl hf dX6_count_98 (fun hf => ?_)
    exact r_iret cx hw hr hlk hf dX6_count_99
  replace hf := h_neg hc1_3 hf
  by_cases hc1_4 : x1 = 4
  · replace hf := h_pos hc1_4 hf
    refine lv_tableIn hx hb dX6_count_1 (by rw [hc1_4]; decide) (by rw [hc1_4]; decide) (off := 99) (by rw [hc1_4]; rfl) (tgt := 100) rfl ?_
    refine lv_aload_n hx hb dX6_count_100 rfl (lv_at hl 0 rfl) ?_
    refine gf_X6_345 cx hw hM dX6_count_101 ?_
    exact r_iret cx hw hr hlk hf dX6_count_104
  replace hf := h_neg hc1_4 hf
  by_cases hc1_5 : x1 = 5 ∨ x1 = 6
  · replace hf := h_pos hc1_5 hf
    have hD1_104 : W p l e rm_X6_count s m args below meth c H locs 0 0 (MQ below (qc_i wd_M g S q) args s 0 0 (aw g)) (F0 m 105 ls []) := by
      refine lv_iconst (v := 0) hx hb dX6_count_105 (by decide) ?_
      refine lv_istore_n hx hb dX6_count_106 rfl hl (by decide) (lv' := [(2, .int (0 : Int32)), (0, .ref (gg_o g 0)), (1, .int x1)]) rfl (fun ls hl => ?_)
      refine lv_iconst (v := 0) hx hb dX6_count_107 (by decide) ?_
      refine lv_istore_n hx hb dX6_count_108 rfl hl (by decide) (lv' := [(3, .int (0 : Int32)), (2, .int (0 : Int32)), (0, .ref (gg_o g 0)), (1, .int x1)]) rfl (fun ls hl => ?_)
      have L109 : ∀ (x1 : Int32) (aft109 : Int32 → Option (Int32)), (∀ v : Int32, aft109 v = some q → (some v : Option (Int32)).bind some = some q) → ∀ (n109 : Nat) (ls : Array Slot) (H : Heap) (locs : List Loc) (z109 : Int32 × Int32), lv_has ls 4 [(0, .ref (gg_o g 0)), (1, .int x1), (2, .int z109.1), (3, .int z109.2)] → HH wd_M g s S H locs → (iter (f_X6_count_L109  S x1) n109 z109).bind aft109 = some q → W p l e rm_X6_count s m args below meth c H locs 0 0 (MQ below (qc_i wd_M g S q) args s 0 0 (aw g)) (F0 m 109 ls []) := by
        intro x1 aft109 hR109 n109
        induction n109 with
        | zero => intro ls H locs z109 hl hw hf; exact h_iter0 hf
        | succ n109 ih109 =>
          intro ls H locs z109 hl hw hf
          replace hf := h_iter hf
          unfold f_X6_count_L109 at hf
          have J152 : ∀ (ls : Array Slot) (H : Heap) (locs : List Loc) (x2 : Int32) (x3 : Int32), lv_has ls 4 [(0, .ref (gg_o g 0)), (1, .int x1), (2, .int x2), (3, .int x3)] → HH wd_M g s S H locs → (f_X6_count_J152  S x1 x2 x3).bind (it_K (f_X6_count_L109  S x1) n109 aft109) = some q → W p l e rm_X6_count s m args below meth c H locs 0 0 (MQ below (qc_i wd_M g S q) args s 0 0 (aw g)) (F0 m 152 ls []) := by
            intro ls H locs x2 x3 hl hw hf
            unfold f_X6_count_J152 at hf
            refine lv_iload_n hx hb dX6_count_152 rfl (lv_at hl 2 rfl) ?_
            refine lv_iconst (v := 1) hx hb dX6_count_153 (by decide) ?_
            refine lv_iload_n hx hb dX6_count_154 rfl (lv_at hl 3 rfl) ?_
            refine lv_ishl hx hb dX6_count_155 ?_
            refine lv_ior hx hb dX6_count_156 ?_
            refine lv_istore_n hx hb dX6_count_157 rfl hl (by decide) (lv' := [(2, .int (x2 ||| ((1 : Int32) <<< (x3 &&& 31)))), (0, .ref (gg_o g 0)), (1, .int x1), (3, .int x3)]) rfl (fun ls hl => ?_)
            refine lv_iinc hx hb dX6_count_158 hl (k := 3) rfl (congrArg (HAdd.hAdd _) (show Int32.ofInt (1) = 1 by decide)) (by decide) (lv' := [(3, .int (x3 + 1)), (2, .int (x2 ||| ((1 : Int32) <<< (x3 &&& 31)))), (0, .ref (gg_o g 0)), (1, .int x1)]) rfl (fun ls hl => ?_)
            refine lv_goto hx hb dX6_count_161 (tgt := 109) rfl ?_
            exact ih109 _ _ _ ((x2 ||| ((1 : Int32) <<< (x3 &&& 31))), (x3 + 1)) (lv_sub hl [2, 3, 1, 0] rfl) hw hf
          refine lv_iload_n hx hb dX6_count_109 rfl (lv_at hl 3 rfl) ?_
          refine lv_aload_n hx hb dX6_count_110 rfl (lv_at hl 0 rfl) ?_
          refine gf_X6_70 cx hw hM dX6_count_111 ?_
          refine lv_aload_n hx hb dX6_count_114 rfl (lv_at hl 0 rfl) ?_
          refine gf_X6_257 cx hw hM dX6_count_115 ?_
          refine r_iald cx hw (hM.2.2.1 31 rfl) rfl rfl hf dX6_count_118 (fun hf => ?_)
          refine lv_icmp_ge hx hb dX6_count_119 (tgt := 164) rfl (fun hc2 => ?_) (fun hc2 => ?_)
          · replace hf := h_pos hc2 hf
            refine lv_iload_n hx hb dX6_count_164 rfl (lv_at hl 2 rfl) ?_
            replace hf := hR109 z109.1 hf
            exact r_iret cx hw hr hlk hf dX6_count_165
          replace hf := h_neg hc2 hf
          refine lv_iload_n hx hb dX6_count_122 rfl (lv_at hl 1 rfl) ?_
          refine lv_iconst (v := 5) hx hb dX6_count_123 (by decide) ?_
          refine lv_icmp_ne hx hb dX6_count_124 (tgt := 140) rfl (fun hc3 => ?_) (fun hc3 => ?_)
          · replace hf := h_neg hc3 hf
            refine lv_aload_n hx hb dX6_count_140 rfl (lv_at hl 0 rfl) ?_
            refine lv_bipush (v := 20) hx hb dX6_count_141 (by decide) ?_
            refine lv_iload_n hx hb dX6_count_143 rfl (lv_at hl 3 rfl) ?_
            refine lv_iadd hx hb dX6_count_144 ?_
            refine r_V_i (As := [.int ((20 : Int32) + z109.2)]) (rest := []) cx hw hf hM.2.1 (by rw [hM.1]; rfl) lk_X6_431 (fun q4 hq => k_X6_nowOf l g hg  hM S ((20 : Int32) + z109.2) q4 hq) ⟨⟨rfl, rfl⟩, Nat.le_of_ble_eq_true rfl, Nat.le_of_ble_eq_true rfl⟩ rfl hl.1 rfl (Nat.le_of_ble_eq_true rfl) dX6_count_145 ⟨Nat.zero_le _, Nat.zero_le _⟩ (fun q4 H locs hw hf => ?_)
            refine lv_iconst (v := 1) hx hb dX6_count_148 (by decide) ?_
            refine lv_icmp_ne hx hb dX6_count_149 (tgt := 158) rfl (fun hc5 => ?_) (fun hc5 => ?_)
            · replace hf := h_neg hc5 hf
              refine lv_iinc hx hb dX6_count_158 hl (k := 3) rfl (congrArg (HAdd.hAdd _) (show Int32.ofInt (1) = 1 by decide)) (by decide) (lv' := [(3, .int (z109.2 + 1)), (0, .ref (gg_o g 0)), (1, .int x1), (2, .int z109.1)]) rfl (fun ls hl => ?_)
              refine lv_goto hx hb dX6_count_161 (tgt := 109) rfl ?_
              exact ih109 _ _ _ (z109.1, (z109.2 + 1)) (lv_sub hl [1, 2, 3, 0] rfl) hw hf
            replace hf := h_pos hc5 hf
            exact J152 _ _ _ z109.1 z109.2 (lv_sub hl [0, 1, 2, 3] rfl) hw hf
          replace hf := h_pos hc3 hf
          refine lv_aload_n hx hb dX6_count_127 rfl (lv_at hl 0 rfl) ?_
          refine gf_X6_125 cx hw hM dX6_count_128 ?_
          refine lv_iload_n hx hb dX6_count_131 rfl (lv_at hl 3 rfl) ?_
          refine r_iald cx hw (hM.2.2.1 54 rfl) rfl rfl hf dX6_count_132 (fun hf => ?_)
          refine lv_iconst (v := -1) hx hb dX6_count_133 (by decide) ?_
          refine lv_icmp_eq hx hb dX6_count_134 (tgt := 158) rfl (fun hc6 => ?_) (fun hc6 => ?_)
          · replace hf := h_pos hc6 hf
            refine lv_iinc hx hb dX6_count_158 hl (k := 3) rfl (congrArg (HAdd.hAdd _) (show Int32.ofInt (1) = 1 by decide)) (by decide) (lv' := [(3, .int (z109.2 + 1)), (0, .ref (gg_o g 0)), (1, .int x1), (2, .int z109.1)]) rfl (fun ls hl => ?_)
            refine lv_goto hx hb dX6_count_161 (tgt := 109) rfl ?_
            exact ih109 _ _ _ (z109.1, (z109.2 + 1)) (lv_sub hl [1, 2, 3, 0] rfl) hw hf
          replace hf := h_neg hc6 hf
          refine lv_goto hx hb dX6_count_137 (tgt := 152) rfl ?_
          exact J152 _ _ _ z109.1 z109.2 (lv_sub hl [0, 1, 2, 3] rfl) hw hf
      exact L109 x1 some (fun v h => h) FU _ _ _ ((0 : Int32), (0 : Int32)) (lv_sub hl [2, 3, 1, 0] rfl) hw hf
    rcases hc1_5 with hc | hc
    · exact lv_tableIn hx hb dX6_count_1 (by rw [hc]; decide) (by rw [hc]; decide) (off := 104) (by rw [hc]; rfl) (tgt := 105) rfl hD1_104
    · exact lv_tableIn hx hb dX6_count_1 (by rw [hc]; decide) (by rw [hc]; decide) (off := 104) (by rw [hc]; rfl) (tgt := 105) rfl hD1_104
  replace hf := h_neg hc1_5 hf
  by_cases hc1_7 : x1 = 7
  · replace hf := h_pos hc1_7 hf
    refine lv_tableIn hx hb dX6_count_1 (by rw [hc1_7]; decide) (by rw [hc1_7]; decide) (off := 165) (by rw [hc1_7]; rfl) (tgt := 166) rfl ?_
    refine lv_aload_n hx hb dX6_count_166 rfl (lv_at hl 0 rfl) ?_
    refine gf_X6_190 cx hw hM dX6_count_167 ?_
    exact r_iret cx hw hr hlk hf dX6_count_170
  replace hf := h_neg hc1_7 hf
  by_cases hc1_8 : x1 = 8
  · replace hf := h_pos hc1_8 hf
    refine lv_tableIn hx hb dX6_count_1 (by rw [hc1_8]; decide) (by rw [hc1_8]; decide) (off := 170) (by rw [hc1_8]; rfl) (tgt := 171) rfl ?_
    refine lv_aload_n hx hb dX6_count_171 rfl (lv_at hl 0 rfl) ?_
    refine gf_X6_275 cx hw hM dX6_count_172 ?_
    exact r_iret cx hw hr hlk hf dX6_count_175
  replace hf := h_neg hc1_8 hf
  by_cases hc1_9 : x1 = 9
  · replace hf := h_pos hc1_9 hf
    refine lv_tableIn hx hb dX6_count_1 (by rw [hc1_9]; decide) (by rw [hc1_9]; decide) (off := 175) (by rw [hc1_9]; rfl) (tgt := 176) rfl ?_
    refine lv_aload_n hx hb dX6_count_176 rfl (lv_at hl 0 rfl) ?_
    refine gf_X6_278 cx hw hM dX6_count_177 ?_
    exact r_iret cx hw hr hlk hf dX6_count_180
  replace hf := h_neg hc1_9 hf
  by_cases hc1_10 : x1 = 10
  · replace hf := h_pos hc1_10 hf
    refine lv_tableIn hx hb dX6_count_1 (by rw [hc1_10]; decide) (by rw [hc1_10]; decide) (off := 180) (by rw [hc1_10]; rfl) (tgt := 181) rfl ?_
    refine lv_aload_n hx hb dX6_count_181 rfl (lv_at hl 0 rfl) ?_
    refine gf_X6_167 cx hw hM dX6_count_182 ?_
    refine lv_iconst (v := 0) hx hb dX6_count_185 (by decide) ?_
    refine r_zald cx hw (hM.2.2.1 72 rfl) rfl rfl hf dX6_count_186 (fun hf => ?_)
    refine lv_if_eq hx hb dX6_count_187 (tgt := 194) rfl (fun hc7 => ?_) (fun hc7 => ?_)
    · replace hf := h_pos hc7 hf
      refine lv_iconst (v := 0) hx hb dX6_count_194 (by decide) ?_
      exact J195 _ _ _ (0 : Int32) (lv_sub hl [0] rfl) hw hf
    replace hf := h_neg hc7 hf
    refine lv_iconst (v := 1) hx hb dX6_count_190 (by decide) ?_
    refine lv_goto hx hb dX6_count_191 (tgt := 195) rfl ?_
    exact J195 _ _ _ (1 : Int32) (lv_sub hl [0] rfl) hw hf
  replace hf := h_neg hc1_10 hf
  have hD1 : W p l e rm_X6_count s m args below meth c H locs 0 0 (MQ below (qc_i wd_M g S q) args s 0 0 (aw g)) (F0 m 226 ls []) := by
    refine lv_iconst (v := -1) hx hb dX6_count_226 (by decide) ?_
    exact r_iret cx hw hr hlk hf dX6_count_227
  refine lv_tableOut hx hb dX6_count_1 (ts_out (lo := 0) (hi := 10) (by decide) (by decide) (fun i h1 h2 => ?_)) (tgt := 226) rfl hD1
  rcases (show i = 0 ∨ i = 1 ∨ i = 2 ∨ i = 3 ∨ i = 4 ∨ i = 5 ∨ i = 6 ∨ i = 7 ∨ i = 8 ∨ i = 9 ∨ i = 10 by omega) with rfl | rfl | rfl | rfl | rfl | rfl | rfl | rfl | rfl | rfl | rfl
  · exact hc1_0
  · exact hc1_1
  · exact hc1_2
  · exact hc1_3
  · exact hc1_4
  · exact fun hc => hc1_5 (Or.inl hc)
  · exact fun hc => hc1_5 (Or.inr hc)
  · exact hc1_7
  · exact hc1_8
  · exact hc1_9
  · exact hc1_10
