theorem dX3_addLetter_0 : decode cX3_addLetter 0 = .ok (.lload_n 0, 1) := by decide +kernel
theorem dX3_addLetter_1 : decode cX3_addLetter 1 = .ok (.ldc2_w 65, 3) := by decide +kernel
theorem dX3_addLetter_4 : decode cX3_addLetter 4 = .ok (.lmul, 1) := by decide +kernel
theorem dX3_addLetter_5 : decode cX3_addLetter 5 = .ok (.iload_n 2, 1) := by decide +kernel
theorem dX3_addLetter_6 : decode cX3_addLetter 6 = .ok (.bipush 97, 2) := by decide +kernel
theorem dX3_addLetter_8 : decode cX3_addLetter 8 = .ok (.isub, 1) := by decide +kernel
theorem dX3_addLetter_9 : decode cX3_addLetter 9 = .ok (.iconst 1, 1) := by decide +kernel
theorem dX3_addLetter_10 : decode cX3_addLetter 10 = .ok (.iadd, 1) := by decide +kernel
theorem dX3_addLetter_11 : decode cX3_addLetter 11 = .ok (.i2l, 1) := by decide +kernel
theorem dX3_addLetter_12 : decode cX3_addLetter 12 = .ok (.ladd, 1) := by decide +kernel
theorem dX3_addLetter_13 : decode cX3_addLetter 13 = .ok (.lreturn, 1) := by decide +kernel
abbrev rm_X3_addLetter : Room := { frames := 0, cells := 0, slots := 0, locals := 0 }
def f_X3_addLetter (x0 : Int64) (x2 : Int32) : Option (Int64) :=
  some ((x0 * (32 : Int64)) + (((x2 - (97 : Int32)) + (1 : Int32)).toInt64))
set_option maxRecDepth 100000 in
set_option maxHeartbeats 4000000 in
theorem k_X3_addLetter (l : Launch) (g : GG) (hg : gd wd_C g)  (S : St) (x0 : Int64) (x2 : Int32) (q : Int64) (hf : f_X3_addLetter   x0 x2 = some q) : Met l yX3_addLetter (Cond.code yX3_addLetter cX3_addLetter 3 (some .long) :: gw_tbl) rm_X3_addLetter (va_Pc [.long x0, .int x2] (wI wd_C g S)) (qc_l wd_C g S q) 0 0 (aw g) := by
  refine mt_start (own := RX3) hg (by decide) rfl (Nat.le_of_ble_eq_true rfl) (fun p e s m args below meth c ls H locs cx hw hr hlk hl => ?_)
  have hx := cx.1
  have hb := cx.2.1
  have hown := cx.2.2.2.1
  have hts := cx.2.2.2.2.1
  have hl : lv_has ls 3 [(0, .long x0), (2, .int x2)] := hl
  replace hf := h_top hf
  unfold f_X3_addLetter at hf
  refine lv_lload_n hx hb dX3_addLetter_0 rfl (lv_at hl 0 rfl) ?_
  refine lv_ldc2 hx hb hown (hts _ wd_90) dX3_addLetter_1 ?_
  refine lv_lmul hx hb dX3_addLetter_4 ?_
  refine lv_iload_n hx hb dX3_addLetter_5 rfl (lv_at hl 1 rfl) ?_
  refine lv_bipush (v := 97) hx hb dX3_addLetter_6 (by decide) ?_
  refine lv_isub hx hb dX3_addLetter_8 ?_
  refine lv_iconst (v := 1) hx hb dX3_addLetter_9 (by decide) ?_
  refine lv_iadd hx hb dX3_addLetter_10 ?_
  refine lv_i2l (v := (((x2 - (97 : Int32)) + (1 : Int32)).toInt64)) hx hb dX3_addLetter_11 rfl ?_
  refine lv_ladd hx hb dX3_addLetter_12 ?_
  exact r_lret cx hw hr hlk hf dX3_addLetter_13
theorem dX3_codeOfWord_0 : decode cX3_codeOfWord 0 = .ok (.lconst 0, 1) := by decide +kernel
theorem dX3_codeOfWord_1 : decode cX3_codeOfWord 1 = .ok (.lstore_n 2, 1) := by decide +kernel
theorem dX3_codeOfWord_2 : decode cX3_codeOfWord 2 = .ok (.iload_n 0, 1) := by decide +kernel
theorem dX3_codeOfWord_3 : decode cX3_codeOfWord 3 = .ok (.iconst 0, 1) := by decide +kernel
theorem dX3_codeOfWord_4 : decode cX3_codeOfWord 4 = .ok (.invokestatic 55, 3) := by decide +kernel
theorem dX3_codeOfWord_7 : decode cX3_codeOfWord 7 = .ok (.istore 4, 2) := by decide +kernel
theorem dX3_codeOfWord_9 : decode cX3_codeOfWord 9 = .ok (.iload 4, 2) := by decide +kernel
theorem dX3_codeOfWord_11 : decode cX3_codeOfWord 11 = .ok (.iload_n 1, 1) := by decide +kernel
theorem dX3_codeOfWord_12 : decode cX3_codeOfWord 12 = .ok (.if_icmp .ge 31, 3) := by decide +kernel
theorem dX3_codeOfWord_15 : decode cX3_codeOfWord 15 = .ok (.iload 4, 2) := by decide +kernel
theorem dX3_codeOfWord_17 : decode cX3_codeOfWord 17 = .ok (.ldc 35, 2) := by decide +kernel
theorem dX3_codeOfWord_19 : decode cX3_codeOfWord 19 = .ok (.invokevirtual 37, 3) := by decide +kernel
theorem dX3_codeOfWord_22 : decode cX3_codeOfWord 22 = .ok (.if_icmp .ge 21, 3) := by decide +kernel
theorem dX3_codeOfWord_25 : decode cX3_codeOfWord 25 = .ok (.lload_n 2, 1) := by decide +kernel
theorem dX3_codeOfWord_26 : decode cX3_codeOfWord 26 = .ok (.ldc 35, 2) := by decide +kernel
theorem dX3_codeOfWord_28 : decode cX3_codeOfWord 28 = .ok (.iload 4, 2) := by decide +kernel
theorem dX3_codeOfWord_30 : decode cX3_codeOfWord 30 = .ok (.invokevirtual 43, 3) := by decide +kernel
theorem dX3_codeOfWord_33 : decode cX3_codeOfWord 33 = .ok (.invokestatic 61, 3) := by decide +kernel
theorem dX3_codeOfWord_36 : decode cX3_codeOfWord 36 = .ok (.lstore_n 2, 1) := by decide +kernel
theorem dX3_codeOfWord_37 : decode cX3_codeOfWord 37 = .ok (.iinc 4 1, 3) := by decide +kernel
theorem dX3_codeOfWord_40 : decode cX3_codeOfWord 40 = .ok (.goto (-31), 3) := by decide +kernel
theorem dX3_codeOfWord_43 : decode cX3_codeOfWord 43 = .ok (.lload_n 2, 1) := by decide +kernel
theorem dX3_codeOfWord_44 : decode cX3_codeOfWord 44 = .ok (.lreturn, 1) := by decide +kernel
abbrev rm_X3_codeOfWord : Room := { frames := 4, cells := 0, slots := 0, locals := 85 }
def f_X3_codeOfWord_L9 (x1 : Int32) (z9 : Int64 × Int32) : Option ((Int64 × Int32) ⊕ (Int64)) :=
  if x1 ≤ z9.2 then (some (.inr z9.1)) else ((f_J0_length_8abf5 0 ).bind (fun (q2 : Int32) => if q2 ≤ z9.2 then (some (.inr z9.1)) else ((f_J0_charAt_5068e 0 z9.2).bind (fun (q4 : Int32) => (f_X3_addLetter   z9.1 q4).bind (fun (q5 : Int64) => some (.inl (q5, (z9.2 + 1))))))))
def f_X3_codeOfWord (x0 : Int32) (x1 : Int32) : Option (Int64) :=
  iter (f_X3_codeOfWord_L9   x1) FU ((0 : Int64), (i_max x0 (0 : Int32)))
set_option maxRecDepth 100000 in
set_option maxHeartbeats 4000000 in
theorem k_X3_codeOfWord (l : Launch) (g : GG) (hg : gd wd_C g)  (S : St) (x0 : Int32) (x1 : Int32) (q : Int64) (hf : f_X3_codeOfWord   x0 x1 = some q) : Met l yX3_codeOfWord (Cond.code yX3_codeOfWord cX3_codeOfWord 5 (some .long) :: gw_tbl) rm_X3_codeOfWord (va_Pc [.int x0, .int x1] (wI wd_C g S)) (qc_l wd_C g S q) 0 0 (aw g) := by
  refine mt_start (own := RX3) hg (by decide) rfl (Nat.le_of_ble_eq_true rfl) (fun p e s m args below meth c ls H locs cx hw hr hlk hl => ?_)
  have hx := cx.1
  have hb := cx.2.1
  have hown := cx.2.2.2.1
  have hts := cx.2.2.2.2.1
  have hl : lv_has ls 5 [(0, .int x0), (1, .int x1)] := hl
  replace hf := h_top hf
  unfold f_X3_codeOfWord at hf
  refine lv_lconst (v := 0) hx hb dX3_codeOfWord_0 (by decide) ?_
  refine lv_lstore_n hx hb dX3_codeOfWord_1 rfl hl (by decide) (lv' := [(2, .long (0 : Int64)), (0, .int x0), (1, .int x1)]) rfl (fun ls hl => ?_)
  refine lv_iload_n hx hb dX3_codeOfWord_2 rfl (lv_at hl 1 rfl) ?_
  refine lv_iconst (v := 0) hx hb dX3_codeOfWord_3 (by decide) ?_
  refine va_mmax hx hb (cx.2.2.1.trans hl.1.symm) hown (hts _ wd_84) (hts _ wd_85) (hts _ wd_7) (hts _ wd_86) (Nat.le_of_ble_eq_true rfl) (Nat.le_of_ble_eq_true rfl) (Nat.zero_le _) (Nat.zero_le _) dX3_codeOfWord_4 ?_
  refine lv_istore hx hb dX3_codeOfWord_7 hl (by decide) (lv' := [(4, .int (i_max x0 (0 : Int32))), (2, .long (0 : Int64)), (0, .int x0), (1, .int x1)]) rfl (fun ls hl => ?_)
  have L9 : ∀ (x1 : Int32) (aft9 : Int64 → Option (Int64)), (∀ v : Int64, aft9 v = some q → (some v : Option (Int64)).bind some = some q) → ∀ (n9 : Nat) (ls : Array Slot) (H : Heap) (locs : List Loc) (z9 : Int64 × Int32), lv_has ls 5 [(1, .int x1), (2, .long z9.1), (4, .int z9.2)] → HH wd_C g s S H locs → (iter (f_X3_codeOfWord_L9   x1) n9 z9).bind aft9 = some q → W p l e rm_X3_codeOfWord s m args below meth c H locs 0 0 (MQ below (qc_l wd_C g S q) args s 0 0 (aw g)) (F0 m 9 ls []) := by
    intro x1 aft9 hR9 n9
    induction n9 with
    | zero => intro ls H locs z9 hl hw hf; exact h_iter0 hf
    | succ n9 ih9 =>
      intro ls H locs z9 hl hw hf
      replace hf := h_iter hf
      unfold f_X3_codeOfWord_L9 at hf
      refine lv_iload hx hb dX3_codeOfWord_9 (lv_at hl 2 rfl) ?_
      refine lv_iload_n hx hb dX3_codeOfWord_11 rfl (lv_at hl 0 rfl) ?_
      refine lv_icmp_ge hx hb dX3_codeOfWord_12 (tgt := 43) rfl (fun hc1 => ?_) (fun hc1 => ?_)
      · replace hf := h_pos hc1 hf
        refine lv_lload_n hx hb dX3_codeOfWord_43 rfl (lv_at hl 1 rfl) ?_
        replace hf := hR9 z9.1 hf
        exact r_lret cx hw hr hlk hf dX3_codeOfWord_44
      replace hf := h_neg hc1 hf
      refine lv_iload hx hb dX3_codeOfWord_15 (lv_at hl 2 rfl) ?_
      refine va_ldcS hx hb hown (st_R cx 0 rfl) dX3_codeOfWord_17 ?_
      refine r_VR_i (As := []) (rest := [.int z9.2]) cx hw hf (r_srecv cx hw (by decide)) lk_X3_37 (fun q2 hq => k_J0_length_8abf5 l g hg 0 (by decide) S  q2 hq) ⟨⟨rfl, rfl⟩, Nat.le_of_ble_eq_true rfl, Nat.le_of_ble_eq_true rfl⟩ rfl hl.1 rfl (Nat.le_of_ble_eq_true rfl) dX3_codeOfWord_19 ⟨Nat.zero_le _, Nat.zero_le _⟩ (fun q2 H locs hw hf => ?_)
      refine lv_icmp_ge hx hb dX3_codeOfWord_22 (tgt := 43) rfl (fun hc3 => ?_) (fun hc3 => ?_)
      · replace hf := h_pos hc3 hf
        refine lv_lload_n hx hb dX3_codeOfWord_43 rfl (lv_at hl 1 rfl) ?_
        replace hf := hR9 z9.1 hf
        exact r_lret cx hw hr hlk hf dX3_codeOfWord_44
      replace hf := h_neg hc3 hf
      refine lv_lload_n hx hb dX3_codeOfWord_25 rfl (lv_at hl 1 rfl) ?_
      refine va_ldcS hx hb hown (st_R cx 0 rfl) dX3_codeOfWord_26 ?_
      refine lv_iload hx hb dX3_codeOfWord_28 (lv_at hl 2 rfl) ?_
      refine r_VR_i (As := [.int z9.2]) (rest := [.long z9.1]) cx hw hf (r_srecv cx hw (by decide)) lk_X3_43 (fun q4 hq => k_J0_charAt_5068e l g hg 0 (by decide) S z9.2 q4 hq) ⟨⟨rfl, rfl⟩, Nat.le_of_ble_eq_true rfl, Nat.le_of_ble_eq_true rfl⟩ rfl hl.1 rfl (Nat.le_of_ble_eq_true rfl) dX3_codeOfWord_30 ⟨Nat.zero_le _, Nat.zero_le _⟩ (fun q4 H locs hw hf => ?_)
      refine r_S_l (As := [.long z9.1, .int q4]) (rest := []) cx hw hf lk_X3_61 (fun q5 hq => k_X3_addLetter l g hg   S z9.1 q4 q5 hq) ⟨⟨rfl, rfl⟩, Nat.le_of_ble_eq_true rfl, Nat.le_of_ble_eq_true rfl⟩ rfl hl.1 rfl (Nat.le_of_ble_eq_true rfl) dX3_codeOfWord_33 ⟨Nat.zero_le _, Nat.zero_le _⟩ (fun q5 H locs hw hf => ?_)
      refine lv_lstore_n hx hb dX3_codeOfWord_36 rfl hl (by decide) (lv' := [(2, .long q5), (1, .int x1), (4, .int z9.2)]) rfl (fun ls hl => ?_)
      refine lv_iinc hx hb dX3_codeOfWord_37 hl (k := 2) rfl (congrArg (HAdd.hAdd _) (show Int32.ofInt (1) = 1 by decide)) (by decide) (lv' := [(4, .int (z9.2 + 1)), (2, .long q5), (1, .int x1)]) rfl (fun ls hl => ?_)
      refine lv_goto hx hb dX3_codeOfWord_40 (tgt := 9) rfl ?_
      exact ih9 _ _ _ (q5, (z9.2 + 1)) (lv_sub hl [2, 1, 0] rfl) hw hf
  exact L9 x1 some (fun v h => h) FU _ _ _ ((0 : Int64), (i_max x0 (0 : Int32))) (lv_sub hl [3, 1, 0] rfl) hw hf
theorem dX3_clear_0 : decode cX3_clear 0 = .ok (.aload_n 0, 1) := by decide +kernel
theorem dX3_clear_1 : decode cX3_clear 1 = .ok (.iconst 0, 1) := by decide +kernel
theorem dX3_clear_2 : decode cX3_clear 2 = .ok (.putfield 98, 3) := by decide +kernel
theorem dX3_clear_5 : decode cX3_clear 5 = .ok (.aload_n 0, 1) := by decide +kernel
theorem dX3_clear_6 : decode cX3_clear 6 = .ok (.iconst (-1), 1) := by decide +kernel
theorem dX3_clear_7 : decode cX3_clear 7 = .ok (.putfield 25, 3) := by decide +kernel
theorem dX3_clear_10 : decode cX3_clear 10 = .ok (.aload_n 0, 1) := by decide +kernel
theorem dX3_clear_11 : decode cX3_clear 11 = .ok (.iconst (-1), 1) := by decide +kernel
theorem dX3_clear_12 : decode cX3_clear 12 = .ok (.putfield 95, 3) := by decide +kernel
theorem dX3_clear_15 : decode cX3_clear 15 = .ok (.iconst 0, 1) := by decide +kernel
theorem dX3_clear_16 : decode cX3_clear 16 = .ok (.istore_n 1, 1) := by decide +kernel
theorem dX3_clear_17 : decode cX3_clear 17 = .ok (.iload_n 1, 1) := by decide +kernel
theorem dX3_clear_18 : decode cX3_clear 18 = .ok (.aload_n 0, 1) := by decide +kernel
theorem dX3_clear_19 : decode cX3_clear 19 = .ok (.getfield 32, 3) := by decide +kernel
theorem dX3_clear_22 : decode cX3_clear 22 = .ok (.arraylength, 1) := by decide +kernel
theorem dX3_clear_23 : decode cX3_clear 23 = .ok (.if_icmp .ge 18, 3) := by decide +kernel
theorem dX3_clear_26 : decode cX3_clear 26 = .ok (.aload_n 0, 1) := by decide +kernel
theorem dX3_clear_27 : decode cX3_clear 27 = .ok (.getfield 32, 3) := by decide +kernel
theorem dX3_clear_30 : decode cX3_clear 30 = .ok (.iload_n 1, 1) := by decide +kernel
theorem dX3_clear_31 : decode cX3_clear 31 = .ok (.iconst 0, 1) := by decide +kernel
theorem dX3_clear_32 : decode cX3_clear 32 = .ok (.invokestatic 101, 3) := by decide +kernel
theorem dX3_clear_35 : decode cX3_clear 35 = .ok (.iinc 1 1, 3) := by decide +kernel
theorem dX3_clear_38 : decode cX3_clear 38 = .ok (.goto (-21), 3) := by decide +kernel
theorem dX3_clear_41 : decode cX3_clear 41 = .ok (.return_, 1) := by decide +kernel
abbrev rm_X3_clear : Room := { frames := 1, cells := 0, slots := 0, locals := 22 }
def f_X3_clear_L17  (z17 : Int32 × St) : Option ((Int32 × St) ⊕ (St)) :=
  if (Int32.ofNat (wk_n wd_C (ky 1 7))) ≤ z17.1 then (some (.inr z17.2)) else ((f_X5_put (ky 1 7) z17.2 z17.1 (0 : Int32)).bind (fun (q5 : St) => some (.inl ((z17.1 + 1), q5))))
def f_X3_clear (S : St)  : Option (St) :=
  lt_v (up_I S (ky 1 4) (0 : Int32)) (fun (S1 : St) => lt_v (up_I S1 (ky 1 5) (-1 : Int32)) (fun (S2 : St) => lt_v (up_I S2 (ky 1 8) (-1 : Int32)) (fun (S3 : St) => iter (f_X3_clear_L17   ) FU ((0 : Int32), S3))))
set_option maxRecDepth 100000 in
set_option maxHeartbeats 4000000 in
theorem k_X3_clear (l : Launch) (g : GG) (hg : gd wd_C g)  (h1 : hs wd_C g 1 3) (S : St)  (q : St) (hf : f_X3_clear  S  = some q) : Met l yX3_clear (Cond.code yX3_clear cX3_clear 2 none :: gw_tbl) rm_X3_clear (va_Pc [.ref (gg_o g 1)] (wI wd_C g S)) (qc_v wd_C g q) 0 0 (aw g) := by
  refine mt_start (own := RX3) hg (by decide) rfl (Nat.le_of_ble_eq_true rfl) (fun p e s m args below meth c ls H locs cx hw hr hlk hl => ?_)
  have hx := cx.1
  have hb := cx.2.1
  have hown := cx.2.2.2.1
  have hts := cx.2.2.2.2.1
  have hl : lv_has ls 2 [(0, .ref (gg_o g 1))] := hl
  replace hf := h_top hf
  unfold f_X3_clear at hf
  refine lv_aload_n hx hb dX3_clear_0 rfl (lv_at hl 0 rfl) ?_
  refine lv_iconst (v := 0) hx hb dX3_clear_1 (by decide) ?_
  refine pf_X3_98 cx hw h1 hf dX3_clear_2 (fun S1 H locs hw hf => ?_)
  refine lv_aload_n hx hb dX3_clear_5 rfl (lv_at hl 0 rfl) ?_
  refine lv_iconst (v := -1) hx hb dX3_clear_6 (by decide) ?_
  refine pf_X3_25 cx hw h1 hf dX3_clear_7 (fun S2 H locs hw hf => ?_)
  refine lv_aload_n hx hb dX3_clear_10 rfl (lv_at hl 0 rfl) ?_
  refine lv_iconst (v := -1) hx hb dX3_clear_11 (by decide) ?_
  refine pf_X3_95 cx hw h1 hf dX3_clear_12 (fun S3 H locs hw hf => ?_)
  refine lv_iconst (v := 0) hx hb dX3_clear_15 (by decide) ?_
  refine lv_istore_n hx hb dX3_clear_16 rfl hl (by decide) (lv' := [(1, .int (0 : Int32)), (0, .ref (gg_o g 1))]) rfl (fun ls hl => ?_)
  have L17 : ∀  (aft17 : St → Option (St)), (∀ v : St, aft17 v = some q → (some v : Option (St)).bind some = some q) → ∀ (n17 : Nat) (ls : Array Slot) (H : Heap) (locs : List Loc) (z17 : Int32 × St), lv_has ls 2 [(0, .ref (gg_o g 1)), (1, .int z17.1)] → HH wd_C g s z17.2 H locs → (iter (f_X3_clear_L17   ) n17 z17).bind aft17 = some q → W p l e rm_X3_clear s m args below meth c H locs 0 0 (MQ below (qc_v wd_C g q) args s 0 0 (aw g)) (F0 m 17 ls []) := by
    intro aft17 hR17 n17
    induction n17 with
    | zero => intro ls H locs z17 hl hw hf; exact h_iter0 hf
    | succ n17 ih17 =>
      intro ls H locs z17 hl hw hf
      replace hf := h_iter hf
      unfold f_X3_clear_L17 at hf
      refine lv_iload_n hx hb dX3_clear_17 rfl (lv_at hl 1 rfl) ?_
      refine lv_aload_n hx hb dX3_clear_18 rfl (lv_at hl 0 rfl) ?_
      refine gf_X3_32 cx hw h1 dX3_clear_19 ?_
      refine r_alen cx hw (h1.2.2.1 7 rfl) dX3_clear_22 ?_
      refine lv_icmp_ge hx hb dX3_clear_23 (tgt := 41) rfl (fun hc4 => ?_) (fun hc4 => ?_)
      · replace hf := h_pos hc4 hf
        replace hf := hR17 z17.2 hf
        exact r_vret cx hw hr hlk hf dX3_clear_41
      replace hf := h_neg hc4 hf
      refine lv_aload_n hx hb dX3_clear_26 rfl (lv_at hl 0 rfl) ?_
      refine gf_X3_32 cx hw h1 dX3_clear_27 ?_
      refine lv_iload_n hx hb dX3_clear_30 rfl (lv_at hl 1 rfl) ?_
      refine lv_iconst (v := 0) hx hb dX3_clear_31 (by decide) ?_
      refine r_SN_v (As := [.ref (gg_a g (ky 1 7)), .int z17.1, .int (0 : Int32)]) (rest := []) cx hw hf (nw_at cx) lk_X3_101 (fun q5 hq => k_X5_put l g hg (ky 1 7) (h1.2.2.1 7 rfl) z17.2 z17.1 (0 : Int32) q5 hq) ⟨⟨rfl, rfl⟩, Nat.le_of_ble_eq_true rfl, Nat.le_of_ble_eq_true rfl⟩ rfl hl.1 rfl (Nat.le_of_ble_eq_true rfl) dX3_clear_32 ⟨Nat.zero_le _, Nat.zero_le _⟩ (fun q5 H locs hw hf => ?_)
      refine lv_iinc hx hb dX3_clear_35 hl (k := 1) rfl (congrArg (HAdd.hAdd _) (show Int32.ofInt (1) = 1 by decide)) (by decide) (lv' := [(1, .int (z17.1 + 1)), (0, .ref (gg_o g 1))]) rfl (fun ls hl => ?_)
      refine lv_goto hx hb dX3_clear_38 (tgt := 17) rfl ?_
      exact ih17 _ _ _ ((z17.1 + 1), q5) (lv_sub hl [1, 0] rfl) hw hf
  exact L17 some (fun v h => h) FU _ _ _ ((0 : Int32), S3) (lv_sub hl [1, 0] rfl) hw hf
theorem dX3_isBlank_0 : decode cX3_isBlank 0 = .ok (.iload_n 0, 1) := by decide +kernel
theorem dX3_isBlank_1 : decode cX3_isBlank 1 = .ok (.bipush 9, 2) := by decide +kernel
theorem dX3_isBlank_3 : decode cX3_isBlank 3 = .ok (.if_icmp .eq 21, 3) := by decide +kernel
theorem dX3_isBlank_6 : decode cX3_isBlank 6 = .ok (.iload_n 0, 1) := by decide +kernel
theorem dX3_isBlank_7 : decode cX3_isBlank 7 = .ok (.bipush 10, 2) := by decide +kernel
theorem dX3_isBlank_9 : decode cX3_isBlank 9 = .ok (.if_icmp .eq 15, 3) := by decide +kernel
theorem dX3_isBlank_12 : decode cX3_isBlank 12 = .ok (.iload_n 0, 1) := by decide +kernel
theorem dX3_isBlank_13 : decode cX3_isBlank 13 = .ok (.bipush 13, 2) := by decide +kernel
theorem dX3_isBlank_15 : decode cX3_isBlank 15 = .ok (.if_icmp .eq 9, 3) := by decide +kernel
theorem dX3_isBlank_18 : decode cX3_isBlank 18 = .ok (.iload_n 0, 1) := by decide +kernel
theorem dX3_isBlank_19 : decode cX3_isBlank 19 = .ok (.bipush 32, 2) := by decide +kernel
theorem dX3_isBlank_21 : decode cX3_isBlank 21 = .ok (.if_icmp .ne 7, 3) := by decide +kernel
theorem dX3_isBlank_24 : decode cX3_isBlank 24 = .ok (.iconst 1, 1) := by decide +kernel
theorem dX3_isBlank_25 : decode cX3_isBlank 25 = .ok (.goto 4, 3) := by decide +kernel
theorem dX3_isBlank_28 : decode cX3_isBlank 28 = .ok (.iconst 0, 1) := by decide +kernel
theorem dX3_isBlank_29 : decode cX3_isBlank 29 = .ok (.ireturn, 1) := by decide +kernel
abbrev rm_X3_isBlank : Room := { frames := 0, cells := 0, slots := 0, locals := 0 }
def f_X3_isBlank (x0 : Int32) : Option (Int32) :=
  if x0 = (9 : Int32) then (some (1 : Int32)) else (if x0 = (10 : Int32) then (some (1 : Int32)) else (if x0 = (13 : Int32) then (some (1 : Int32)) else (if x0 = (32 : Int32) then (some (1 : Int32)) else (some (0 : Int32)))))
set_option maxRecDepth 100000 in
set_option maxHeartbeats 4000000 in
theorem k_X3_isBlank (l : Launch) (g : GG) (hg : gd wd_C g)  (S : St) (x0 : Int32) (q : Int32) (hf : f_X3_isBlank   x0 = some q) : Met l yX3_isBlank (Cond.code yX3_isBlank cX3_isBlank 1 (some .boolean) :: gw_tbl) rm_X3_isBlank (va_Pc [.int x0] (wI wd_C g S)) (qc_i wd_C g S q) 0 0 (aw g) := by
  refine mt_start (own := RX3) hg (by decide) rfl (Nat.le_of_ble_eq_true rfl) (fun p e s m args below meth c ls H locs cx hw hr hlk hl => ?_)
  have hx := cx.1
  have hb := cx.2.1
  have hown := cx.2.2.2.1
  have hts := cx.2.2.2.2.1
  have hl : lv_has ls 1 [(0, .int x0)] := hl
  replace hf := h_top hf
  unfold f_X3_isBlank at hf
  refine lv_iload_n hx hb dX3_isBlank_0 rfl (lv_at hl 0 rfl) ?_
  refine lv_bipush (v := 9) hx hb dX3_isBlank_1 (by decide) ?_
  refine lv_icmp_eq hx hb dX3_isBlank_3 (tgt := 24) rfl (fun hc1 => ?_) (fun hc1 => ?_)
  · replace hf := h_pos hc1 hf
    refine lv_iconst (v := 1) hx hb dX3_isBlank_24 (by decide) ?_
    refine lv_goto hx hb dX3_isBlank_25 (tgt := 29) rfl ?_
    exact r_zret cx hw hr hlk (Or.inr rfl) hf dX3_isBlank_29
  replace hf := h_neg hc1 hf
  refine lv_iload_n hx hb dX3_isBlank_6 rfl (lv_at hl 0 rfl) ?_
  refine lv_bipush (v := 10) hx hb dX3_isBlank_7 (by decide) ?_
  refine lv_icmp_eq hx hb dX3_isBlank_9 (tgt := 24) rfl (fun hc2 => ?_) (fun hc2 => ?_)
  · replace hf := h_pos hc2 hf
    refine lv_iconst (v := 1) hx hb dX3_isBlank_24 (by decide) ?_
    refine lv_goto hx hb dX3_isBlank_25 (tgt := 29) rfl ?_
    exact r_zret cx hw hr hlk (Or.inr rfl) hf dX3_isBlank_29
  replace hf := h_neg hc2 hf
  refine lv_iload_n hx hb dX3_isBlank_12 rfl (lv_at hl 0 rfl) ?_
  refine lv_bipush (v := 13) hx hb dX3_isBlank_13 (by decide) ?_
  refine lv_icmp_eq hx hb dX3_isBlank_15 (tgt := 24) rfl (fun hc3 => ?_) (fun hc3 => ?_)
  · replace hf := h_pos hc3 hf
    refine lv_iconst (v := 1) hx hb dX3_isBlank_24 (by decide) ?_
    refine lv_goto hx hb dX3_isBlank_25 (tgt := 29) rfl ?_
    exact r_zret cx hw hr hlk (Or.inr rfl) hf dX3_isBlank_29
  replace hf := h_neg hc3 hf
  refine lv_iload_n hx hb dX3_isBlank_18 rfl (lv_at hl 0 rfl) ?_
  refine lv_bipush (v := 32) hx hb dX3_isBlank_19 (by decide) ?_
  refine lv_icmp_ne hx hb dX3_isBlank_21 (tgt := 28) rfl (fun hc4 => ?_) (fun hc4 => ?_)
  · replace hf := h_neg hc4 hf
    refine lv_iconst (v := 0) hx hb dX3_isBlank_28 (by decide) ?_
    exact r_zret cx hw hr hlk (Or.inl rfl) hf dX3_isBlank_29
  replace hf := h_pos hc4 hf
  refine lv_iconst (v := 1) hx hb dX3_isBlank_24 (by decide) ?_
  refine lv_goto hx hb dX3_isBlank_25 (tgt := 29) rfl ?_
  exact r_zret cx hw hr hlk (Or.inr rfl) hf dX3_isBlank_29
theorem dX3_nextByte_0 : decode cX3_nextByte 0 = .ok (.iload_n 2, 1) := by decide +kernel
theorem dX3_nextByte_1 : decode cX3_nextByte 1 = .ok (.istore_n 3, 1) := by decide +kernel
theorem dX3_nextByte_2 : decode cX3_nextByte 2 = .ok (.iload_n 3, 1) := by decide +kernel
theorem dX3_nextByte_3 : decode cX3_nextByte 3 = .ok (.iload_n 1, 1) := by decide +kernel
theorem dX3_nextByte_4 : decode cX3_nextByte 4 = .ok (.if_icmp .ge 22, 3) := by decide +kernel
theorem dX3_nextByte_7 : decode cX3_nextByte 7 = .ok (.aload_n 0, 1) := by decide +kernel
theorem dX3_nextByte_8 : decode cX3_nextByte 8 = .ok (.iload_n 3, 1) := by decide +kernel
theorem dX3_nextByte_9 : decode cX3_nextByte 9 = .ok (.invokestatic 109, 3) := by decide +kernel
theorem dX3_nextByte_12 : decode cX3_nextByte 12 = .ok (.invokestatic 113, 3) := by decide +kernel
theorem dX3_nextByte_15 : decode cX3_nextByte 15 = .ok (.ifCond .ne 5, 3) := by decide +kernel
theorem dX3_nextByte_18 : decode cX3_nextByte 18 = .ok (.iload_n 3, 1) := by decide +kernel
theorem dX3_nextByte_19 : decode cX3_nextByte 19 = .ok (.ireturn, 1) := by decide +kernel
theorem dX3_nextByte_20 : decode cX3_nextByte 20 = .ok (.iinc 3 1, 3) := by decide +kernel
theorem dX3_nextByte_23 : decode cX3_nextByte 23 = .ok (.goto (-21), 3) := by decide +kernel
theorem dX3_nextByte_26 : decode cX3_nextByte 26 = .ok (.iload_n 1, 1) := by decide +kernel
theorem dX3_nextByte_27 : decode cX3_nextByte 27 = .ok (.ireturn, 1) := by decide +kernel
abbrev rm_X3_nextByte : Room := { frames := 1, cells := 0, slots := 0, locals := 21 }
def f_X3_nextByte_L2 (k0 : Nat) (S : St) (x1 : Int32) (z2 : Int32) : Option ((Int32) ⊕ (Int32)) :=
  if x1 ≤ z2 then (some (.inr x1)) else ((f_X5_at k0 S z2).bind (fun (q2 : Int32) => (f_X3_isBlank   q2).bind (fun (q3 : Int32) => if q3 = 0 then (some (.inr z2)) else (some (.inl (z2 + 1))))))
def f_X3_nextByte (k0 : Nat) (S : St) (x1 : Int32) (x2 : Int32) : Option (Int32) :=
  iter (f_X3_nextByte_L2 k0 S x1) FU x2
set_option maxRecDepth 100000 in
set_option maxHeartbeats 4000000 in
theorem k_X3_nextByte (l : Launch) (g : GG) (hg : gd wd_C g) (k0 : Nat) (hk0 : k0 ∈ gg_as g) (S : St) (x1 : Int32) (x2 : Int32) (q : Int32) (hf : f_X3_nextByte k0 S x1 x2 = some q) : Met l yX3_nextByte (Cond.code yX3_nextByte cX3_nextByte 4 (some .int) :: gw_tbl) rm_X3_nextByte (va_Pc [.ref (gg_a g k0), .int x1, .int x2] (wI wd_C g S)) (qc_i wd_C g S q) 0 0 (aw g) := by
  refine mt_start (own := RX3) hg (by decide) rfl (Nat.le_of_ble_eq_true rfl) (fun p e s m args below meth c ls H locs cx hw hr hlk hl => ?_)
  have hx := cx.1
  have hb := cx.2.1
  have hown := cx.2.2.2.1
  have hts := cx.2.2.2.2.1
  have hl : lv_has ls 4 [(0, .ref (gg_a g k0)), (1, .int x1), (2, .int x2)] := hl
  replace hf := h_top hf
  unfold f_X3_nextByte at hf
  refine lv_iload_n hx hb dX3_nextByte_0 rfl (lv_at hl 2 rfl) ?_
  refine lv_istore_n hx hb dX3_nextByte_1 rfl hl (by decide) (lv' := [(3, .int x2), (0, .ref (gg_a g k0)), (1, .int x1), (2, .int x2)]) rfl (fun ls hl => ?_)
  have L2 : ∀ (x1 : Int32) (aft2 : Int32 → Option (Int32)), (∀ v : Int32, aft2 v = some q → (some v : Option (Int32)).bind some = some q) → ∀ (n2 : Nat) (ls : Array Slot) (H : Heap) (locs : List Loc) (z2 : Int32), lv_has ls 4 [(0, .ref (gg_a g k0)), (1, .int x1), (3, .int z2)] → HH wd_C g s S H locs → (iter (f_X3_nextByte_L2 k0 S x1) n2 z2).bind aft2 = some q → W p l e rm_X3_nextByte s m args below meth c H locs 0 0 (MQ below (qc_i wd_C g S q) args s 0 0 (aw g)) (F0 m 2 ls []) := by
    intro x1 aft2 hR2 n2
    induction n2 with
    | zero => intro ls H locs z2 hl hw hf; exact h_iter0 hf
    | succ n2 ih2 =>
      intro ls H locs z2 hl hw hf
      replace hf := h_iter hf
      unfold f_X3_nextByte_L2 at hf
      refine lv_iload_n hx hb dX3_nextByte_2 rfl (lv_at hl 2 rfl) ?_
      refine lv_iload_n hx hb dX3_nextByte_3 rfl (lv_at hl 1 rfl) ?_
      refine lv_icmp_ge hx hb dX3_nextByte_4 (tgt := 26) rfl (fun hc1 => ?_) (fun hc1 => ?_)
      · replace hf := h_pos hc1 hf
        refine lv_iload_n hx hb dX3_nextByte_26 rfl (lv_at hl 1 rfl) ?_
        replace hf := hR2 x1 hf
        exact r_iret cx hw hr hlk hf dX3_nextByte_27
      replace hf := h_neg hc1 hf
      refine lv_aload_n hx hb dX3_nextByte_7 rfl (lv_at hl 0 rfl) ?_
      refine lv_iload_n hx hb dX3_nextByte_8 rfl (lv_at hl 2 rfl) ?_
      refine r_SN_i (As := [.ref (gg_a g k0), .int z2]) (rest := []) cx hw hf (nw_at cx) lk_X3_109 (fun q2 hq => k_X5_at l g hg k0 hk0 S z2 q2 hq) ⟨⟨rfl, rfl⟩, Nat.le_of_ble_eq_true rfl, Nat.le_of_ble_eq_true rfl⟩ rfl hl.1 rfl (Nat.le_of_ble_eq_true rfl) dX3_nextByte_9 ⟨Nat.zero_le _, Nat.zero_le _⟩ (fun q2 H locs hw hf => ?_)
      refine r_S_i (As := [.int q2]) (rest := []) cx hw hf lk_X3_113 (fun q3 hq => k_X3_isBlank l g hg   S q2 q3 hq) ⟨⟨rfl, rfl⟩, Nat.le_of_ble_eq_true rfl, Nat.le_of_ble_eq_true rfl⟩ rfl hl.1 rfl (Nat.le_of_ble_eq_true rfl) dX3_nextByte_12 ⟨Nat.zero_le _, Nat.zero_le _⟩ (fun q3 H locs hw hf => ?_)
      refine lv_if_ne hx hb dX3_nextByte_15 (tgt := 20) rfl (fun hc4 => ?_) (fun hc4 => ?_)
      · replace hf := h_neg hc4 hf
        refine lv_iinc hx hb dX3_nextByte_20 hl (k := 2) rfl (congrArg (HAdd.hAdd _) (show Int32.ofInt (1) = 1 by decide)) (by decide) (lv' := [(3, .int (z2 + 1)), (0, .ref (gg_a g k0)), (1, .int x1)]) rfl (fun ls hl => ?_)
        refine lv_goto hx hb dX3_nextByte_23 (tgt := 2) rfl ?_
        exact ih2 _ _ _ (z2 + 1) (lv_sub hl [1, 2, 0] rfl) hw hf
      replace hf := h_pos hc4 hf
      refine lv_iload_n hx hb dX3_nextByte_18 rfl (lv_at hl 2 rfl) ?_
      replace hf := hR2 z2 hf
      exact r_iret cx hw hr hlk hf dX3_nextByte_19
  exact L2 x1 some (fun v h => h) FU _ _ _ x2 (lv_sub hl [1, 2, 0] rfl) hw hf
theorem dX3_isLetter_0 : decode cX3_isLetter 0 = .ok (.iload_n 0, 1) := by decide +kernel
theorem dX3_isLetter_1 : decode cX3_isLetter 1 = .ok (.bipush 97, 2) := by decide +kernel
theorem dX3_isLetter_3 : decode cX3_isLetter 3 = .ok (.if_icmp .lt 13, 3) := by decide +kernel
theorem dX3_isLetter_6 : decode cX3_isLetter 6 = .ok (.iload_n 0, 1) := by decide +kernel
theorem dX3_isLetter_7 : decode cX3_isLetter 7 = .ok (.bipush 122, 2) := by decide +kernel
theorem dX3_isLetter_9 : decode cX3_isLetter 9 = .ok (.if_icmp .gt 7, 3) := by decide +kernel
theorem dX3_isLetter_12 : decode cX3_isLetter 12 = .ok (.iconst 1, 1) := by decide +kernel
theorem dX3_isLetter_13 : decode cX3_isLetter 13 = .ok (.goto 4, 3) := by decide +kernel
theorem dX3_isLetter_16 : decode cX3_isLetter 16 = .ok (.iconst 0, 1) := by decide +kernel
theorem dX3_isLetter_17 : decode cX3_isLetter 17 = .ok (.ireturn, 1) := by decide +kernel
abbrev rm_X3_isLetter : Room := { frames := 0, cells := 0, slots := 0, locals := 0 }
def f_X3_isLetter (x0 : Int32) : Option (Int32) :=
  if x0 < (97 : Int32) then (some (0 : Int32)) else (if (122 : Int32) < x0 then (some (0 : Int32)) else (some (1 : Int32)))
set_option maxRecDepth 100000 in
set_option maxHeartbeats 4000000 in
theorem k_X3_isLetter (l : Launch) (g : GG) (hg : gd wd_C g)  (S : St) (x0 : Int32) (q : Int32) (hf : f_X3_isLetter   x0 = some q) : Met l yX3_isLetter (Cond.code yX3_isLetter cX3_isLetter 1 (some .boolean) :: gw_tbl) rm_X3_isLetter (va_Pc [.int x0] (wI wd_C g S)) (qc_i wd_C g S q) 0 0 (aw g) := by
  refine mt_start (own := RX3) hg (by decide) rfl (Nat.le_of_ble_eq_true rfl) (fun p e s m args below meth c ls H locs cx hw hr hlk hl => ?_)
  have hx := cx.1
  have hb := cx.2.1
  have hown := cx.2.2.2.1
  have hts := cx.2.2.2.2.1
  have hl : lv_has ls 1 [(0, .int x0)] := hl
  replace hf := h_top hf
  unfold f_X3_isLetter at hf
  refine lv_iload_n hx hb dX3_isLetter_0 rfl (lv_at hl 0 rfl) ?_
  refine lv_bipush (v := 97) hx hb dX3_isLetter_1 (by decide) ?_
  refine lv_icmp_lt hx hb dX3_isLetter_3 (tgt := 16) rfl (fun hc1 => ?_) (fun hc1 => ?_)
  · replace hf := h_pos hc1 hf
    refine lv_iconst (v := 0) hx hb dX3_isLetter_16 (by decide) ?_
    exact r_zret cx hw hr hlk (Or.inl rfl) hf dX3_isLetter_17
  replace hf := h_neg hc1 hf
  refine lv_iload_n hx hb dX3_isLetter_6 rfl (lv_at hl 0 rfl) ?_
  refine lv_bipush (v := 122) hx hb dX3_isLetter_7 (by decide) ?_
  refine lv_icmp_gt hx hb dX3_isLetter_9 (tgt := 16) rfl (fun hc2 => ?_) (fun hc2 => ?_)
  · replace hf := h_pos hc2 hf
    refine lv_iconst (v := 0) hx hb dX3_isLetter_16 (by decide) ?_
    exact r_zret cx hw hr hlk (Or.inl rfl) hf dX3_isLetter_17
  replace hf := h_neg hc2 hf
  refine lv_iconst (v := 1) hx hb dX3_isLetter_12 (by decide) ?_
  refine lv_goto hx hb dX3_isLetter_13 (tgt := 17) rfl ?_
  exact r_zret cx hw hr hlk (Or.inr rfl) hf dX3_isLetter_17
theorem dX3_isDigit_0 : decode cX3_isDigit 0 = .ok (.iload_n 0, 1) := by decide +kernel
theorem dX3_isDigit_1 : decode cX3_isDigit 1 = .ok (.bipush 48, 2) := by decide +kernel
theorem dX3_isDigit_3 : decode cX3_isDigit 3 = .ok (.if_icmp .lt 13, 3) := by decide +kernel
theorem dX3_isDigit_6 : decode cX3_isDigit 6 = .ok (.iload_n 0, 1) := by decide +kernel
theorem dX3_isDigit_7 : decode cX3_isDigit 7 = .ok (.bipush 57, 2) := by decide +kernel
theorem dX3_isDigit_9 : decode cX3_isDigit 9 = .ok (.if_icmp .gt 7, 3) := by decide +kernel
theorem dX3_isDigit_12 : decode cX3_isDigit 12 = .ok (.iconst 1, 1) := by decide +kernel
theorem dX3_isDigit_13 : decode cX3_isDigit 13 = .ok (.goto 4, 3) := by decide +kernel
theorem dX3_isDigit_16 : decode cX3_isDigit 16 = .ok (.iconst 0, 1) := by decide +kernel
theorem dX3_isDigit_17 : decode cX3_isDigit 17 = .ok (.ireturn, 1) := by decide +kernel
abbrev rm_X3_isDigit : Room := { frames := 0, cells := 0, slots := 0, locals := 0 }
def f_X3_isDigit (x0 : Int32) : Option (Int32) :=
  if x0 < (48 : Int32) then (some (0 : Int32)) else (if (57 : Int32) < x0 then (some (0 : Int32)) else (some (1 : Int32)))
set_option maxRecDepth 100000 in
set_option maxHeartbeats 4000000 in
theorem k_X3_isDigit (l : Launch) (g : GG) (hg : gd wd_C g)  (S : St) (x0 : Int32) (q : Int32) (hf : f_X3_isDigit   x0 = some q) : Met l yX3_isDigit (Cond.code yX3_isDigit cX3_isDigit 1 (some .boolean) :: gw_tbl) rm_X3_isDigit (va_Pc [.int x0] (wI wd_C g S)) (qc_i wd_C g S q) 0 0 (aw g) := by
  refine mt_start (own := RX3) hg (by decide) rfl (Nat.le_of_ble_eq_true rfl) (fun p e s m args below meth c ls H locs cx hw hr hlk hl => ?_)
  have hx := cx.1
  have hb := cx.2.1
  have hown := cx.2.2.2.1
  have hts := cx.2.2.2.2.1
  have hl : lv_has ls 1 [(0, .int x0)] := hl
  replace hf := h_top hf
  unfold f_X3_isDigit at hf
  refine lv_iload_n hx hb dX3_isDigit_0 rfl (lv_at hl 0 rfl) ?_
  refine lv_bipush (v := 48) hx hb dX3_isDigit_1 (by decide) ?_
  refine lv_icmp_lt hx hb dX3_isDigit_3 (tgt := 16) rfl (fun hc1 => ?_) (fun hc1 => ?_)
  · replace hf := h_pos hc1 hf
    refine lv_iconst (v := 0) hx hb dX3_isDigit_16 (by decide) ?_
    exact r_zret cx hw hr hlk (Or.inl rfl) hf dX3_isDigit_17
  replace hf := h_neg hc1 hf
  refine lv_iload_n hx hb dX3_isDigit_6 rfl (lv_at hl 0 rfl) ?_
  refine lv_bipush (v := 57) hx hb dX3_isDigit_7 (by decide) ?_
  refine lv_icmp_gt hx hb dX3_isDigit_9 (tgt := 16) rfl (fun hc2 => ?_) (fun hc2 => ?_)
  · replace hf := h_pos hc2 hf
    refine lv_iconst (v := 0) hx hb dX3_isDigit_16 (by decide) ?_
    exact r_zret cx hw hr hlk (Or.inl rfl) hf dX3_isDigit_17
  replace hf := h_neg hc2 hf
  refine lv_iconst (v := 1) hx hb dX3_isDigit_12 (by decide) ?_
  refine lv_goto hx hb dX3_isDigit_13 (tgt := 17) rfl ?_
  exact r_zret cx hw hr hlk (Or.inr rfl) hf dX3_isDigit_17
theorem dX3_tokenEnd_0 : decode cX3_tokenEnd 0 = .ok (.aload_n 0, 1) := by decide +kernel
theorem dX3_tokenEnd_1 : decode cX3_tokenEnd 1 = .ok (.iload_n 2, 1) := by decide +kernel
theorem dX3_tokenEnd_2 : decode cX3_tokenEnd 2 = .ok (.invokestatic 109, 3) := by decide +kernel
theorem dX3_tokenEnd_5 : decode cX3_tokenEnd 5 = .ok (.invokestatic 116, 3) := by decide +kernel
theorem dX3_tokenEnd_8 : decode cX3_tokenEnd 8 = .ok (.istore_n 3, 1) := by decide +kernel
theorem dX3_tokenEnd_9 : decode cX3_tokenEnd 9 = .ok (.aload_n 0, 1) := by decide +kernel
theorem dX3_tokenEnd_10 : decode cX3_tokenEnd 10 = .ok (.iload_n 2, 1) := by decide +kernel
theorem dX3_tokenEnd_11 : decode cX3_tokenEnd 11 = .ok (.invokestatic 109, 3) := by decide +kernel
theorem dX3_tokenEnd_14 : decode cX3_tokenEnd 14 = .ok (.invokestatic 119, 3) := by decide +kernel
theorem dX3_tokenEnd_17 : decode cX3_tokenEnd 17 = .ok (.istore 4, 2) := by decide +kernel
theorem dX3_tokenEnd_19 : decode cX3_tokenEnd 19 = .ok (.iload_n 2, 1) := by decide +kernel
theorem dX3_tokenEnd_20 : decode cX3_tokenEnd 20 = .ok (.iconst 1, 1) := by decide +kernel
theorem dX3_tokenEnd_21 : decode cX3_tokenEnd 21 = .ok (.iadd, 1) := by decide +kernel
theorem dX3_tokenEnd_22 : decode cX3_tokenEnd 22 = .ok (.istore 5, 2) := by decide +kernel
theorem dX3_tokenEnd_24 : decode cX3_tokenEnd 24 = .ok (.iload 5, 2) := by decide +kernel
theorem dX3_tokenEnd_26 : decode cX3_tokenEnd 26 = .ok (.iload_n 1, 1) := by decide +kernel
theorem dX3_tokenEnd_27 : decode cX3_tokenEnd 27 = .ok (.if_icmp .ge 45, 3) := by decide +kernel
theorem dX3_tokenEnd_30 : decode cX3_tokenEnd 30 = .ok (.aload_n 0, 1) := by decide +kernel
theorem dX3_tokenEnd_31 : decode cX3_tokenEnd 31 = .ok (.iload 5, 2) := by decide +kernel
theorem dX3_tokenEnd_33 : decode cX3_tokenEnd 33 = .ok (.invokestatic 109, 3) := by decide +kernel
theorem dX3_tokenEnd_36 : decode cX3_tokenEnd 36 = .ok (.istore 6, 2) := by decide +kernel
theorem dX3_tokenEnd_38 : decode cX3_tokenEnd 38 = .ok (.iload_n 3, 1) := by decide +kernel
theorem dX3_tokenEnd_39 : decode cX3_tokenEnd 39 = .ok (.ifCond .eq 11, 3) := by decide +kernel
theorem dX3_tokenEnd_42 : decode cX3_tokenEnd 42 = .ok (.iload 6, 2) := by decide +kernel
theorem dX3_tokenEnd_44 : decode cX3_tokenEnd 44 = .ok (.invokestatic 116, 3) := by decide +kernel
theorem dX3_tokenEnd_47 : decode cX3_tokenEnd 47 = .ok (.ifCond .ne 19, 3) := by decide +kernel
theorem dX3_tokenEnd_50 : decode cX3_tokenEnd 50 = .ok (.iload 4, 2) := by decide +kernel
theorem dX3_tokenEnd_52 : decode cX3_tokenEnd 52 = .ok (.ifCond .eq 11, 3) := by decide +kernel
theorem dX3_tokenEnd_55 : decode cX3_tokenEnd 55 = .ok (.iload 6, 2) := by decide +kernel
theorem dX3_tokenEnd_57 : decode cX3_tokenEnd 57 = .ok (.invokestatic 119, 3) := by decide +kernel
theorem dX3_tokenEnd_60 : decode cX3_tokenEnd 60 = .ok (.ifCond .ne 6, 3) := by decide +kernel
theorem dX3_tokenEnd_63 : decode cX3_tokenEnd 63 = .ok (.iload 5, 2) := by decide +kernel
theorem dX3_tokenEnd_65 : decode cX3_tokenEnd 65 = .ok (.ireturn, 1) := by decide +kernel
theorem dX3_tokenEnd_66 : decode cX3_tokenEnd 66 = .ok (.iinc 5 1, 3) := by decide +kernel
theorem dX3_tokenEnd_69 : decode cX3_tokenEnd 69 = .ok (.goto (-45), 3) := by decide +kernel
theorem dX3_tokenEnd_72 : decode cX3_tokenEnd 72 = .ok (.iload_n 1, 1) := by decide +kernel
theorem dX3_tokenEnd_73 : decode cX3_tokenEnd 73 = .ok (.ireturn, 1) := by decide +kernel
abbrev rm_X3_tokenEnd : Room := { frames := 1, cells := 0, slots := 0, locals := 21 }
def f_X3_tokenEnd_J50 (k0 : Nat) (S : St) (x1 : Int32) (x3 : Int32) (x4 : Int32) (x5 : Int32) (x6 : Int32) : Option ((Int32) ⊕ (Int32)) :=
  if x4 = 0 then (some (.inr x5)) else ((f_X3_isDigit   x6).bind (fun (q9 : Int32) => if q9 = 0 then (some (.inr x5)) else (some (.inl (x5 + 1)))))
def f_X3_tokenEnd_L24 (k0 : Nat) (S : St) (x1 : Int32) (x3 : Int32) (x4 : Int32) (z24 : Int32) : Option ((Int32) ⊕ (Int32)) :=
  if x1 ≤ z24 then (some (.inr x1)) else ((f_X5_at k0 S z24).bind (fun (q6 : Int32) => if x3 = 0 then (f_X3_tokenEnd_J50 k0 S x1 x3 x4 z24 q6) else ((f_X3_isLetter   q6).bind (fun (q11 : Int32) => if q11 = 0 then (f_X3_tokenEnd_J50 k0 S x1 x3 x4 z24 q6) else (some (.inl (z24 + 1)))))))
def f_X3_tokenEnd (k0 : Nat) (S : St) (x1 : Int32) (x2 : Int32) : Option (Int32) :=
  (f_X5_at k0 S x2).bind (fun (q1 : Int32) => (f_X3_isLetter   q1).bind (fun (q2 : Int32) => (f_X5_at k0 S x2).bind (fun (q3 : Int32) => (f_X3_isDigit   q3).bind (fun (q4 : Int32) => iter (f_X3_tokenEnd_L24 k0 S x1 q2 q4) FU (x2 + (1 : Int32))))))
set_option maxRecDepth 100000 in
set_option maxHeartbeats 4000000 in
theorem k_X3_tokenEnd (l : Launch) (g : GG) (hg : gd wd_C g) (k0 : Nat) (hk0 : k0 ∈ gg_as g) (S : St) (x1 : Int32) (x2 : Int32) (q : Int32) (hf : f_X3_tokenEnd k0 S x1 x2 = some q) : Met l yX3_tokenEnd (Cond.code yX3_tokenEnd cX3_tokenEnd 7 (some .int) :: gw_tbl) rm_X3_tokenEnd (va_Pc [.ref (gg_a g k0), .int x1, .int x2] (wI wd_C g S)) (qc_i wd_C g S q) 0 0 (aw g) := by
  refine mt_start (own := RX3) hg (by decide) rfl (Nat.le_of_ble_eq_true rfl) (fun p e s m args below meth c ls H locs cx hw hr hlk hl => ?_)
  have hx := cx.1
  have hb := cx.2.1
  have hown := cx.2.2.2.1
  have hts := cx.2.2.2.2.1
  have hl : lv_has ls 7 [(0, .ref (gg_a g k0)), (1, .int x1), (2, .int x2)] := hl
  replace hf := h_top hf
  unfold f_X3_tokenEnd at hf
  refine lv_aload_n hx hb dX3_tokenEnd_0 rfl (lv_at hl 0 rfl) ?_
  refine lv_iload_n hx hb dX3_tokenEnd_1 rfl (lv_at hl 2 rfl) ?_
  refine r_SN_i (As := [.ref (gg_a g k0), .int x2]) (rest := []) cx hw hf (nw_at cx) lk_X3_109 (fun q1 hq => k_X5_at l g hg k0 hk0 S x2 q1 hq) ⟨⟨rfl, rfl⟩, Nat.le_of_ble_eq_true rfl, Nat.le_of_ble_eq_true rfl⟩ rfl hl.1 rfl (Nat.le_of_ble_eq_true rfl) dX3_tokenEnd_2 ⟨Nat.zero_le _, Nat.zero_le _⟩ (fun q1 H locs hw hf => ?_)
  refine r_S_i (As := [.int q1]) (rest := []) cx hw hf lk_X3_116 (fun q2 hq => k_X3_isLetter l g hg   S q1 q2 hq) ⟨⟨rfl, rfl⟩, Nat.le_of_ble_eq_true rfl, Nat.le_of_ble_eq_true rfl⟩ rfl hl.1 rfl (Nat.le_of_ble_eq_true rfl) dX3_tokenEnd_5 ⟨Nat.zero_le _, Nat.zero_le _⟩ (fun q2 H locs hw hf => ?_)
  refine lv_istore_n hx hb dX3_tokenEnd_8 rfl hl (by decide) (lv' := [(3, .int q2), (0, .ref (gg_a g k0)), (1, .int x1), (2, .int x2)]) rfl (fun ls hl => ?_)
  refine lv_aload_n hx hb dX3_tokenEnd_9 rfl (lv_at hl 1 rfl) ?_
  refine lv_iload_n hx hb dX3_tokenEnd_10 rfl (lv_at hl 3 rfl) ?_
  refine r_SN_i (As := [.ref (gg_a g k0), .int x2]) (rest := []) cx hw hf (nw_at cx) lk_X3_109 (fun q3 hq => k_X5_at l g hg k0 hk0 S x2 q3 hq) ⟨⟨rfl, rfl⟩, Nat.le_of_ble_eq_true rfl, Nat.le_of_ble_eq_true rfl⟩ rfl hl.1 rfl (Nat.le_of_ble_eq_true rfl) dX3_tokenEnd_11 ⟨Nat.zero_le _, Nat.zero_le _⟩ (fun q3 H locs hw hf => ?_)
  refine r_S_i (As := [.int q3]) (rest := []) cx hw hf lk_X3_119 (fun q4 hq => k_X3_isDigit l g hg   S q3 q4 hq) ⟨⟨rfl, rfl⟩, Nat.le_of_ble_eq_true rfl, Nat.le_of_ble_eq_true rfl⟩ rfl hl.1 rfl (Nat.le_of_ble_eq_true rfl) dX3_tokenEnd_14 ⟨Nat.zero_le _, Nat.zero_le _⟩ (fun q4 H locs hw hf => ?_)
  refine lv_istore hx hb dX3_tokenEnd_17 hl (by decide) (lv' := [(4, .int q4), (3, .int q2), (0, .ref (gg_a g k0)), (1, .int x1), (2, .int x2)]) rfl (fun ls hl => ?_)
  refine lv_iload_n hx hb dX3_tokenEnd_19 rfl (lv_at hl 4 rfl) ?_
  refine lv_iconst (v := 1) hx hb dX3_tokenEnd_20 (by decide) ?_
  refine lv_iadd hx hb dX3_tokenEnd_21 ?_
  refine lv_istore hx hb dX3_tokenEnd_22 hl (by decide) (lv' := [(5, .int (x2 + (1 : Int32))), (4, .int q4), (3, .int q2), (0, .ref (gg_a g k0)), (1, .int x1), (2, .int x2)]) rfl (fun ls hl => ?_)
  have L24 : ∀ (x1 : Int32) (x3 : Int32) (x4 : Int32) (aft24 : Int32 → Option (Int32)), (∀ v : Int32, aft24 v = some q → (some v : Option (Int32)).bind some = some q) → ∀ (n24 : Nat) (ls : Array Slot) (H : Heap) (locs : List Loc) (z24 : Int32), lv_has ls 7 [(0, .ref (gg_a g k0)), (1, .int x1), (3, .int x3), (4, .int x4), (5, .int z24)] → HH wd_C g s S H locs → (iter (f_X3_tokenEnd_L24 k0 S x1 x3 x4) n24 z24).bind aft24 = some q → W p l e rm_X3_tokenEnd s m args below meth c H locs 0 0 (MQ below (qc_i wd_C g S q) args s 0 0 (aw g)) (F0 m 24 ls []) := by
    intro x1 x3 x4 aft24 hR24 n24
    induction n24 with
    | zero => intro ls H locs z24 hl hw hf; exact h_iter0 hf
    | succ n24 ih24 =>
      intro ls H locs z24 hl hw hf
      replace hf := h_iter hf
      unfold f_X3_tokenEnd_L24 at hf
      have J50 : ∀ (ls : Array Slot) (H : Heap) (locs : List Loc) (x5 : Int32) (x6 : Int32), lv_has ls 7 [(0, .ref (gg_a g k0)), (1, .int x1), (3, .int x3), (4, .int x4), (5, .int x5), (6, .int x6)] → HH wd_C g s S H locs → (f_X3_tokenEnd_J50 k0 S x1 x3 x4 x5 x6).bind (it_K (f_X3_tokenEnd_L24 k0 S x1 x3 x4) n24 aft24) = some q → W p l e rm_X3_tokenEnd s m args below meth c H locs 0 0 (MQ below (qc_i wd_C g S q) args s 0 0 (aw g)) (F0 m 50 ls []) := by
        intro ls H locs x5 x6 hl hw hf
        unfold f_X3_tokenEnd_J50 at hf
        refine lv_iload hx hb dX3_tokenEnd_50 (lv_at hl 3 rfl) ?_
        refine lv_if_eq hx hb dX3_tokenEnd_52 (tgt := 63) rfl (fun hc8 => ?_) (fun hc8 => ?_)
        · replace hf := h_pos hc8 hf
          refine lv_iload hx hb dX3_tokenEnd_63 (lv_at hl 4 rfl) ?_
          replace hf := hR24 x5 hf
          exact r_iret cx hw hr hlk hf dX3_tokenEnd_65
        replace hf := h_neg hc8 hf
        refine lv_iload hx hb dX3_tokenEnd_55 (lv_at hl 5 rfl) ?_
        refine r_S_i (As := [.int x6]) (rest := []) cx hw hf lk_X3_119 (fun q9 hq => k_X3_isDigit l g hg   S x6 q9 hq) ⟨⟨rfl, rfl⟩, Nat.le_of_ble_eq_true rfl, Nat.le_of_ble_eq_true rfl⟩ rfl hl.1 rfl (Nat.le_of_ble_eq_true rfl) dX3_tokenEnd_57 ⟨Nat.zero_le _, Nat.zero_le _⟩ (fun q9 H locs hw hf => ?_)
        refine lv_if_ne hx hb dX3_tokenEnd_60 (tgt := 66) rfl (fun hc10 => ?_) (fun hc10 => ?_)
        · replace hf := h_neg hc10 hf
          refine lv_iinc hx hb dX3_tokenEnd_66 hl (k := 4) rfl (congrArg (HAdd.hAdd _) (show Int32.ofInt (1) = 1 by decide)) (by decide) (lv' := [(5, .int (x5 + 1)), (0, .ref (gg_a g k0)), (1, .int x1), (3, .int x3), (4, .int x4), (6, .int x6)]) rfl (fun ls hl => ?_)
          refine lv_goto hx hb dX3_tokenEnd_69 (tgt := 24) rfl ?_
          exact ih24 _ _ _ (x5 + 1) (lv_sub hl [1, 2, 3, 4, 0] rfl) hw hf
        replace hf := h_pos hc10 hf
        refine lv_iload hx hb dX3_tokenEnd_63 (lv_at hl 4 rfl) ?_
        replace hf := hR24 x5 hf
        exact r_iret cx hw hr hlk hf dX3_tokenEnd_65
      refine lv_iload hx hb dX3_tokenEnd_24 (lv_at hl 4 rfl) ?_
      refine lv_iload_n hx hb dX3_tokenEnd_26 rfl (lv_at hl 1 rfl) ?_
      refine lv_icmp_ge hx hb dX3_tokenEnd_27 (tgt := 72) rfl (fun hc5 => ?_) (fun hc5 => ?_)
      · replace hf := h_pos hc5 hf
        refine lv_iload_n hx hb dX3_tokenEnd_72 rfl (lv_at hl 1 rfl) ?_
        replace hf := hR24 x1 hf
        exact r_iret cx hw hr hlk hf dX3_tokenEnd_73
      replace hf := h_neg hc5 hf
      refine lv_aload_n hx hb dX3_tokenEnd_30 rfl (lv_at hl 0 rfl) ?_
      refine lv_iload hx hb dX3_tokenEnd_31 (lv_at hl 4 rfl) ?_
      refine r_SN_i (As := [.ref (gg_a g k0), .int z24]) (rest := []) cx hw hf (nw_at cx) lk_X3_109 (fun q6 hq => k_X5_at l g hg k0 hk0 S z24 q6 hq) ⟨⟨rfl, rfl⟩, Nat.le_of_ble_eq_true rfl, Nat.le_of_ble_eq_true rfl⟩ rfl hl.1 rfl (Nat.le_of_ble_eq_true rfl) dX3_tokenEnd_33 ⟨Nat.zero_le _, Nat.zero_le _⟩ (fun q6 H locs hw hf => ?_)
      refine lv_istore hx hb dX3_tokenEnd_36 hl (by decide) (lv' := [(6, .int q6), (0, .ref (gg_a g k0)), (1, .int x1), (3, .int x3), (4, .int x4), (5, .int z24)]) rfl (fun ls hl => ?_)
      refine lv_iload_n hx hb dX3_tokenEnd_38 rfl (lv_at hl 3 rfl) ?_
      refine lv_if_eq hx hb dX3_tokenEnd_39 (tgt := 50) rfl (fun hc7 => ?_) (fun hc7 => ?_)
      · replace hf := h_pos hc7 hf
        exact J50 _ _ _ z24 q6 (lv_sub hl [1, 2, 3, 4, 5, 0] rfl) hw hf
      replace hf := h_neg hc7 hf
      refine lv_iload hx hb dX3_tokenEnd_42 (lv_at hl 0 rfl) ?_
      refine r_S_i (As := [.int q6]) (rest := []) cx hw hf lk_X3_116 (fun q11 hq => k_X3_isLetter l g hg   S q6 q11 hq) ⟨⟨rfl, rfl⟩, Nat.le_of_ble_eq_true rfl, Nat.le_of_ble_eq_true rfl⟩ rfl hl.1 rfl (Nat.le_of_ble_eq_true rfl) dX3_tokenEnd_44 ⟨Nat.zero_le _, Nat.zero_le _⟩ (fun q11 H locs hw hf => ?_)
      refine lv_if_ne hx hb dX3_tokenEnd_47 (tgt := 66) rfl (fun hc12 => ?_) (fun hc12 => ?_)
      · replace hf := h_neg hc12 hf
        refine lv_iinc hx hb dX3_tokenEnd_66 hl (k := 5) rfl (congrArg (HAdd.hAdd _) (show Int32.ofInt (1) = 1 by decide)) (by decide) (lv' := [(5, .int (z24 + 1)), (6, .int q6), (0, .ref (gg_a g k0)), (1, .int x1), (3, .int x3), (4, .int x4)]) rfl (fun ls hl => ?_)
        refine lv_goto hx hb dX3_tokenEnd_69 (tgt := 24) rfl ?_
        exact ih24 _ _ _ (z24 + 1) (lv_sub hl [2, 3, 4, 5, 0] rfl) hw hf
      replace hf := h_pos hc12 hf
      exact J50 _ _ _ z24 q6 (lv_sub hl [1, 2, 3, 4, 5, 0] rfl) hw hf
  exact L24 x1 q2 q4 some (fun v h => h) FU _ _ _ (x2 + (1 : Int32)) (lv_sub hl [3, 4, 2, 1, 0] rfl) hw hf
theorem dX3_kindOfName_0 : decode cX3_kindOfName 0 = .ok (.iload_n 2, 1) := by decide +kernel
theorem dX3_kindOfName_1 : decode cX3_kindOfName 1 = .ok (.istore 4, 2) := by decide +kernel
theorem dX3_kindOfName_3 : decode cX3_kindOfName 3 = .ok (.iload 4, 2) := by decide +kernel
theorem dX3_kindOfName_5 : decode cX3_kindOfName 5 = .ok (.iload_n 3, 1) := by decide +kernel
theorem dX3_kindOfName_6 : decode cX3_kindOfName 6 = .ok (.if_icmp .ge 26, 3) := by decide +kernel
theorem dX3_kindOfName_9 : decode cX3_kindOfName 9 = .ok (.aload_n 0, 1) := by decide +kernel
theorem dX3_kindOfName_10 : decode cX3_kindOfName 10 = .ok (.aload_n 0, 1) := by decide +kernel
theorem dX3_kindOfName_11 : decode cX3_kindOfName 11 = .ok (.getfield 105, 3) := by decide +kernel
theorem dX3_kindOfName_14 : decode cX3_kindOfName 14 = .ok (.aload_n 1, 1) := by decide +kernel
theorem dX3_kindOfName_15 : decode cX3_kindOfName 15 = .ok (.iload 4, 2) := by decide +kernel
theorem dX3_kindOfName_17 : decode cX3_kindOfName 17 = .ok (.invokestatic 109, 3) := by decide +kernel
theorem dX3_kindOfName_20 : decode cX3_kindOfName 20 = .ok (.invokestatic 61, 3) := by decide +kernel
theorem dX3_kindOfName_23 : decode cX3_kindOfName 23 = .ok (.putfield 105, 3) := by decide +kernel
theorem dX3_kindOfName_26 : decode cX3_kindOfName 26 = .ok (.iinc 4 1, 3) := by decide +kernel
theorem dX3_kindOfName_29 : decode cX3_kindOfName 29 = .ok (.goto (-26), 3) := by decide +kernel
theorem dX3_kindOfName_32 : decode cX3_kindOfName 32 = .ok (.iconst 0, 1) := by decide +kernel
theorem dX3_kindOfName_33 : decode cX3_kindOfName 33 = .ok (.istore 4, 2) := by decide +kernel
theorem dX3_kindOfName_35 : decode cX3_kindOfName 35 = .ok (.iload 4, 2) := by decide +kernel
theorem dX3_kindOfName_37 : decode cX3_kindOfName 37 = .ok (.bipush 17, 2) := by decide +kernel
theorem dX3_kindOfName_39 : decode cX3_kindOfName 39 = .ok (.if_icmp .ge 33, 3) := by decide +kernel
theorem dX3_kindOfName_42 : decode cX3_kindOfName 42 = .ok (.aload_n 0, 1) := by decide +kernel
theorem dX3_kindOfName_43 : decode cX3_kindOfName 43 = .ok (.getfield 11, 3) := by decide +kernel
theorem dX3_kindOfName_46 : decode cX3_kindOfName 46 = .ok (.iload 4, 2) := by decide +kernel
theorem dX3_kindOfName_48 : decode cX3_kindOfName 48 = .ok (.invokestatic 133, 3) := by decide +kernel
theorem dX3_kindOfName_51 : decode cX3_kindOfName 51 = .ok (.aload_n 0, 1) := by decide +kernel
theorem dX3_kindOfName_52 : decode cX3_kindOfName 52 = .ok (.getfield 105, 3) := by decide +kernel
theorem dX3_kindOfName_55 : decode cX3_kindOfName 55 = .ok (.lcmp, 1) := by decide +kernel
theorem dX3_kindOfName_56 : decode cX3_kindOfName 56 = .ok (.ifCond .ne 10, 3) := by decide +kernel
theorem dX3_kindOfName_59 : decode cX3_kindOfName 59 = .ok (.sipush 200, 3) := by decide +kernel
theorem dX3_kindOfName_62 : decode cX3_kindOfName 62 = .ok (.iload 4, 2) := by decide +kernel
theorem dX3_kindOfName_64 : decode cX3_kindOfName 64 = .ok (.iadd, 1) := by decide +kernel
theorem dX3_kindOfName_65 : decode cX3_kindOfName 65 = .ok (.ireturn, 1) := by decide +kernel
theorem dX3_kindOfName_66 : decode cX3_kindOfName 66 = .ok (.iinc 4 1, 3) := by decide +kernel
theorem dX3_kindOfName_69 : decode cX3_kindOfName 69 = .ok (.goto (-34), 3) := by decide +kernel
theorem dX3_kindOfName_72 : decode cX3_kindOfName 72 = .ok (.iconst 1, 1) := by decide +kernel
theorem dX3_kindOfName_73 : decode cX3_kindOfName 73 = .ok (.ireturn, 1) := by decide +kernel
abbrev rm_X3_kindOfName : Room := { frames := 1, cells := 0, slots := 0, locals := 22 }
def f_X3_kindOfName_L3 (k1 : Nat) (x3 : Int32) (z3 : Int32 × St) : Option ((Int32 × St) ⊕ (St)) :=
  if x3 ≤ z3.1 then (some (.inr z3.2)) else ((f_X5_at k1 z3.2 z3.1).bind (fun (q2 : Int32) => (f_X3_addLetter   (st_J z3.2 (ky 1 6)) q2).bind (fun (q3 : Int64) => lt_v (up_J z3.2 (ky 1 6) q3) (fun (S4 : St) => some (.inl ((z3.1 + 1), S4))))))
def f_X3_kindOfName_L35 (k1 : Nat) (S : St)  (z35 : Int32) : Option ((Int32) ⊕ (Int32 × St)) :=
  if (17 : Int32) ≤ z35 then (some (.inr ((1 : Int32), S))) else ((f_X5_longAt (ky 1 0) S z35).bind (fun (q7 : Int64) => if (lg_cmp q7 (st_J S (ky 1 6))) = 0 then (some (.inr (((200 : Int32) + z35), S))) else (some (.inl (z35 + 1)))))
def f_X3_kindOfName (k1 : Nat) (S : St) (x2 : Int32) (x3 : Int32) : Option (Int32 × St) :=
  (iter (f_X3_kindOfName_L3 k1  x3) FU (x2, S)).bind (fun (S5 : St) => iter (f_X3_kindOfName_L35 k1 S5 ) FU (0 : Int32))
set_option maxRecDepth 100000 in
set_option maxHeartbeats 4000000 in
theorem k_X3_kindOfName (l : Launch) (g : GG) (hg : gd wd_C g) (k1 : Nat) (h1 : hs wd_C g 1 3) (hk1 : k1 ∈ gg_as g) (S : St) (x2 : Int32) (x3 : Int32) (q : Int32 × St) (hf : f_X3_kindOfName k1 S x2 x3 = some q) : Met l yX3_kindOfName (Cond.code yX3_kindOfName cX3_kindOfName 5 (some .int) :: gw_tbl) rm_X3_kindOfName (va_Pc [.ref (gg_o g 1), .ref (gg_a g k1), .int x2, .int x3] (wI wd_C g S)) (qc_w wd_C g q) 0 0 (aw g) := by
  refine mt_start (own := RX3) hg (by decide) rfl (Nat.le_of_ble_eq_true rfl) (fun p e s m args below meth c ls H locs cx hw hr hlk hl => ?_)
  have hx := cx.1
  have hb := cx.2.1
  have hown := cx.2.2.2.1
  have hts := cx.2.2.2.2.1
  have hl : lv_has ls 5 [(0, .ref (gg_o g 1)), (1, .ref (gg_a g k1)), (2, .int x2), (3, .int x3)] := hl
  replace hf := h_top hf
  unfold f_X3_kindOfName at hf
  refine lv_iload_n hx hb dX3_kindOfName_0 rfl (lv_at hl 2 rfl) ?_
  refine lv_istore hx hb dX3_kindOfName_1 hl (by decide) (lv' := [(4, .int x2), (0, .ref (gg_o g 1)), (1, .ref (gg_a g k1)), (2, .int x2), (3, .int x3)]) rfl (fun ls hl => ?_)
  have L3 : ∀ (x3 : Int32) (aft3 : St → Option (Int32 × St)), (∀ (ls : Array Slot) (H : Heap) (locs : List Loc) (S1 : St), lv_has ls 5 [(0, .ref (gg_o g 1))] → HH wd_C g s S1 H locs → aft3 S1 = some q → W p l e rm_X3_kindOfName s m args below meth c H locs 0 0 (MQ below (qc_w wd_C g q) args s 0 0 (aw g)) (F0 m 32 ls [])) → ∀ (n3 : Nat) (ls : Array Slot) (H : Heap) (locs : List Loc) (z3 : Int32 × St), lv_has ls 5 [(0, .ref (gg_o g 1)), (1, .ref (gg_a g k1)), (3, .int x3), (4, .int z3.1)] → HH wd_C g s z3.2 H locs → (iter (f_X3_kindOfName_L3 k1  x3) n3 z3).bind aft3 = some q → W p l e rm_X3_kindOfName s m args below meth c H locs 0 0 (MQ below (qc_w wd_C g q) args s 0 0 (aw g)) (F0 m 3 ls []) := by
    intro x3 aft3 hX3 n3
    induction n3 with
    | zero => intro ls H locs z3 hl hw hf; exact h_iter0 hf
    | succ n3 ih3 =>
      intro ls H locs z3 hl hw hf
      replace hf := h_iter hf
      unfold f_X3_kindOfName_L3 at hf
      refine lv_iload hx hb dX3_kindOfName_3 (lv_at hl 3 rfl) ?_
      refine lv_iload_n hx hb dX3_kindOfName_5 rfl (lv_at hl 2 rfl) ?_
      refine lv_icmp_ge hx hb dX3_kindOfName_6 (tgt := 32) rfl (fun hc1 => ?_) (fun hc1 => ?_)
      · replace hf := h_pos hc1 hf
        exact hX3 _ _ _ z3.2 (lv_sub hl [0] rfl) hw hf
      replace hf := h_neg hc1 hf
      refine lv_aload_n hx hb dX3_kindOfName_9 rfl (lv_at hl 0 rfl) ?_
      refine lv_aload_n hx hb dX3_kindOfName_10 rfl (lv_at hl 0 rfl) ?_
      refine gf_X3_105 cx hw h1 dX3_kindOfName_11 ?_
      refine lv_aload_n hx hb dX3_kindOfName_14 rfl (lv_at hl 1 rfl) ?_
      refine lv_iload hx hb dX3_kindOfName_15 (lv_at hl 3 rfl) ?_
      refine r_SN_i (As := [.ref (gg_a g k1), .int z3.1]) (rest := [.long (st_J z3.2 (ky 1 6)), .ref (gg_o g 1)]) cx hw hf (nw_at cx) lk_X3_109 (fun q2 hq => k_X5_at l g hg k1 hk1 z3.2 z3.1 q2 hq) ⟨⟨rfl, rfl⟩, Nat.le_of_ble_eq_true rfl, Nat.le_of_ble_eq_true rfl⟩ rfl hl.1 rfl (Nat.le_of_ble_eq_true rfl) dX3_kindOfName_17 ⟨Nat.zero_le _, Nat.zero_le _⟩ (fun q2 H locs hw hf => ?_)
      refine r_S_l (As := [.long (st_J z3.2 (ky 1 6)), .int q2]) (rest := [.ref (gg_o g 1)]) cx hw hf lk_X3_61 (fun q3 hq => k_X3_addLetter l g hg   z3.2 (st_J z3.2 (ky 1 6)) q2 q3 hq) ⟨⟨rfl, rfl⟩, Nat.le_of_ble_eq_true rfl, Nat.le_of_ble_eq_true rfl⟩ rfl hl.1 rfl (Nat.le_of_ble_eq_true rfl) dX3_kindOfName_20 ⟨Nat.zero_le _, Nat.zero_le _⟩ (fun q3 H locs hw hf => ?_)
      refine pf_X3_105 cx hw h1 hf dX3_kindOfName_23 (fun S4 H locs hw hf => ?_)
      refine lv_iinc hx hb dX3_kindOfName_26 hl (k := 3) rfl (congrArg (HAdd.hAdd _) (show Int32.ofInt (1) = 1 by decide)) (by decide) (lv' := [(4, .int (z3.1 + 1)), (0, .ref (gg_o g 1)), (1, .ref (gg_a g k1)), (3, .int x3)]) rfl (fun ls hl => ?_)
      refine lv_goto hx hb dX3_kindOfName_29 (tgt := 3) rfl ?_
      exact ih3 _ _ _ ((z3.1 + 1), S4) (lv_sub hl [1, 2, 3, 0] rfl) hw hf
  refine L3 x3 _ (fun ls H locs S5 hl hw hf => ?_) FU _ _ _ (x2, S) (lv_sub hl [1, 2, 4, 0] rfl) hw (h_assoc hf)
  try dsimp only at hf
  refine lv_iconst (v := 0) hx hb dX3_kindOfName_32 (by decide) ?_
  refine lv_istore hx hb dX3_kindOfName_33 hl (by decide) (lv' := [(4, .int (0 : Int32)), (0, .ref (gg_o g 1))]) rfl (fun ls hl => ?_)
  have L35 : ∀ (S : St)  (aft35 : (Int32 × St) → Option (Int32 × St)), (∀ v : Int32 × St, aft35 v = some q → (some v : Option (Int32 × St)).bind some = some q) → ∀ (n35 : Nat) (ls : Array Slot) (H : Heap) (locs : List Loc) (z35 : Int32), lv_has ls 5 [(0, .ref (gg_o g 1)), (4, .int z35)] → HH wd_C g s S H locs → (iter (f_X3_kindOfName_L35 k1 S ) n35 z35).bind aft35 = some q → W p l e rm_X3_kindOfName s m args below meth c H locs 0 0 (MQ below (qc_w wd_C g q) args s 0 0 (aw g)) (F0 m 35 ls []) := by
    intro S aft35 hR35 n35
    induction n35 with
    | zero => intro ls H locs z35 hl hw hf; exact h_iter0 hf
    | succ n35 ih35 =>
      intro ls H locs z35 hl hw hf
      replace hf := h_iter hf
      unfold f_X3_kindOfName_L35 at hf
      refine lv_iload hx hb dX3_kindOfName_35 (lv_at hl 1 rfl) ?_
      refine lv_bipush (v := 17) hx hb dX3_kindOfName_37 (by decide) ?_
      refine lv_icmp_ge hx hb dX3_kindOfName_39 (tgt := 72) rfl (fun hc6 => ?_) (fun hc6 => ?_)
      · replace hf := h_pos hc6 hf
        refine lv_iconst (v := 1) hx hb dX3_kindOfName_72 (by decide) ?_
        replace hf := hR35 ((1 : Int32), S) hf
        exact r_iretw cx hw hr hlk hf dX3_kindOfName_73
      replace hf := h_neg hc6 hf
      refine lv_aload_n hx hb dX3_kindOfName_42 rfl (lv_at hl 0 rfl) ?_
      refine gf_X3_11 cx hw h1 dX3_kindOfName_43 ?_
      refine lv_iload hx hb dX3_kindOfName_46 (lv_at hl 1 rfl) ?_
      refine r_SN_l (As := [.ref (gg_l g (ky 1 0)), .int z35]) (rest := []) cx hw hf (nw_at cx) lk_X3_133 (fun q7 hq => k_X5_longAt l g hg (ky 1 0) (h1.2.2.2.1 0 rfl) S z35 q7 hq) ⟨⟨rfl, rfl⟩, Nat.le_of_ble_eq_true rfl, Nat.le_of_ble_eq_true rfl⟩ rfl hl.1 rfl (Nat.le_of_ble_eq_true rfl) dX3_kindOfName_48 ⟨Nat.zero_le _, Nat.zero_le _⟩ (fun q7 H locs hw hf => ?_)
      refine lv_aload_n hx hb dX3_kindOfName_51 rfl (lv_at hl 0 rfl) ?_
      refine gf_X3_105 cx hw h1 dX3_kindOfName_52 ?_
      refine W.lcmp hx hb dX3_kindOfName_55 ?_
      refine lv_if_ne hx hb dX3_kindOfName_56 (tgt := 66) rfl (fun hc8 => ?_) (fun hc8 => ?_)
      · replace hf := h_neg hc8 hf
        refine lv_iinc hx hb dX3_kindOfName_66 hl (k := 1) rfl (congrArg (HAdd.hAdd _) (show Int32.ofInt (1) = 1 by decide)) (by decide) (lv' := [(4, .int (z35 + 1)), (0, .ref (gg_o g 1))]) rfl (fun ls hl => ?_)
        refine lv_goto hx hb dX3_kindOfName_69 (tgt := 35) rfl ?_
        exact ih35 _ _ _ (z35 + 1) (lv_sub hl [1, 0] rfl) hw hf
      replace hf := h_pos hc8 hf
      refine lv_sipush (v := 200) hx hb dX3_kindOfName_59 (by decide) ?_
      refine lv_iload hx hb dX3_kindOfName_62 (lv_at hl 1 rfl) ?_
      refine lv_iadd hx hb dX3_kindOfName_64 ?_
      replace hf := hR35 (((200 : Int32) + z35), S) hf
      exact r_iretw cx hw hr hlk hf dX3_kindOfName_65
  exact L35 S5 some (fun v h => h) FU _ _ _ (0 : Int32) (lv_sub hl [1, 0] rfl) hw hf
theorem dX3_kindOf_0 : decode cX3_kindOf 0 = .ok (.aload_n 1, 1) := by decide +kernel
theorem dX3_kindOf_1 : decode cX3_kindOf 1 = .ok (.iload_n 2, 1) := by decide +kernel
theorem dX3_kindOf_2 : decode cX3_kindOf 2 = .ok (.invokestatic 109, 3) := by decide +kernel
theorem dX3_kindOf_5 : decode cX3_kindOf 5 = .ok (.istore 4, 2) := by decide +kernel
theorem dX3_kindOf_7 : decode cX3_kindOf 7 = .ok (.aload_n 0, 1) := by decide +kernel
theorem dX3_kindOf_8 : decode cX3_kindOf 8 = .ok (.lconst 0, 1) := by decide +kernel
theorem dX3_kindOf_9 : decode cX3_kindOf 9 = .ok (.putfield 105, 3) := by decide +kernel
theorem dX3_kindOf_12 : decode cX3_kindOf 12 = .ok (.iload 4, 2) := by decide +kernel
theorem dX3_kindOf_14 : decode cX3_kindOf 14 = .ok (.invokestatic 116, 3) := by decide +kernel
theorem dX3_kindOf_17 : decode cX3_kindOf 17 = .ok (.ifCond .eq 23, 3) := by decide +kernel
theorem dX3_kindOf_20 : decode cX3_kindOf 20 = .ok (.iload_n 3, 1) := by decide +kernel
theorem dX3_kindOf_21 : decode cX3_kindOf 21 = .ok (.iload_n 2, 1) := by decide +kernel
theorem dX3_kindOf_22 : decode cX3_kindOf 22 = .ok (.isub, 1) := by decide +kernel
theorem dX3_kindOf_23 : decode cX3_kindOf 23 = .ok (.bipush 8, 2) := by decide +kernel
theorem dX3_kindOf_25 : decode cX3_kindOf 25 = .ok (.if_icmp .le 7, 3) := by decide +kernel
theorem dX3_kindOf_28 : decode cX3_kindOf 28 = .ok (.iconst 0, 1) := by decide +kernel
theorem dX3_kindOf_29 : decode cX3_kindOf 29 = .ok (.goto 10, 3) := by decide +kernel
theorem dX3_kindOf_32 : decode cX3_kindOf 32 = .ok (.aload_n 0, 1) := by decide +kernel
theorem dX3_kindOf_33 : decode cX3_kindOf 33 = .ok (.aload_n 1, 1) := by decide +kernel
theorem dX3_kindOf_34 : decode cX3_kindOf 34 = .ok (.iload_n 2, 1) := by decide +kernel
theorem dX3_kindOf_35 : decode cX3_kindOf 35 = .ok (.iload_n 3, 1) := by decide +kernel
theorem dX3_kindOf_36 : decode cX3_kindOf 36 = .ok (.invokevirtual 122, 3) := by decide +kernel
theorem dX3_kindOf_39 : decode cX3_kindOf 39 = .ok (.ireturn, 1) := by decide +kernel
theorem dX3_kindOf_40 : decode cX3_kindOf 40 = .ok (.iload 4, 2) := by decide +kernel
theorem dX3_kindOf_42 : decode cX3_kindOf 42 = .ok (.invokestatic 119, 3) := by decide +kernel
theorem dX3_kindOf_45 : decode cX3_kindOf 45 = .ok (.ifCond .ne 21, 3) := by decide +kernel
theorem dX3_kindOf_48 : decode cX3_kindOf 48 = .ok (.ldc 125, 2) := by decide +kernel
theorem dX3_kindOf_50 : decode cX3_kindOf 50 = .ok (.iload 4, 2) := by decide +kernel
theorem dX3_kindOf_52 : decode cX3_kindOf 52 = .ok (.i2c, 1) := by decide +kernel
theorem dX3_kindOf_53 : decode cX3_kindOf 53 = .ok (.invokevirtual 127, 3) := by decide +kernel
theorem dX3_kindOf_56 : decode cX3_kindOf 56 = .ok (.ifCond .lt 8, 3) := by decide +kernel
theorem dX3_kindOf_59 : decode cX3_kindOf 59 = .ok (.iload 4, 2) := by decide +kernel
theorem dX3_kindOf_61 : decode cX3_kindOf 61 = .ok (.goto 4, 3) := by decide +kernel
theorem dX3_kindOf_64 : decode cX3_kindOf 64 = .ok (.iconst 0, 1) := by decide +kernel
theorem dX3_kindOf_65 : decode cX3_kindOf 65 = .ok (.ireturn, 1) := by decide +kernel
theorem dX3_kindOf_66 : decode cX3_kindOf 66 = .ok (.iload_n 3, 1) := by decide +kernel
theorem dX3_kindOf_67 : decode cX3_kindOf 67 = .ok (.iload_n 2, 1) := by decide +kernel
theorem dX3_kindOf_68 : decode cX3_kindOf 68 = .ok (.isub, 1) := by decide +kernel
theorem dX3_kindOf_69 : decode cX3_kindOf 69 = .ok (.iconst 4, 1) := by decide +kernel
theorem dX3_kindOf_70 : decode cX3_kindOf 70 = .ok (.if_icmp .le 5, 3) := by decide +kernel
theorem dX3_kindOf_73 : decode cX3_kindOf 73 = .ok (.iconst 0, 1) := by decide +kernel
theorem dX3_kindOf_74 : decode cX3_kindOf 74 = .ok (.ireturn, 1) := by decide +kernel
theorem dX3_kindOf_75 : decode cX3_kindOf 75 = .ok (.iload_n 2, 1) := by decide +kernel
theorem dX3_kindOf_76 : decode cX3_kindOf 76 = .ok (.istore 5, 2) := by decide +kernel
theorem dX3_kindOf_78 : decode cX3_kindOf 78 = .ok (.iload 5, 2) := by decide +kernel
theorem dX3_kindOf_80 : decode cX3_kindOf 80 = .ok (.iload_n 3, 1) := by decide +kernel
theorem dX3_kindOf_81 : decode cX3_kindOf 81 = .ok (.if_icmp .ge 32, 3) := by decide +kernel
theorem dX3_kindOf_84 : decode cX3_kindOf 84 = .ok (.aload_n 0, 1) := by decide +kernel
theorem dX3_kindOf_85 : decode cX3_kindOf 85 = .ok (.aload_n 0, 1) := by decide +kernel
theorem dX3_kindOf_86 : decode cX3_kindOf 86 = .ok (.getfield 105, 3) := by decide +kernel
theorem dX3_kindOf_89 : decode cX3_kindOf 89 = .ok (.ldc2_w 131, 3) := by decide +kernel
theorem dX3_kindOf_92 : decode cX3_kindOf 92 = .ok (.lmul, 1) := by decide +kernel
theorem dX3_kindOf_93 : decode cX3_kindOf 93 = .ok (.aload_n 1, 1) := by decide +kernel
theorem dX3_kindOf_94 : decode cX3_kindOf 94 = .ok (.iload 5, 2) := by decide +kernel
theorem dX3_kindOf_96 : decode cX3_kindOf 96 = .ok (.invokestatic 109, 3) := by decide +kernel
theorem dX3_kindOf_99 : decode cX3_kindOf 99 = .ok (.bipush 48, 2) := by decide +kernel
theorem dX3_kindOf_101 : decode cX3_kindOf 101 = .ok (.isub, 1) := by decide +kernel
theorem dX3_kindOf_102 : decode cX3_kindOf 102 = .ok (.i2l, 1) := by decide +kernel
theorem dX3_kindOf_103 : decode cX3_kindOf 103 = .ok (.ladd, 1) := by decide +kernel
theorem dX3_kindOf_104 : decode cX3_kindOf 104 = .ok (.putfield 105, 3) := by decide +kernel
theorem dX3_kindOf_107 : decode cX3_kindOf 107 = .ok (.iinc 5 1, 3) := by decide +kernel
theorem dX3_kindOf_110 : decode cX3_kindOf 110 = .ok (.goto (-32), 3) := by decide +kernel
theorem dX3_kindOf_113 : decode cX3_kindOf 113 = .ok (.iconst 2, 1) := by decide +kernel
theorem dX3_kindOf_114 : decode cX3_kindOf 114 = .ok (.ireturn, 1) := by decide +kernel
abbrev rm_X3_kindOf : Room := { frames := 4, cells := 0, slots := 0, locals := 96 }
def f_X3_kindOf_L78 (k1 : Nat) (x3 : Int32) (z78 : Int32 × St) : Option ((Int32 × St) ⊕ (Int32 × St)) :=
  if x3 ≤ z78.1 then (some (.inr ((2 : Int32), z78.2))) else ((f_X5_at k1 z78.2 z78.1).bind (fun (q9 : Int32) => lt_v (up_J z78.2 (ky 1 6) (((st_J z78.2 (ky 1 6)) * (10 : Int64)) + ((q9 - (48 : Int32)).toInt64))) (fun (S10 : St) => some (.inl ((z78.1 + 1), S10)))))
def f_X3_kindOf (k1 : Nat) (S : St) (x2 : Int32) (x3 : Int32) : Option (Int32 × St) :=
  (f_X5_at k1 S x2).bind (fun (q1 : Int32) => lt_v (up_J S (ky 1 6) (0 : Int64)) (fun (S2 : St) => (f_X3_isLetter   q1).bind (fun (q3 : Int32) => if q3 = 0 then ((f_X3_isDigit   q1).bind (fun (q5 : Int32) => if q5 = 0 then ((f_J0_indexOf_0f7a4 1 ((q1.toUInt32 % 65536).toInt32)).bind (fun (q11 : Int32) => if q11 < 0 then (some ((0 : Int32), S2)) else (some (q1, S2)))) else (if (x3 - x2) ≤ (4 : Int32) then (iter (f_X3_kindOf_L78 k1  x3) FU (x2, S2)) else (some ((0 : Int32), S2))))) else (if (x3 - x2) ≤ (8 : Int32) then ((f_X3_kindOfName k1 S2 x2 x3).bind (fun (q14 : Int32 × St) => some (q14.1, q14.2))) else (some ((0 : Int32), S2))))))
set_option maxRecDepth 100000 in
set_option maxHeartbeats 4000000 in
theorem k_X3_kindOf (l : Launch) (g : GG) (hg : gd wd_C g) (k1 : Nat) (h1 : hs wd_C g 1 3) (hk1 : k1 ∈ gg_as g) (S : St) (x2 : Int32) (x3 : Int32) (q : Int32 × St) (hf : f_X3_kindOf k1 S x2 x3 = some q) : Met l yX3_kindOf (Cond.code yX3_kindOf cX3_kindOf 6 (some .int) :: gw_tbl) rm_X3_kindOf (va_Pc [.ref (gg_o g 1), .ref (gg_a g k1), .int x2, .int x3] (wI wd_C g S)) (qc_w wd_C g q) 0 0 (aw g) := by
  refine mt_start (own := RX3) hg (by decide) rfl (Nat.le_of_ble_eq_true rfl) (fun p e s m args below meth c ls H locs cx hw hr hlk hl => ?_)
  have hx := cx.1
  have hb := cx.2.1
  have hown := cx.2.2.2.1
  have hts := cx.2.2.2.2.1
  have hl : lv_has ls 6 [(0, .ref (gg_o g 1)), (1, .ref (gg_a g k1)), (2, .int x2), (3, .int x3)] := hl
  replace hf := h_top hf
  unfold f_X3_kindOf at hf
  refine lv_aload_n hx hb dX3_kindOf_0 rfl (lv_at hl 1 rfl) ?_
  refine lv_iload_n hx hb dX3_kindOf_1 rfl (lv_at hl 2 rfl) ?_
  refine r_SN_i (As := [.ref (gg_a g k1), .int x2]) (rest := []) cx hw hf (nw_at cx) lk_X3_109 (fun q1 hq => k_X5_at l g hg k1 hk1 S x2 q1 hq) ⟨⟨rfl, rfl⟩, Nat.le_of_ble_eq_true rfl, Nat.le_of_ble_eq_true rfl⟩ rfl hl.1 rfl (Nat.le_of_ble_eq_true rfl) dX3_kindOf_2 ⟨Nat.zero_le _, Nat.zero_le _⟩ (fun q1 H locs hw hf => ?_)
  refine lv_istore hx hb dX3_kindOf_5 hl (by decide) (lv' := [(4, .int q1), (0, .ref (gg_o g 1)), (1, .ref (gg_a g k1)), (2, .int x2), (3, .int x3)]) rfl (fun ls hl => ?_)
  refine lv_aload_n hx hb dX3_kindOf_7 rfl (lv_at hl 1 rfl) ?_
  refine lv_lconst (v := 0) hx hb dX3_kindOf_8 (by decide) ?_
  refine pf_X3_105 cx hw h1 hf dX3_kindOf_9 (fun S2 H locs hw hf => ?_)
  refine lv_iload hx hb dX3_kindOf_12 (lv_at hl 0 rfl) ?_
  refine r_S_i (As := [.int q1]) (rest := []) cx hw hf lk_X3_116 (fun q3 hq => k_X3_isLetter l g hg   S2 q1 q3 hq) ⟨⟨rfl, rfl⟩, Nat.le_of_ble_eq_true rfl, Nat.le_of_ble_eq_true rfl⟩ rfl hl.1 rfl (Nat.le_of_ble_eq_true rfl) dX3_kindOf_14 ⟨Nat.zero_le _, Nat.zero_le _⟩ (fun q3 H locs hw hf => ?_)
  refine lv_if_eq hx hb dX3_kindOf_17 (tgt := 40) rfl (fun hc4 => ?_) (fun hc4 => ?_)
  · replace hf := h_pos hc4 hf
    refine lv_iload hx hb dX3_kindOf_40 (lv_at hl 0 rfl) ?_
    refine r_S_i (As := [.int q1]) (rest := []) cx hw hf lk_X3_119 (fun q5 hq => k_X3_isDigit l g hg   S2 q1 q5 hq) ⟨⟨rfl, rfl⟩, Nat.le_of_ble_eq_true rfl, Nat.le_of_ble_eq_true rfl⟩ rfl hl.1 rfl (Nat.le_of_ble_eq_true rfl) dX3_kindOf_42 ⟨Nat.zero_le _, Nat.zero_le _⟩ (fun q5 H locs hw hf => ?_)
    refine lv_if_ne hx hb dX3_kindOf_45 (tgt := 66) rfl (fun hc6 => ?_) (fun hc6 => ?_)
    · replace hf := h_neg hc6 hf
      refine lv_iload_n hx hb dX3_kindOf_66 rfl (lv_at hl 4 rfl) ?_
      refine lv_iload_n hx hb dX3_kindOf_67 rfl (lv_at hl 3 rfl) ?_
      refine lv_isub hx hb dX3_kindOf_68 ?_
      refine lv_iconst (v := 4) hx hb dX3_kindOf_69 (by decide) ?_
      refine lv_icmp_le hx hb dX3_kindOf_70 (tgt := 75) rfl (fun hc7 => ?_) (fun hc7 => ?_)
      · replace hf := h_pos hc7 hf
        refine lv_iload_n hx hb dX3_kindOf_75 rfl (lv_at hl 3 rfl) ?_
        refine lv_istore hx hb dX3_kindOf_76 hl (by decide) (lv' := [(5, .int x2), (4, .int q1), (0, .ref (gg_o g 1)), (1, .ref (gg_a g k1)), (2, .int x2), (3, .int x3)]) rfl (fun ls hl => ?_)
        have L78 : ∀ (x3 : Int32) (aft78 : (Int32 × St) → Option (Int32 × St)), (∀ v : Int32 × St, aft78 v = some q → (some v : Option (Int32 × St)).bind some = some q) → ∀ (n78 : Nat) (ls : Array Slot) (H : Heap) (locs : List Loc) (z78 : Int32 × St), lv_has ls 6 [(0, .ref (gg_o g 1)), (1, .ref (gg_a g k1)), (3, .int x3), (5, .int z78.1)] → HH wd_C g s z78.2 H locs → (iter (f_X3_kindOf_L78 k1  x3) n78 z78).bind aft78 = some q → W p l e rm_X3_kindOf s m args below meth c H locs 0 0 (MQ below (qc_w wd_C g q) args s 0 0 (aw g)) (F0 m 78 ls []) := by
          intro x3 aft78 hR78 n78
          induction n78 with
          | zero => intro ls H locs z78 hl hw hf; exact h_iter0 hf
          | succ n78 ih78 =>
            intro ls H locs z78 hl hw hf
            replace hf := h_iter hf
            unfold f_X3_kindOf_L78 at hf
            refine lv_iload hx hb dX3_kindOf_78 (lv_at hl 3 rfl) ?_
            refine lv_iload_n hx hb dX3_kindOf_80 rfl (lv_at hl 2 rfl) ?_
            refine lv_icmp_ge hx hb dX3_kindOf_81 (tgt := 113) rfl (fun hc8 => ?_) (fun hc8 => ?_)
            · replace hf := h_pos hc8 hf
              refine lv_iconst (v := 2) hx hb dX3_kindOf_113 (by decide) ?_
              replace hf := hR78 ((2 : Int32), z78.2) hf
              exact r_iretw cx hw hr hlk hf dX3_kindOf_114
            replace hf := h_neg hc8 hf
            refine lv_aload_n hx hb dX3_kindOf_84 rfl (lv_at hl 0 rfl) ?_
            refine lv_aload_n hx hb dX3_kindOf_85 rfl (lv_at hl 0 rfl) ?_
            refine gf_X3_105 cx hw h1 dX3_kindOf_86 ?_
            refine lv_ldc2 hx hb hown (hts _ wd_552) dX3_kindOf_89 ?_
            refine lv_lmul hx hb dX3_kindOf_92 ?_
            refine lv_aload_n hx hb dX3_kindOf_93 rfl (lv_at hl 1 rfl) ?_
            refine lv_iload hx hb dX3_kindOf_94 (lv_at hl 3 rfl) ?_
            refine r_SN_i (As := [.ref (gg_a g k1), .int z78.1]) (rest := [.long ((st_J z78.2 (ky 1 6)) * (10 : Int64)), .ref (gg_o g 1)]) cx hw hf (nw_at cx) lk_X3_109 (fun q9 hq => k_X5_at l g hg k1 hk1 z78.2 z78.1 q9 hq) ⟨⟨rfl, rfl⟩, Nat.le_of_ble_eq_true rfl, Nat.le_of_ble_eq_true rfl⟩ rfl hl.1 rfl (Nat.le_of_ble_eq_true rfl) dX3_kindOf_96 ⟨Nat.zero_le _, Nat.zero_le _⟩ (fun q9 H locs hw hf => ?_)
            refine lv_bipush (v := 48) hx hb dX3_kindOf_99 (by decide) ?_
            refine lv_isub hx hb dX3_kindOf_101 ?_
            refine lv_i2l (v := ((q9 - (48 : Int32)).toInt64)) hx hb dX3_kindOf_102 rfl ?_
            refine lv_ladd hx hb dX3_kindOf_103 ?_
            refine pf_X3_105 cx hw h1 hf dX3_kindOf_104 (fun S10 H locs hw hf => ?_)
            refine lv_iinc hx hb dX3_kindOf_107 hl (k := 3) rfl (congrArg (HAdd.hAdd _) (show Int32.ofInt (1) = 1 by decide)) (by decide) (lv' := [(5, .int (z78.1 + 1)), (0, .ref (gg_o g 1)), (1, .ref (gg_a g k1)), (3, .int x3)]) rfl (fun ls hl => ?_)
            refine lv_goto hx hb dX3_kindOf_110 (tgt := 78) rfl ?_
            exact ih78 _ _ _ ((z78.1 + 1), S10) (lv_sub hl [1, 2, 3, 0] rfl) hw hf
        exact L78 x3 some (fun v h => h) FU _ _ _ (x2, S2) (lv_sub hl [2, 3, 5, 0] rfl) hw hf
      replace hf := h_neg hc7 hf
      refine lv_iconst (v := 0) hx hb dX3_kindOf_73 (by decide) ?_
      exact r_iretw cx hw hr hlk hf dX3_kindOf_74
    replace hf := h_pos hc6 hf
    refine va_ldcS hx hb hown (st_R cx 1 rfl) dX3_kindOf_48 ?_
    refine lv_iload hx hb dX3_kindOf_50 (lv_at hl 0 rfl) ?_
    refine lv_i2c (v := ((q1.toUInt32 % 65536).toInt32)) hx hb dX3_kindOf_52 rfl ?_
    refine r_VR_i (As := [.int ((q1.toUInt32 % 65536).toInt32)]) (rest := []) cx hw hf (r_srecv cx hw (by decide)) lk_X3_127 (fun q11 hq => k_J0_indexOf_0f7a4 l g hg 1 (by decide) S2 ((q1.toUInt32 % 65536).toInt32) q11 hq) ⟨⟨rfl, rfl⟩, Nat.le_of_ble_eq_true rfl, Nat.le_of_ble_eq_true rfl⟩ rfl hl.1 rfl (Nat.le_of_ble_eq_true rfl) dX3_kindOf_53 ⟨Nat.zero_le _, Nat.zero_le _⟩ (fun q11 H locs hw hf => ?_)
    refine lv_if_lt hx hb dX3_kindOf_56 (tgt := 64) rfl (fun hc12 => ?_) (fun hc12 => ?_)
    · replace hf := h_pos hc12 hf
      refine lv_iconst (v := 0) hx hb dX3_kindOf_64 (by decide) ?_
      exact r_iretw cx hw hr hlk hf dX3_kindOf_65
    replace hf := h_neg hc12 hf
    refine lv_iload hx hb dX3_kindOf_59 (lv_at hl 0 rfl) ?_
    refine lv_goto hx hb dX3_kindOf_61 (tgt := 65) rfl ?_
    exact r_iretw cx hw hr hlk hf dX3_kindOf_65
  replace hf := h_neg hc4 hf
  refine lv_iload_n hx hb dX3_kindOf_20 rfl (lv_at hl 4 rfl) ?_
  refine lv_iload_n hx hb dX3_kindOf_21 rfl (lv_at hl 3 rfl) ?_
  refine lv_isub hx hb dX3_kindOf_22 ?_
  refine lv_bipush (v := 8) hx hb dX3_kindOf_23 (by decide) ?_
  refine lv_icmp_le hx hb dX3_kindOf_25 (tgt := 32) rfl (fun hc13 => ?_) (fun hc13 => ?_)
  · replace hf := h_pos hc13 hf
    refine lv_aload_n hx hb dX3_kindOf_32 rfl (lv_at hl 1 rfl) ?_
    refine lv_aload_n hx hb dX3_kindOf_33 rfl (lv_at hl 2 rfl) ?_
    refine lv_iload_n hx hb dX3_kindOf_34 rfl (lv_at hl 3 rfl) ?_
    refine lv_iload_n hx hb dX3_kindOf_35 rfl (lv_at hl 4 rfl) ?_
    refine r_V_w (As := [.ref (gg_a g k1), .int x2, .int x3]) (rest := []) cx hw hf h1.2.1 (by rw [h1.1]; rfl) lk_X3_122 (fun q14 hq => k_X3_kindOfName l g hg k1 h1 hk1 S2 x2 x3 q14 hq) ⟨⟨rfl, rfl⟩, Nat.le_of_ble_eq_true rfl, Nat.le_of_ble_eq_true rfl⟩ rfl hl.1 rfl (Nat.le_of_ble_eq_true rfl) dX3_kindOf_36 ⟨Nat.zero_le _, Nat.zero_le _⟩ (fun q14 H locs hw hf => ?_)
    exact r_iretw cx hw hr hlk hf dX3_kindOf_39
  replace hf := h_neg hc13 hf
  refine lv_iconst (v := 0) hx hb dX3_kindOf_28 (by decide) ?_
  refine lv_goto hx hb dX3_kindOf_29 (tgt := 39) rfl ?_
  exact r_iretw cx hw hr hlk hf dX3_kindOf_39
theorem dX5_within_0 : decode cX5_within 0 = .ok (.iload_n 0, 1) := by decide +kernel
theorem dX5_within_1 : decode cX5_within 1 = .ok (.ifCond .lt 12, 3) := by decide +kernel
theorem dX5_within_4 : decode cX5_within 4 = .ok (.iload_n 0, 1) := by decide +kernel
theorem dX5_within_5 : decode cX5_within 5 = .ok (.iload_n 1, 1) := by decide +kernel
theorem dX5_within_6 : decode cX5_within 6 = .ok (.if_icmp .ge 7, 3) := by decide +kernel
theorem dX5_within_9 : decode cX5_within 9 = .ok (.iconst 1, 1) := by decide +kernel
theorem dX5_within_10 : decode cX5_within 10 = .ok (.goto 4, 3) := by decide +kernel
theorem dX5_within_13 : decode cX5_within 13 = .ok (.iconst 0, 1) := by decide +kernel
theorem dX5_within_14 : decode cX5_within 14 = .ok (.ireturn, 1) := by decide +kernel
abbrev rm_X5_within : Room := { frames := 0, cells := 0, slots := 0, locals := 0 }
def f_X5_within (x0 : Int32) (x1 : Int32) : Option (Int32) :=
  if x0 < 0 then (some (0 : Int32)) else (if x1 ≤ x0 then (some (0 : Int32)) else (some (1 : Int32)))
set_option maxRecDepth 100000 in
set_option maxHeartbeats 4000000 in
theorem k_X5_within (l : Launch) (g : GG) (hg : gd wd_C g)  (S : St) (x0 : Int32) (x1 : Int32) (q : Int32) (hf : f_X5_within   x0 x1 = some q) : Met l yX5_within (Cond.code yX5_within cX5_within 2 (some .boolean) :: gw_tbl) rm_X5_within (va_Pc [.int x0, .int x1] (wI wd_C g S)) (qc_i wd_C g S q) 0 0 (aw g) := by
  refine mt_start (own := RX5) hg (by decide) rfl (Nat.le_of_ble_eq_true rfl) (fun p e s m args below meth c ls H locs cx hw hr hlk hl => ?_)
  have hx := cx.1
  have hb := cx.2.1
  have hown := cx.2.2.2.1
  have hts := cx.2.2.2.2.1
  have hl : lv_has ls 2 [(0, .int x0), (1, .int x1)] := hl
  replace hf := h_top hf
  unfold f_X5_within at hf
  refine lv_iload_n hx hb dX5_within_0 rfl (lv_at hl 0 rfl) ?_
  refine lv_if_lt hx hb dX5_within_1 (tgt := 13) rfl (fun hc1 => ?_) (fun hc1 => ?_)
  · replace hf := h_pos hc1 hf
    refine lv_iconst (v := 0) hx hb dX5_within_13 (by decide) ?_
    exact r_zret cx hw hr hlk (Or.inl rfl) hf dX5_within_14
  replace hf := h_neg hc1 hf
  refine lv_iload_n hx hb dX5_within_4 rfl (lv_at hl 0 rfl) ?_
  refine lv_iload_n hx hb dX5_within_5 rfl (lv_at hl 1 rfl) ?_
  refine lv_icmp_ge hx hb dX5_within_6 (tgt := 13) rfl (fun hc2 => ?_) (fun hc2 => ?_)
  · replace hf := h_pos hc2 hf
    refine lv_iconst (v := 0) hx hb dX5_within_13 (by decide) ?_
    exact r_zret cx hw hr hlk (Or.inl rfl) hf dX5_within_14
  replace hf := h_neg hc2 hf
  refine lv_iconst (v := 1) hx hb dX5_within_9 (by decide) ?_
  refine lv_goto hx hb dX5_within_10 (tgt := 14) rfl ?_
  exact r_zret cx hw hr hlk (Or.inr rfl) hf dX5_within_14
theorem dX3_tellBegins_0 : decode cX3_tellBegins 0 = .ok (.iload_n 1, 1) := by decide +kernel
theorem dX3_tellBegins_1 : decode cX3_tellBegins 1 = .ok (.sipush 200, 3) := by decide +kernel
theorem dX3_tellBegins_4 : decode cX3_tellBegins 4 = .ok (.isub, 1) := by decide +kernel
theorem dX3_tellBegins_5 : decode cX3_tellBegins 5 = .ok (.istore_n 2, 1) := by decide +kernel
theorem dX3_tellBegins_6 : decode cX3_tellBegins 6 = .ok (.iload_n 2, 1) := by decide +kernel
theorem dX3_tellBegins_7 : decode cX3_tellBegins 7 = .ok (.getstatic 29, 3) := by decide +kernel
theorem dX3_tellBegins_10 : decode cX3_tellBegins 10 = .ok (.arraylength, 1) := by decide +kernel
theorem dX3_tellBegins_11 : decode cX3_tellBegins 11 = .ok (.invokestatic 164, 3) := by decide +kernel
theorem dX3_tellBegins_14 : decode cX3_tellBegins 14 = .ok (.ifCond .ne 5, 3) := by decide +kernel
theorem dX3_tellBegins_17 : decode cX3_tellBegins 17 = .ok (.iconst 0, 1) := by decide +kernel
theorem dX3_tellBegins_18 : decode cX3_tellBegins 18 = .ok (.ireturn, 1) := by decide +kernel
theorem dX3_tellBegins_19 : decode cX3_tellBegins 19 = .ok (.aload_n 0, 1) := by decide +kernel
theorem dX3_tellBegins_20 : decode cX3_tellBegins 20 = .ok (.getfield 32, 3) := by decide +kernel
theorem dX3_tellBegins_23 : decode cX3_tellBegins 23 = .ok (.iload_n 2, 1) := by decide +kernel
theorem dX3_tellBegins_24 : decode cX3_tellBegins 24 = .ok (.aload_n 0, 1) := by decide +kernel
theorem dX3_tellBegins_25 : decode cX3_tellBegins 25 = .ok (.getfield 32, 3) := by decide +kernel
theorem dX3_tellBegins_28 : decode cX3_tellBegins 28 = .ok (.iload_n 2, 1) := by decide +kernel
theorem dX3_tellBegins_29 : decode cX3_tellBegins 29 = .ok (.invokestatic 109, 3) := by decide +kernel
theorem dX3_tellBegins_32 : decode cX3_tellBegins 32 = .ok (.iconst 1, 1) := by decide +kernel
theorem dX3_tellBegins_33 : decode cX3_tellBegins 33 = .ok (.iadd, 1) := by decide +kernel
theorem dX3_tellBegins_34 : decode cX3_tellBegins 34 = .ok (.invokestatic 101, 3) := by decide +kernel
theorem dX3_tellBegins_37 : decode cX3_tellBegins 37 = .ok (.aload_n 0, 1) := by decide +kernel
theorem dX3_tellBegins_38 : decode cX3_tellBegins 38 = .ok (.iload_n 1, 1) := by decide +kernel
theorem dX3_tellBegins_39 : decode cX3_tellBegins 39 = .ok (.putfield 95, 3) := by decide +kernel
theorem dX3_tellBegins_42 : decode cX3_tellBegins 42 = .ok (.aload_n 0, 1) := by decide +kernel
theorem dX3_tellBegins_43 : decode cX3_tellBegins 43 = .ok (.iconst 0, 1) := by decide +kernel
theorem dX3_tellBegins_44 : decode cX3_tellBegins 44 = .ok (.putfield 158, 3) := by decide +kernel
theorem dX3_tellBegins_47 : decode cX3_tellBegins 47 = .ok (.aload_n 0, 1) := by decide +kernel
theorem dX3_tellBegins_48 : decode cX3_tellBegins 48 = .ok (.iconst 0, 1) := by decide +kernel
theorem dX3_tellBegins_49 : decode cX3_tellBegins 49 = .ok (.putfield 168, 3) := by decide +kernel
theorem dX3_tellBegins_52 : decode cX3_tellBegins 52 = .ok (.aload_n 0, 1) := by decide +kernel
theorem dX3_tellBegins_53 : decode cX3_tellBegins 53 = .ok (.iconst 0, 1) := by decide +kernel
theorem dX3_tellBegins_54 : decode cX3_tellBegins 54 = .ok (.putfield 171, 3) := by decide +kernel
theorem dX3_tellBegins_57 : decode cX3_tellBegins 57 = .ok (.aload_n 0, 1) := by decide +kernel
theorem dX3_tellBegins_58 : decode cX3_tellBegins 58 = .ok (.iconst 0, 1) := by decide +kernel
theorem dX3_tellBegins_59 : decode cX3_tellBegins 59 = .ok (.putfield 174, 3) := by decide +kernel
theorem dX3_tellBegins_62 : decode cX3_tellBegins 62 = .ok (.iconst 1, 1) := by decide +kernel
theorem dX3_tellBegins_63 : decode cX3_tellBegins 63 = .ok (.ireturn, 1) := by decide +kernel
abbrev rm_X3_tellBegins : Room := { frames := 1, cells := 0, slots := 0, locals := 22 }
def f_X3_tellBegins (S : St) (x1 : Int32) : Option (Int32 × St) :=
  (f_X5_within   (x1 - (200 : Int32)) (8 : Int32)).bind (fun (q1 : Int32) => if q1 = 0 then (some ((0 : Int32), S)) else ((f_X5_at (ky 1 7) S (x1 - (200 : Int32))).bind (fun (q3 : Int32) => (f_X5_put (ky 1 7) S (x1 - (200 : Int32)) (q3 + (1 : Int32))).bind (fun (q4 : St) => lt_v (up_I q4 (ky 1 8) x1) (fun (S5 : St) => lt_v (up_I S5 (ky 1 9) (0 : Int32)) (fun (S6 : St) => lt_v (up_I S6 (ky 1 10) (0 : Int32)) (fun (S7 : St) => lt_v (up_I S7 (ky 1 13) (0 : Int32)) (fun (S8 : St) => lt_v (up_I S8 (ky 1 14) (0 : Int32)) (fun (S9 : St) => some ((1 : Int32), S9))))))))))
set_option maxRecDepth 100000 in
set_option maxHeartbeats 4000000 in
theorem k_X3_tellBegins (l : Launch) (g : GG) (hg : gd wd_C g)  (h1 : hs wd_C g 1 3) (S : St) (x1 : Int32) (q : Int32 × St) (hf : f_X3_tellBegins  S x1 = some q) : Met l yX3_tellBegins (Cond.code yX3_tellBegins cX3_tellBegins 3 (some .boolean) :: gw_tbl) rm_X3_tellBegins (va_Pc [.ref (gg_o g 1), .int x1] (wI wd_C g S)) (qc_w wd_C g q) 0 0 (aw g) := by
  refine mt_start (own := RX3) hg (by decide) rfl (Nat.le_of_ble_eq_true rfl) (fun p e s m args below meth c ls H locs cx hw hr hlk hl => ?_)
  have hx := cx.1
  have hb := cx.2.1
  have hown := cx.2.2.2.1
  have hts := cx.2.2.2.2.1
  have hl : lv_has ls 3 [(0, .ref (gg_o g 1)), (1, .int x1)] := hl
  replace hf := h_top hf
  unfold f_X3_tellBegins at hf
  refine lv_iload_n hx hb dX3_tellBegins_0 rfl (lv_at hl 1 rfl) ?_
  refine lv_sipush (v := 200) hx hb dX3_tellBegins_1 (by decide) ?_
  refine lv_isub hx hb dX3_tellBegins_4 ?_
  refine lv_istore_n hx hb dX3_tellBegins_5 rfl hl (by decide) (lv' := [(2, .int (x1 - (200 : Int32))), (0, .ref (gg_o g 1)), (1, .int x1)]) rfl (fun ls hl => ?_)
  refine lv_iload_n hx hb dX3_tellBegins_6 rfl (lv_at hl 0 rfl) ?_
  refine va_gets hx hb (st_Z cx) hw.2 hown (hts _ wd_30) (fun _ h => h) dX3_tellBegins_7 ?_
  refine r_tlen cx hw dX3_tellBegins_10 ?_
  refine r_SN_i (As := [.int (x1 - (200 : Int32)), .int (8 : Int32)]) (rest := []) cx hw hf (nw_at cx) lk_X3_164 (fun q1 hq => k_X5_within l g hg   S (x1 - (200 : Int32)) (8 : Int32) q1 hq) ⟨⟨rfl, rfl⟩, Nat.le_of_ble_eq_true rfl, Nat.le_of_ble_eq_true rfl⟩ rfl hl.1 rfl (Nat.le_of_ble_eq_true rfl) dX3_tellBegins_11 ⟨Nat.zero_le _, Nat.zero_le _⟩ (fun q1 H locs hw hf => ?_)
  refine lv_if_ne hx hb dX3_tellBegins_14 (tgt := 19) rfl (fun hc2 => ?_) (fun hc2 => ?_)
  · replace hf := h_neg hc2 hf
    refine lv_aload_n hx hb dX3_tellBegins_19 rfl (lv_at hl 1 rfl) ?_
    refine gf_X3_32 cx hw h1 dX3_tellBegins_20 ?_
    refine lv_iload_n hx hb dX3_tellBegins_23 rfl (lv_at hl 0 rfl) ?_
    refine lv_aload_n hx hb dX3_tellBegins_24 rfl (lv_at hl 1 rfl) ?_
    refine gf_X3_32 cx hw h1 dX3_tellBegins_25 ?_
    refine lv_iload_n hx hb dX3_tellBegins_28 rfl (lv_at hl 0 rfl) ?_
    refine r_SN_i (As := [.ref (gg_a g (ky 1 7)), .int (x1 - (200 : Int32))]) (rest := [.int (x1 - (200 : Int32)), .ref (gg_a g (ky 1 7))]) cx hw hf (nw_at cx) lk_X3_109 (fun q3 hq => k_X5_at l g hg (ky 1 7) (h1.2.2.1 7 rfl) S (x1 - (200 : Int32)) q3 hq) ⟨⟨rfl, rfl⟩, Nat.le_of_ble_eq_true rfl, Nat.le_of_ble_eq_true rfl⟩ rfl hl.1 rfl (Nat.le_of_ble_eq_true rfl) dX3_tellBegins_29 ⟨Nat.zero_le _, Nat.zero_le _⟩ (fun q3 H locs hw hf => ?_)
    refine lv_iconst (v := 1) hx hb dX3_tellBegins_32 (by decide) ?_
    refine lv_iadd hx hb dX3_tellBegins_33 ?_
    refine r_SN_v (As := [.ref (gg_a g (ky 1 7)), .int (x1 - (200 : Int32)), .int (q3 + (1 : Int32))]) (rest := []) cx hw hf (nw_at cx) lk_X3_101 (fun q4 hq => k_X5_put l g hg (ky 1 7) (h1.2.2.1 7 rfl) S (x1 - (200 : Int32)) (q3 + (1 : Int32)) q4 hq) ⟨⟨rfl, rfl⟩, Nat.le_of_ble_eq_true rfl, Nat.le_of_ble_eq_true rfl⟩ rfl hl.1 rfl (Nat.le_of_ble_eq_true rfl) dX3_tellBegins_34 ⟨Nat.zero_le _, Nat.zero_le _⟩ (fun q4 H locs hw hf => ?_)
    refine lv_aload_n hx hb dX3_tellBegins_37 rfl (lv_at hl 1 rfl) ?_
    refine lv_iload_n hx hb dX3_tellBegins_38 rfl (lv_at hl 2 rfl) ?_
    refine pf_X3_95 cx hw h1 hf dX3_tellBegins_39 (fun S5 H locs hw hf => ?_)
    refine lv_aload_n hx hb dX3_tellBegins_42 rfl (lv_at hl 1 rfl) ?_
    refine lv_iconst (v := 0) hx hb dX3_tellBegins_43 (by decide) ?_
    refine pf_X3_158 cx hw h1 hf dX3_tellBegins_44 (fun S6 H locs hw hf => ?_)
    refine lv_aload_n hx hb dX3_tellBegins_47 rfl (lv_at hl 1 rfl) ?_
    refine lv_iconst (v := 0) hx hb dX3_tellBegins_48 (by decide) ?_
    refine pf_X3_168 cx hw h1 hf dX3_tellBegins_49 (fun S7 H locs hw hf => ?_)
    refine lv_aload_n hx hb dX3_tellBegins_52 rfl (lv_at hl 1 rfl) ?_
    refine lv_iconst (v := 0) hx hb dX3_tellBegins_53 (by decide) ?_
    refine pf_X3_171 cx hw h1 hf dX3_tellBegins_54 (fun S8 H locs hw hf => ?_)
    refine lv_aload_n hx hb dX3_tellBegins_57 rfl (lv_at hl 1 rfl) ?_
    refine lv_iconst (v := 0) hx hb dX3_tellBegins_58 (by decide) ?_
    refine pf_X3_174 cx hw h1 hf dX3_tellBegins_59 (fun S9 H locs hw hf => ?_)
    refine lv_iconst (v := 1) hx hb dX3_tellBegins_62 (by decide) ?_
    exact r_zretw cx hw hr hlk (Or.inr rfl) hf dX3_tellBegins_63
  replace hf := h_pos hc2 hf
  refine lv_iconst (v := 0) hx hb dX3_tellBegins_17 (by decide) ?_
  exact r_zretw cx hw hr hlk (Or.inl rfl) hf dX3_tellBegins_18
theorem dX3_shapeOf_0 : decode cX3_shapeOf 0 = .ok (.iload_n 0, 1) := by decide +kernel
theorem dX3_shapeOf_1 : decode cX3_shapeOf 1 = .ok (.tableswitch 57 200 205 #[39, 42, 45, 48, 51, 54], 39) := by decide +kernel
theorem dX3_shapeOf_40 : decode cX3_shapeOf 40 = .ok (.ldc 137, 2) := by decide +kernel
theorem dX3_shapeOf_42 : decode cX3_shapeOf 42 = .ok (.areturn, 1) := by decide +kernel
theorem dX3_shapeOf_43 : decode cX3_shapeOf 43 = .ok (.ldc 139, 2) := by decide +kernel
theorem dX3_shapeOf_45 : decode cX3_shapeOf 45 = .ok (.areturn, 1) := by decide +kernel
theorem dX3_shapeOf_46 : decode cX3_shapeOf 46 = .ok (.ldc 141, 2) := by decide +kernel
theorem dX3_shapeOf_48 : decode cX3_shapeOf 48 = .ok (.areturn, 1) := by decide +kernel
theorem dX3_shapeOf_49 : decode cX3_shapeOf 49 = .ok (.ldc 143, 2) := by decide +kernel
theorem dX3_shapeOf_51 : decode cX3_shapeOf 51 = .ok (.areturn, 1) := by decide +kernel
theorem dX3_shapeOf_52 : decode cX3_shapeOf 52 = .ok (.ldc 145, 2) := by decide +kernel
theorem dX3_shapeOf_54 : decode cX3_shapeOf 54 = .ok (.areturn, 1) := by decide +kernel
theorem dX3_shapeOf_55 : decode cX3_shapeOf 55 = .ok (.ldc 147, 2) := by decide +kernel
theorem dX3_shapeOf_57 : decode cX3_shapeOf 57 = .ok (.areturn, 1) := by decide +kernel
theorem dX3_shapeOf_58 : decode cX3_shapeOf 58 = .ok (.ldc 149, 2) := by decide +kernel
theorem dX3_shapeOf_60 : decode cX3_shapeOf 60 = .ok (.areturn, 1) := by decide +kernel
abbrev rm_X3_shapeOf : Room := { frames := 0, cells := 0, slots := 0, locals := 0 }
def f_X3_shapeOf (x0 : Int32) : Option (Nat) :=
  if x0 = 200 then (some 2) else (if x0 = 201 then (some 3) else (if x0 = 202 then (some 4) else (if x0 = 203 then (some 5) else (if x0 = 204 then (some 6) else (if x0 = 205 then (some 7) else (some 8))))))
set_option maxRecDepth 100000 in
set_option maxHeartbeats 4000000 in
theorem k_X3_shapeOf (l : Launch) (g : GG) (hg : gd wd_C g)  (S : St) (x0 : Int32) (q : Nat) (hf : f_X3_shapeOf   x0 = some q) : Met l yX3_shapeOf (Cond.code yX3_shapeOf cX3_shapeOf 1 (some (.object "java/lang/String")) :: gw_tbl) rm_X3_shapeOf (va_Pc [.int x0] (wI wd_C g S)) (qc_s wd_C g S q) 0 0 (aw g) := by
  refine mt_start (own := RX3) hg (by decide) rfl (Nat.le_of_ble_eq_true rfl) (fun p e s m args below meth c ls H locs cx hw hr hlk hl => ?_)
  have hx := cx.1
  have hb := cx.2.1
  have hown := cx.2.2.2.1
  have hts := cx.2.2.2.2.1
  have hl : lv_has ls 1 [(0, .int x0)] := hl
  replace hf := h_top hf
  unfold f_X3_shapeOf at hf
  refine lv_iload_n hx hb dX3_shapeOf_0 rfl (lv_at hl 0 rfl) ?_
  by_cases hc1_200 : x0 = 200
  · replace hf := h_pos hc1_200 hf
    refine lv_tableIn hx hb dX3_shapeOf_1 (by rw [hc1_200]; decide) (by rw [hc1_200]; decide) (off := 39) (by rw [hc1_200]; rfl) (tgt := 40) rfl ?_
    refine va_ldcS hx hb hown (st_R cx 2 rfl) dX3_shapeOf_40 ?_
    exact r_sret cx hw hr hlk hf dX3_shapeOf_42
  replace hf := h_neg hc1_200 hf
  by_cases hc1_201 : x0 = 201
  · replace hf := h_pos hc1_201 hf
    refine lv_tableIn hx hb dX3_shapeOf_1 (by rw [hc1_201]; decide) (by rw [hc1_201]; decide) (off := 42) (by rw [hc1_201]; rfl) (tgt := 43) rfl ?_
    refine va_ldcS hx hb hown (st_R cx 3 rfl) dX3_shapeOf_43 ?_
    exact r_sret cx hw hr hlk hf dX3_shapeOf_45
  replace hf := h_neg hc1_201 hf
  by_cases hc1_202 : x0 = 202
  · replace hf := h_pos hc1_202 hf
    refine lv_tableIn hx hb dX3_shapeOf_1 (by rw [hc1_202]; decide) (by rw [hc1_202]; decide) (off := 45) (by rw [hc1_202]; rfl) (tgt := 46) rfl ?_
    refine va_ldcS hx hb hown (st_R cx 4 rfl) dX3_shapeOf_46 ?_
    exact r_sret cx hw hr hlk hf dX3_shapeOf_48
  replace hf := h_neg hc1_202 hf
  by_cases hc1_203 : x0 = 203
  · replace hf := h_pos hc1_203 hf
    refine lv_tableIn hx hb dX3_shapeOf_1 (by rw [hc1_203]; decide) (by rw [hc1_203]; decide) (off := 48) (by rw [hc1_203]; rfl) (tgt := 49) rfl ?_
    refine va_ldcS hx hb hown (st_R cx 5 rfl) dX3_shapeOf_49 ?_
    exact r_sret cx hw hr hlk hf dX3_shapeOf_51
  replace hf := h_neg hc1_203 hf
  by_cases hc1_204 : x0 = 204
  · replace hf := h_pos hc1_204 hf
    refine lv_tableIn hx hb dX3_shapeOf_1 (by rw [hc1_204]; decide) (by rw [hc1_204]; decide) (off := 51) (by rw [hc1_204]; rfl) (tgt := 52) rfl ?_
    refine va_ldcS hx hb hown (st_R cx 6 rfl) dX3_shapeOf_52 ?_
    exact r_sret cx hw hr hlk hf dX3_shapeOf_54
  replace hf := h_neg hc1_204 hf
  by_cases hc1_205 : x0 = 205
  · replace hf := h_pos hc1_205 hf
    refine lv_tableIn hx hb dX3_shapeOf_1 (by rw [hc1_205]; decide) (by rw [hc1_205]; decide) (off := 54) (by rw [hc1_205]; rfl) (tgt := 55) rfl ?_
    refine va_ldcS hx hb hown (st_R cx 7 rfl) dX3_shapeOf_55 ?_
    exact r_sret cx hw hr hlk hf dX3_shapeOf_57
  replace hf := h_neg hc1_205 hf
  have hD1 : W p l e rm_X3_shapeOf s m args below meth c H locs 0 0 (MQ below (qc_s wd_C g S q) args s 0 0 (aw g)) (F0 m 58 ls []) := by
    refine va_ldcS hx hb hown (st_R cx 8 rfl) dX3_shapeOf_58 ?_
    exact r_sret cx hw hr hlk hf dX3_shapeOf_60
  refine lv_tableOut hx hb dX3_shapeOf_1 (ts_out (lo := 200) (hi := 205) (by decide) (by decide) (fun i h1 h2 => ?_)) (tgt := 58) rfl hD1
  rcases (show i = 200 ∨ i = 201 ∨ i = 202 ∨ i = 203 ∨ i = 204 ∨ i = 205 by omega) with rfl | rfl | rfl | rfl | rfl | rfl
  · exact hc1_200
  · exact hc1_201
  · exact hc1_202
  · exact hc1_203
  · exact hc1_204
  · exact hc1_205
theorem dX3_beginE_0 : decode cX3_beginE 0 = .ok (.aload_n 0, 1) := by decide +kernel
theorem dX3_beginE_1 : decode cX3_beginE 1 = .ok (.iload_n 1, 1) := by decide +kernel
theorem dX3_beginE_2 : decode cX3_beginE 2 = .ok (.putfield 168, 3) := by decide +kernel
theorem dX3_beginE_5 : decode cX3_beginE 5 = .ok (.aload_n 0, 1) := by decide +kernel
theorem dX3_beginE_6 : decode cX3_beginE 6 = .ok (.iconst 1, 1) := by decide +kernel
theorem dX3_beginE_7 : decode cX3_beginE 7 = .ok (.putfield 181, 3) := by decide +kernel
theorem dX3_beginE_10 : decode cX3_beginE 10 = .ok (.aload_n 0, 1) := by decide +kernel
theorem dX3_beginE_11 : decode cX3_beginE 11 = .ok (.iconst 1, 1) := by decide +kernel
theorem dX3_beginE_12 : decode cX3_beginE 12 = .ok (.putfield 191, 3) := by decide +kernel
theorem dX3_beginE_15 : decode cX3_beginE 15 = .ok (.return_, 1) := by decide +kernel
abbrev rm_X3_beginE : Room := { frames := 0, cells := 0, slots := 0, locals := 0 }
def f_X3_beginE (S : St) (x1 : Int32) : Option (St) :=
  lt_v (up_I S (ky 1 10) x1) (fun (S1 : St) => lt_v (up_I S1 (ky 1 11) (1 : Int32)) (fun (S2 : St) => lt_v (up_I S2 (ky 1 12) (1 : Int32)) (fun (S3 : St) => some S3)))
set_option maxRecDepth 100000 in
set_option maxHeartbeats 4000000 in
theorem k_X3_beginE (l : Launch) (g : GG) (hg : gd wd_C g)  (h1 : hs wd_C g 1 3) (S : St) (x1 : Int32) (q : St) (hf : f_X3_beginE  S x1 = some q) : Met l yX3_beginE (Cond.code yX3_beginE cX3_beginE 2 none :: gw_tbl) rm_X3_beginE (va_Pc [.ref (gg_o g 1), .int x1] (wI wd_C g S)) (qc_v wd_C g q) 0 0 (aw g) := by
  refine mt_start (own := RX3) hg (by decide) rfl (Nat.le_of_ble_eq_true rfl) (fun p e s m args below meth c ls H locs cx hw hr hlk hl => ?_)
  have hx := cx.1
  have hb := cx.2.1
  have hown := cx.2.2.2.1
  have hts := cx.2.2.2.2.1
  have hl : lv_has ls 2 [(0, .ref (gg_o g 1)), (1, .int x1)] := hl
  replace hf := h_top hf
  unfold f_X3_beginE at hf
  refine lv_aload_n hx hb dX3_beginE_0 rfl (lv_at hl 0 rfl) ?_
  refine lv_iload_n hx hb dX3_beginE_1 rfl (lv_at hl 1 rfl) ?_
  refine pf_X3_168 cx hw h1 hf dX3_beginE_2 (fun S1 H locs hw hf => ?_)
  refine lv_aload_n hx hb dX3_beginE_5 rfl (lv_at hl 0 rfl) ?_
  refine lv_iconst (v := 1) hx hb dX3_beginE_6 (by decide) ?_
  refine pf_X3_181 cx hw h1 (Or.inr rfl) hf dX3_beginE_7 (fun S2 H locs hw hf => ?_)
  refine lv_aload_n hx hb dX3_beginE_10 rfl (lv_at hl 0 rfl) ?_
  refine lv_iconst (v := 1) hx hb dX3_beginE_11 (by decide) ?_
  refine pf_X3_191 cx hw h1 (Or.inr rfl) hf dX3_beginE_12 (fun S3 H locs hw hf => ?_)
  exact r_vret cx hw hr hlk hf dX3_beginE_15
theorem dX3_unitBegins_0 : decode cX3_unitBegins 0 = .ok (.iload_n 1, 1) := by decide +kernel
theorem dX3_unitBegins_1 : decode cX3_unitBegins 1 = .ok (.sipush 208, 3) := by decide +kernel
theorem dX3_unitBegins_4 : decode cX3_unitBegins 4 = .ok (.if_icmp .ne 35, 3) := by decide +kernel
theorem dX3_unitBegins_7 : decode cX3_unitBegins 7 = .ok (.aload_n 0, 1) := by decide +kernel
theorem dX3_unitBegins_8 : decode cX3_unitBegins 8 = .ok (.getfield 168, 3) := by decide +kernel
theorem dX3_unitBegins_11 : decode cX3_unitBegins 11 = .ok (.iconst 4, 1) := by decide +kernel
theorem dX3_unitBegins_12 : decode cX3_unitBegins 12 = .ok (.if_icmp .ne 27, 3) := by decide +kernel
theorem dX3_unitBegins_15 : decode cX3_unitBegins 15 = .ok (.aload_n 0, 1) := by decide +kernel
theorem dX3_unitBegins_16 : decode cX3_unitBegins 16 = .ok (.getfield 191, 3) := by decide +kernel
theorem dX3_unitBegins_19 : decode cX3_unitBegins 19 = .ok (.ifCond .eq 20, 3) := by decide +kernel
theorem dX3_unitBegins_22 : decode cX3_unitBegins 22 = .ok (.aload_n 0, 1) := by decide +kernel
theorem dX3_unitBegins_23 : decode cX3_unitBegins 23 = .ok (.dup, 1) := by decide +kernel
theorem dX3_unitBegins_24 : decode cX3_unitBegins 24 = .ok (.getfield 174, 3) := by decide +kernel
theorem dX3_unitBegins_27 : decode cX3_unitBegins 27 = .ok (.iconst 1, 1) := by decide +kernel
theorem dX3_unitBegins_28 : decode cX3_unitBegins 28 = .ok (.iadd, 1) := by decide +kernel
theorem dX3_unitBegins_29 : decode cX3_unitBegins 29 = .ok (.putfield 174, 3) := by decide +kernel
theorem dX3_unitBegins_32 : decode cX3_unitBegins 32 = .ok (.aload_n 0, 1) := by decide +kernel
theorem dX3_unitBegins_33 : decode cX3_unitBegins 33 = .ok (.iconst 1, 1) := by decide +kernel
theorem dX3_unitBegins_34 : decode cX3_unitBegins 34 = .ok (.invokevirtual 177, 3) := by decide +kernel
theorem dX3_unitBegins_37 : decode cX3_unitBegins 37 = .ok (.iconst 1, 1) := by decide +kernel
theorem dX3_unitBegins_38 : decode cX3_unitBegins 38 = .ok (.ireturn, 1) := by decide +kernel
theorem dX3_unitBegins_39 : decode cX3_unitBegins 39 = .ok (.aload_n 0, 1) := by decide +kernel
theorem dX3_unitBegins_40 : decode cX3_unitBegins 40 = .ok (.iconst 0, 1) := by decide +kernel
theorem dX3_unitBegins_41 : decode cX3_unitBegins 41 = .ok (.putfield 191, 3) := by decide +kernel
theorem dX3_unitBegins_44 : decode cX3_unitBegins 44 = .ok (.iload_n 1, 1) := by decide +kernel
theorem dX3_unitBegins_45 : decode cX3_unitBegins 45 = .ok (.bipush 40, 2) := by decide +kernel
theorem dX3_unitBegins_47 : decode cX3_unitBegins 47 = .ok (.if_icmp .ne 15, 3) := by decide +kernel
theorem dX3_unitBegins_50 : decode cX3_unitBegins 50 = .ok (.aload_n 0, 1) := by decide +kernel
theorem dX3_unitBegins_51 : decode cX3_unitBegins 51 = .ok (.dup, 1) := by decide +kernel
theorem dX3_unitBegins_52 : decode cX3_unitBegins 52 = .ok (.getfield 171, 3) := by decide +kernel
theorem dX3_unitBegins_55 : decode cX3_unitBegins 55 = .ok (.iconst 1, 1) := by decide +kernel
theorem dX3_unitBegins_56 : decode cX3_unitBegins 56 = .ok (.iadd, 1) := by decide +kernel
theorem dX3_unitBegins_57 : decode cX3_unitBegins 57 = .ok (.putfield 171, 3) := by decide +kernel
theorem dX3_unitBegins_60 : decode cX3_unitBegins 60 = .ok (.iconst 1, 1) := by decide +kernel
theorem dX3_unitBegins_61 : decode cX3_unitBegins 61 = .ok (.ireturn, 1) := by decide +kernel
theorem dX3_unitBegins_62 : decode cX3_unitBegins 62 = .ok (.aload_n 0, 1) := by decide +kernel
theorem dX3_unitBegins_63 : decode cX3_unitBegins 63 = .ok (.iconst 0, 1) := by decide +kernel
theorem dX3_unitBegins_64 : decode cX3_unitBegins 64 = .ok (.putfield 181, 3) := by decide +kernel
theorem dX3_unitBegins_67 : decode cX3_unitBegins 67 = .ok (.iload_n 1, 1) := by decide +kernel
theorem dX3_unitBegins_68 : decode cX3_unitBegins 68 = .ok (.iconst 2, 1) := by decide +kernel
theorem dX3_unitBegins_69 : decode cX3_unitBegins 69 = .ok (.if_icmp .eq 10, 3) := by decide +kernel
theorem dX3_unitBegins_72 : decode cX3_unitBegins 72 = .ok (.iload_n 1, 1) := by decide +kernel
theorem dX3_unitBegins_73 : decode cX3_unitBegins 73 = .ok (.sipush 211, 3) := by decide +kernel
theorem dX3_unitBegins_76 : decode cX3_unitBegins 76 = .ok (.if_icmp .lt 7, 3) := by decide +kernel
theorem dX3_unitBegins_79 : decode cX3_unitBegins 79 = .ok (.iconst 1, 1) := by decide +kernel
theorem dX3_unitBegins_80 : decode cX3_unitBegins 80 = .ok (.goto 4, 3) := by decide +kernel
theorem dX3_unitBegins_83 : decode cX3_unitBegins 83 = .ok (.iconst 0, 1) := by decide +kernel
theorem dX3_unitBegins_84 : decode cX3_unitBegins 84 = .ok (.ireturn, 1) := by decide +kernel
abbrev rm_X3_unitBegins : Room := { frames := 1, cells := 0, slots := 0, locals := 21 }
def f_X3_unitBegins_J39 (S : St) (x1 : Int32) : Option (Int32 × St) :=
  lt_v (up_I S (ky 1 12) (0 : Int32)) (fun (S2 : St) => if x1 = (40 : Int32) then (lt_v (up_I S2 (ky 1 13) ((st_I S2 (ky 1 13)) + (1 : Int32))) (fun (S7 : St) => some ((1 : Int32), S7))) else (lt_v (up_I S2 (ky 1 11) (0 : Int32)) (fun (S4 : St) => if x1 = (2 : Int32) then (some ((1 : Int32), S4)) else (if x1 < (211 : Int32) then (some ((0 : Int32), S4)) else (some ((1 : Int32), S4))))))
def f_X3_unitBegins (S : St) (x1 : Int32) : Option (Int32 × St) :=
  if x1 = (208 : Int32) then (if (st_I S (ky 1 10)) = (4 : Int32) then (if (st_I S (ky 1 12)) = 0 then (f_X3_unitBegins_J39  S x1) else (lt_v (up_I S (ky 1 14) ((st_I S (ky 1 14)) + (1 : Int32))) (fun (S10 : St) => (f_X3_beginE  S10 (1 : Int32)).bind (fun (q11 : St) => some ((1 : Int32), q11))))) else (f_X3_unitBegins_J39  S x1)) else (f_X3_unitBegins_J39  S x1)
set_option maxRecDepth 100000 in
set_option maxHeartbeats 4000000 in
theorem k_X3_unitBegins (l : Launch) (g : GG) (hg : gd wd_C g)  (h1 : hs wd_C g 1 3) (S : St) (x1 : Int32) (q : Int32 × St) (hf : f_X3_unitBegins  S x1 = some q) : Met l yX3_unitBegins (Cond.code yX3_unitBegins cX3_unitBegins 2 (some .boolean) :: gw_tbl) rm_X3_unitBegins (va_Pc [.ref (gg_o g 1), .int x1] (wI wd_C g S)) (qc_w wd_C g q) 0 0 (aw g) := by
  refine mt_start (own := RX3) hg (by decide) rfl (Nat.le_of_ble_eq_true rfl) (fun p e s m args below meth c ls H locs cx hw hr hlk hl => ?_)
  have hx := cx.1
  have hb := cx.2.1
  have hown := cx.2.2.2.1
  have hts := cx.2.2.2.2.1
  have hl : lv_has ls 2 [(0, .ref (gg_o g 1)), (1, .int x1)] := hl
  replace hf := h_top hf
  unfold f_X3_unitBegins at hf
  have J39 : ∀ (ls : Array Slot) (H : Heap) (locs : List Loc) (S : St) (x1 : Int32), lv_has ls 2 [(0, .ref (gg_o g 1)), (1, .int x1)] → HH wd_C g s S H locs → (f_X3_unitBegins_J39  S x1).bind some = some q → W p l e rm_X3_unitBegins s m args below meth c H locs 0 0 (MQ below (qc_w wd_C g q) args s 0 0 (aw g)) (F0 m 39 ls []) := by
    intro ls H locs S x1 hl hw hf
    unfold f_X3_unitBegins_J39 at hf
    refine lv_aload_n hx hb dX3_unitBegins_39 rfl (lv_at hl 0 rfl) ?_
    refine lv_iconst (v := 0) hx hb dX3_unitBegins_40 (by decide) ?_
    refine pf_X3_191 cx hw h1 (Or.inl rfl) hf dX3_unitBegins_41 (fun S2 H locs hw hf => ?_)
    refine lv_iload_n hx hb dX3_unitBegins_44 rfl (lv_at hl 1 rfl) ?_
    refine lv_bipush (v := 40) hx hb dX3_unitBegins_45 (by decide) ?_
    refine lv_icmp_ne hx hb dX3_unitBegins_47 (tgt := 62) rfl (fun hc3 => ?_) (fun hc3 => ?_)
    · replace hf := h_neg hc3 hf
      refine lv_aload_n hx hb dX3_unitBegins_62 rfl (lv_at hl 0 rfl) ?_
      refine lv_iconst (v := 0) hx hb dX3_unitBegins_63 (by decide) ?_
      refine pf_X3_181 cx hw h1 (Or.inl rfl) hf dX3_unitBegins_64 (fun S4 H locs hw hf => ?_)
      refine lv_iload_n hx hb dX3_unitBegins_67 rfl (lv_at hl 1 rfl) ?_
      refine lv_iconst (v := 2) hx hb dX3_unitBegins_68 (by decide) ?_
      refine lv_icmp_eq hx hb dX3_unitBegins_69 (tgt := 79) rfl (fun hc5 => ?_) (fun hc5 => ?_)
      · replace hf := h_pos hc5 hf
        refine lv_iconst (v := 1) hx hb dX3_unitBegins_79 (by decide) ?_
        refine lv_goto hx hb dX3_unitBegins_80 (tgt := 84) rfl ?_
        exact r_zretw cx hw hr hlk (Or.inr rfl) hf dX3_unitBegins_84
      replace hf := h_neg hc5 hf
      refine lv_iload_n hx hb dX3_unitBegins_72 rfl (lv_at hl 1 rfl) ?_
      refine lv_sipush (v := 211) hx hb dX3_unitBegins_73 (by decide) ?_
      refine lv_icmp_lt hx hb dX3_unitBegins_76 (tgt := 83) rfl (fun hc6 => ?_) (fun hc6 => ?_)
      · replace hf := h_pos hc6 hf
        refine lv_iconst (v := 0) hx hb dX3_unitBegins_83 (by decide) ?_
        exact r_zretw cx hw hr hlk (Or.inl rfl) hf dX3_unitBegins_84
      replace hf := h_neg hc6 hf
      refine lv_iconst (v := 1) hx hb dX3_unitBegins_79 (by decide) ?_
      refine lv_goto hx hb dX3_unitBegins_80 (tgt := 84) rfl ?_
      exact r_zretw cx hw hr hlk (Or.inr rfl) hf dX3_unitBegins_84
    replace hf := h_pos hc3 hf
    refine lv_aload_n hx hb dX3_unitBegins_50 rfl (lv_at hl 0 rfl) ?_
    refine lv_dup hx hb dX3_unitBegins_51 rfl ?_
    refine gf_X3_171 cx hw h1 dX3_unitBegins_52 ?_
    refine lv_iconst (v := 1) hx hb dX3_unitBegins_55 (by decide) ?_
    refine lv_iadd hx hb dX3_unitBegins_56 ?_
    refine pf_X3_171 cx hw h1 hf dX3_unitBegins_57 (fun S7 H locs hw hf => ?_)
    refine lv_iconst (v := 1) hx hb dX3_unitBegins_60 (by decide) ?_
    exact r_zretw cx hw hr hlk (Or.inr rfl) hf dX3_unitBegins_61
  refine lv_iload_n hx hb dX3_unitBegins_0 rfl (lv_at hl 1 rfl) ?_
  refine lv_sipush (v := 208) hx hb dX3_unitBegins_1 (by decide) ?_
  refine lv_icmp_ne hx hb dX3_unitBegins_4 (tgt := 39) rfl (fun hc1 => ?_) (fun hc1 => ?_)
  · replace hf := h_neg hc1 hf
    exact J39 _ _ _ S x1 (lv_sub hl [0, 1] rfl) hw hf
  replace hf := h_pos hc1 hf
  refine lv_aload_n hx hb dX3_unitBegins_7 rfl (lv_at hl 0 rfl) ?_
  refine gf_X3_168 cx hw h1 dX3_unitBegins_8 ?_
  refine lv_iconst (v := 4) hx hb dX3_unitBegins_11 (by decide) ?_
  refine lv_icmp_ne hx hb dX3_unitBegins_12 (tgt := 39) rfl (fun hc8 => ?_) (fun hc8 => ?_)
  · replace hf := h_neg hc8 hf
    exact J39 _ _ _ S x1 (lv_sub hl [0, 1] rfl) hw hf
  replace hf := h_pos hc8 hf
  refine lv_aload_n hx hb dX3_unitBegins_15 rfl (lv_at hl 0 rfl) ?_
  refine gf_X3_191 cx hw h1 dX3_unitBegins_16 ?_
  refine lv_if_eq hx hb dX3_unitBegins_19 (tgt := 39) rfl (fun hc9 => ?_) (fun hc9 => ?_)
  · replace hf := h_pos hc9 hf
    exact J39 _ _ _ S x1 (lv_sub hl [0, 1] rfl) hw hf
  replace hf := h_neg hc9 hf
  refine lv_aload_n hx hb dX3_unitBegins_22 rfl (lv_at hl 0 rfl) ?_
  refine lv_dup hx hb dX3_unitBegins_23 rfl ?_
  refine gf_X3_174 cx hw h1 dX3_unitBegins_24 ?_
  refine lv_iconst (v := 1) hx hb dX3_unitBegins_27 (by decide) ?_
  refine lv_iadd hx hb dX3_unitBegins_28 ?_
  refine pf_X3_174 cx hw h1 hf dX3_unitBegins_29 (fun S10 H locs hw hf => ?_)
  refine lv_aload_n hx hb dX3_unitBegins_32 rfl (lv_at hl 0 rfl) ?_
  refine lv_iconst (v := 1) hx hb dX3_unitBegins_33 (by decide) ?_
  refine r_V_v (As := [.int (1 : Int32)]) (rest := []) cx hw hf h1.2.1 (by rw [h1.1]; rfl) lk_X3_177 (fun q11 hq => k_X3_beginE l g hg  h1 S10 (1 : Int32) q11 hq) ⟨⟨rfl, rfl⟩, Nat.le_of_ble_eq_true rfl, Nat.le_of_ble_eq_true rfl⟩ rfl hl.1 rfl (Nat.le_of_ble_eq_true rfl) dX3_unitBegins_34 ⟨Nat.zero_le _, Nat.zero_le _⟩ (fun q11 H locs hw hf => ?_)
  refine lv_iconst (v := 1) hx hb dX3_unitBegins_37 (by decide) ?_
  exact r_zretw cx hw hr hlk (Or.inr rfl) hf dX3_unitBegins_38
theorem dX3_partEnds_0 : decode cX3_partEnds 0 = .ok (.aload_n 0, 1) := by decide +kernel
theorem dX3_partEnds_1 : decode cX3_partEnds 1 = .ok (.getfield 168, 3) := by decide +kernel
theorem dX3_partEnds_4 : decode cX3_partEnds 4 = .ok (.tableswitch 81 1 3 #[28, 45, 63], 28) := by decide +kernel
theorem dX3_partEnds_32 : decode cX3_partEnds 32 = .ok (.aload_n 0, 1) := by decide +kernel
theorem dX3_partEnds_33 : decode cX3_partEnds 33 = .ok (.iconst 2, 1) := by decide +kernel
theorem dX3_partEnds_34 : decode cX3_partEnds 34 = .ok (.invokevirtual 177, 3) := by decide +kernel
theorem dX3_partEnds_37 : decode cX3_partEnds 37 = .ok (.iload_n 1, 1) := by decide +kernel
theorem dX3_partEnds_38 : decode cX3_partEnds 38 = .ok (.bipush 60, 2) := by decide +kernel
theorem dX3_partEnds_40 : decode cX3_partEnds 40 = .ok (.if_icmp .ne 7, 3) := by decide +kernel
theorem dX3_partEnds_43 : decode cX3_partEnds 43 = .ok (.iconst 1, 1) := by decide +kernel
theorem dX3_partEnds_44 : decode cX3_partEnds 44 = .ok (.goto 4, 3) := by decide +kernel
theorem dX3_partEnds_47 : decode cX3_partEnds 47 = .ok (.iconst 0, 1) := by decide +kernel
theorem dX3_partEnds_48 : decode cX3_partEnds 48 = .ok (.ireturn, 1) := by decide +kernel
theorem dX3_partEnds_49 : decode cX3_partEnds 49 = .ok (.aload_n 0, 1) := by decide +kernel
theorem dX3_partEnds_50 : decode cX3_partEnds 50 = .ok (.iconst 3, 1) := by decide +kernel
theorem dX3_partEnds_51 : decode cX3_partEnds 51 = .ok (.invokevirtual 177, 3) := by decide +kernel
theorem dX3_partEnds_54 : decode cX3_partEnds 54 = .ok (.iload_n 1, 1) := by decide +kernel
theorem dX3_partEnds_55 : decode cX3_partEnds 55 = .ok (.sipush 209, 3) := by decide +kernel
theorem dX3_partEnds_58 : decode cX3_partEnds 58 = .ok (.if_icmp .ne 7, 3) := by decide +kernel
theorem dX3_partEnds_61 : decode cX3_partEnds 61 = .ok (.iconst 1, 1) := by decide +kernel
theorem dX3_partEnds_62 : decode cX3_partEnds 62 = .ok (.goto 4, 3) := by decide +kernel
theorem dX3_partEnds_65 : decode cX3_partEnds 65 = .ok (.iconst 0, 1) := by decide +kernel
theorem dX3_partEnds_66 : decode cX3_partEnds 66 = .ok (.ireturn, 1) := by decide +kernel
theorem dX3_partEnds_67 : decode cX3_partEnds 67 = .ok (.aload_n 0, 1) := by decide +kernel
theorem dX3_partEnds_68 : decode cX3_partEnds 68 = .ok (.iconst 4, 1) := by decide +kernel
theorem dX3_partEnds_69 : decode cX3_partEnds 69 = .ok (.invokevirtual 177, 3) := by decide +kernel
theorem dX3_partEnds_72 : decode cX3_partEnds 72 = .ok (.iload_n 1, 1) := by decide +kernel
theorem dX3_partEnds_73 : decode cX3_partEnds 73 = .ok (.sipush 210, 3) := by decide +kernel
theorem dX3_partEnds_76 : decode cX3_partEnds 76 = .ok (.if_icmp .ne 7, 3) := by decide +kernel
theorem dX3_partEnds_79 : decode cX3_partEnds 79 = .ok (.iconst 1, 1) := by decide +kernel
theorem dX3_partEnds_80 : decode cX3_partEnds 80 = .ok (.goto 4, 3) := by decide +kernel
theorem dX3_partEnds_83 : decode cX3_partEnds 83 = .ok (.iconst 0, 1) := by decide +kernel
theorem dX3_partEnds_84 : decode cX3_partEnds 84 = .ok (.ireturn, 1) := by decide +kernel
theorem dX3_partEnds_85 : decode cX3_partEnds 85 = .ok (.aload_n 0, 1) := by decide +kernel
theorem dX3_partEnds_86 : decode cX3_partEnds 86 = .ok (.iconst (-1), 1) := by decide +kernel
theorem dX3_partEnds_87 : decode cX3_partEnds 87 = .ok (.putfield 95, 3) := by decide +kernel
theorem dX3_partEnds_90 : decode cX3_partEnds 90 = .ok (.iload_n 1, 1) := by decide +kernel
theorem dX3_partEnds_91 : decode cX3_partEnds 91 = .ok (.bipush 59, 2) := by decide +kernel
theorem dX3_partEnds_93 : decode cX3_partEnds 93 = .ok (.if_icmp .ne 7, 3) := by decide +kernel
theorem dX3_partEnds_96 : decode cX3_partEnds 96 = .ok (.iconst 1, 1) := by decide +kernel
theorem dX3_partEnds_97 : decode cX3_partEnds 97 = .ok (.goto 4, 3) := by decide +kernel
theorem dX3_partEnds_100 : decode cX3_partEnds 100 = .ok (.iconst 0, 1) := by decide +kernel
theorem dX3_partEnds_101 : decode cX3_partEnds 101 = .ok (.ireturn, 1) := by decide +kernel
abbrev rm_X3_partEnds : Room := { frames := 1, cells := 0, slots := 0, locals := 21 }
def f_X3_partEnds (S : St) (x1 : Int32) : Option (Int32 × St) :=
  if (st_I S (ky 1 10)) = 1 then ((f_X3_beginE  S (2 : Int32)).bind (fun (q2 : St) => if x1 = (60 : Int32) then (some ((1 : Int32), q2)) else (some ((0 : Int32), q2)))) else (if (st_I S (ky 1 10)) = 2 then ((f_X3_beginE  S (3 : Int32)).bind (fun (q4 : St) => if x1 = (209 : Int32) then (some ((1 : Int32), q4)) else (some ((0 : Int32), q4)))) else (if (st_I S (ky 1 10)) = 3 then ((f_X3_beginE  S (4 : Int32)).bind (fun (q6 : St) => if x1 = (210 : Int32) then (some ((1 : Int32), q6)) else (some ((0 : Int32), q6)))) else (lt_v (up_I S (ky 1 8) (-1 : Int32)) (fun (S8 : St) => if x1 = (59 : Int32) then (some ((1 : Int32), S8)) else (some ((0 : Int32), S8))))))
set_option maxRecDepth 100000 in
set_option maxHeartbeats 4000000 in
theorem k_X3_partEnds (l : Launch) (g : GG) (hg : gd wd_C g)  (h1 : hs wd_C g 1 3) (S : St) (x1 : Int32) (q : Int32 × St) (hf : f_X3_partEnds  S x1 = some q) : Met l yX3_partEnds (Cond.code yX3_partEnds cX3_partEnds 2 (some .boolean) :: gw_tbl) rm_X3_partEnds (va_Pc [.ref (gg_o g 1), .int x1] (wI wd_C g S)) (qc_w wd_C g q) 0 0 (aw g) := by
  refine mt_start (own := RX3) hg (by decide) rfl (Nat.le_of_ble_eq_true rfl) (fun p e s m args below meth c ls H locs cx hw hr hlk hl => ?_)
  have hx := cx.1
  have hb := cx.2.1
  have hown := cx.2.2.2.1
  have hts := cx.2.2.2.2.1
  have hl : lv_has ls 2 [(0, .ref (gg_o g 1)), (1, .int x1)] := hl
  replace hf := h_top hf
  unfold f_X3_partEnds at hf
  refine lv_aload_n hx hb dX3_partEnds_0 rfl (lv_at hl 0 rfl) ?_
  refine gf_X3_168 cx hw h1 dX3_partEnds_1 ?_
  by_cases hc1_1 : (st_I S (ky 1 10)) = 1
  · replace hf := h_pos hc1_1 hf
    refine lv_tableIn hx hb dX3_partEnds_4 (by rw [hc1_1]; decide) (by rw [hc1_1]; decide) (off := 28) (by rw [hc1_1]; rfl) (tgt := 32) rfl ?_
    refine lv_aload_n hx hb dX3_partEnds_32 rfl (lv_at hl 0 rfl) ?_
    refine lv_iconst (v := 2) hx hb dX3_partEnds_33 (by decide) ?_
    refine r_V_v (As := [.int (2 : Int32)]) (rest := []) cx hw hf h1.2.1 (by rw [h1.1]; rfl) lk_X3_177 (fun q2 hq => k_X3_beginE l g hg  h1 S (2 : Int32) q2 hq) ⟨⟨rfl, rfl⟩, Nat.le_of_ble_eq_true rfl, Nat.le_of_ble_eq_true rfl⟩ rfl hl.1 rfl (Nat.le_of_ble_eq_true rfl) dX3_partEnds_34 ⟨Nat.zero_le _, Nat.zero_le _⟩ (fun q2 H locs hw hf => ?_)
    refine lv_iload_n hx hb dX3_partEnds_37 rfl (lv_at hl 1 rfl) ?_
    refine lv_bipush (v := 60) hx hb dX3_partEnds_38 (by decide) ?_
    refine lv_icmp_ne hx hb dX3_partEnds_40 (tgt := 47) rfl (fun hc3 => ?_) (fun hc3 => ?_)
    · replace hf := h_neg hc3 hf
      refine lv_iconst (v := 0) hx hb dX3_partEnds_47 (by decide) ?_
      exact r_zretw cx hw hr hlk (Or.inl rfl) hf dX3_partEnds_48
    replace hf := h_pos hc3 hf
    refine lv_iconst (v := 1) hx hb dX3_partEnds_43 (by decide) ?_
    refine lv_goto hx hb dX3_partEnds_44 (tgt := 48) rfl ?_
    exact r_zretw cx hw hr hlk (Or.inr rfl) hf dX3_partEnds_48
  replace hf := h_neg hc1_1 hf
  by_cases hc1_2 : (st_I S (ky 1 10)) = 2
  · replace hf := h_pos hc1_2 hf
    refine lv_tableIn hx hb dX3_partEnds_4 (by rw [hc1_2]; decide) (by rw [hc1_2]; decide) (off := 45) (by rw [hc1_2]; rfl) (tgt := 49) rfl ?_
    refine lv_aload_n hx hb dX3_partEnds_49 rfl (lv_at hl 0 rfl) ?_
    refine lv_iconst (v := 3) hx hb dX3_partEnds_50 (by decide) ?_
    refine r_V_v (As := [.int (3 : Int32)]) (rest := []) cx hw hf h1.2.1 (by rw [h1.1]; rfl) lk_X3_177 (fun q4 hq => k_X3_beginE l g hg  h1 S (3 : Int32) q4 hq) ⟨⟨rfl, rfl⟩, Nat.le_of_ble_eq_true rfl, Nat.le_of_ble_eq_true rfl⟩ rfl hl.1 rfl (Nat.le_of_ble_eq_true rfl) dX3_partEnds_51 ⟨Nat.zero_le _, Nat.zero_le _⟩ (fun q4 H locs hw hf => ?_)
    refine lv_iload_n hx hb dX3_partEnds_54 rfl (lv_at hl 1 rfl) ?_
    refine lv_sipush (v := 209) hx hb dX3_partEnds_55 (by decide) ?_
    refine lv_icmp_ne hx hb dX3_partEnds_58 (tgt := 65) rfl (fun hc5 => ?_) (fun hc5 => ?_)
    · replace hf := h_neg hc5 hf
      refine lv_iconst (v := 0) hx hb dX3_partEnds_65 (by decide) ?_
      exact r_zretw cx hw hr hlk (Or.inl rfl) hf dX3_partEnds_66
    replace hf := h_pos hc5 hf
    refine lv_iconst (v := 1) hx hb dX3_partEnds_61 (by decide) ?_
    refine lv_goto hx hb dX3_partEnds_62 (tgt := 66) rfl ?_
    exact r_zretw cx hw hr hlk (Or.inr rfl) hf dX3_partEnds_66
  replace hf := h_neg hc1_2 hf
  by_cases hc1_3 : (st_I S (ky 1 10)) = 3
  · replace hf := h_pos hc1_3 hf
    refine lv_tableIn hx hb dX3_partEnds_4 (by rw [hc1_3]; decide) (by rw [hc1_3]; decide) (off := 63) (by rw [hc1_3]; rfl) (tgt := 67) rfl ?_
    refine lv_aload_n hx hb dX3_partEnds_67 rfl (lv_at hl 0 rfl) ?_
    refine lv_iconst (v := 4) hx hb dX3_partEnds_68 (by decide) ?_
    refine r_V_v (As := [.int (4 : Int32)]) (rest := []) cx hw hf h1.2.1 (by rw [h1.1]; rfl) lk_X3_177 (fun q6 hq => k_X3_beginE l g hg  h1 S (4 : Int32) q6 hq) ⟨⟨rfl, rfl⟩, Nat.le_of_ble_eq_true rfl, Nat.le_of_ble_eq_true rfl⟩ rfl hl.1 rfl (Nat.le_of_ble_eq_true rfl) dX3_partEnds_69 ⟨Nat.zero_le _, Nat.zero_le _⟩ (fun q6 H locs hw hf => ?_)
    refine lv_iload_n hx hb dX3_partEnds_72 rfl (lv_at hl 1 rfl) ?_
    refine lv_sipush (v := 210) hx hb dX3_partEnds_73 (by decide) ?_
    refine lv_icmp_ne hx hb dX3_partEnds_76 (tgt := 83) rfl (fun hc7 => ?_) (fun hc7 => ?_)
    · replace hf := h_neg hc7 hf
      refine lv_iconst (v := 0) hx hb dX3_partEnds_83 (by decide) ?_
      exact r_zretw cx hw hr hlk (Or.inl rfl) hf dX3_partEnds_84
    replace hf := h_pos hc7 hf
    refine lv_iconst (v := 1) hx hb dX3_partEnds_79 (by decide) ?_
    refine lv_goto hx hb dX3_partEnds_80 (tgt := 84) rfl ?_
    exact r_zretw cx hw hr hlk (Or.inr rfl) hf dX3_partEnds_84
  replace hf := h_neg hc1_3 hf
  have hD4 : W p l e rm_X3_partEnds s m args below meth c H locs 0 0 (MQ below (qc_w wd_C g q) args s 0 0 (aw g)) (F0 m 85 ls []) := by
    refine lv_aload_n hx hb dX3_partEnds_85 rfl (lv_at hl 0 rfl) ?_
    refine lv_iconst (v := -1) hx hb dX3_partEnds_86 (by decide) ?_
    refine pf_X3_95 cx hw h1 hf dX3_partEnds_87 (fun S8 H locs hw hf => ?_)
    refine lv_iload_n hx hb dX3_partEnds_90 rfl (lv_at hl 1 rfl) ?_
    refine lv_bipush (v := 59) hx hb dX3_partEnds_91 (by decide) ?_
    refine lv_icmp_ne hx hb dX3_partEnds_93 (tgt := 100) rfl (fun hc9 => ?_) (fun hc9 => ?_)
    · replace hf := h_neg hc9 hf
      refine lv_iconst (v := 0) hx hb dX3_partEnds_100 (by decide) ?_
      exact r_zretw cx hw hr hlk (Or.inl rfl) hf dX3_partEnds_101
    replace hf := h_pos hc9 hf
    refine lv_iconst (v := 1) hx hb dX3_partEnds_96 (by decide) ?_
    refine lv_goto hx hb dX3_partEnds_97 (tgt := 101) rfl ?_
    exact r_zretw cx hw hr hlk (Or.inr rfl) hf dX3_partEnds_101
  refine lv_tableOut hx hb dX3_partEnds_4 (ts_out (lo := 1) (hi := 3) (by decide) (by decide) (fun i h1 h2 => ?_)) (tgt := 85) rfl hD4
  rcases (show i = 1 ∨ i = 2 ∨ i = 3 by omega) with rfl | rfl | rfl
  · exact hc1_1
  · exact hc1_2
  · exact hc1_3
theorem dX3_unitEnded_0 : decode cX3_unitEnded 0 = .ok (.iload_n 1, 1) := by decide +kernel
theorem dX3_unitEnded_1 : decode cX3_unitEnded 1 = .ok (.bipush 43, 2) := by decide +kernel
theorem dX3_unitEnded_3 : decode cX3_unitEnded 3 = .ok (.if_icmp .eq 21, 3) := by decide +kernel
theorem dX3_unitEnded_6 : decode cX3_unitEnded 6 = .ok (.iload_n 1, 1) := by decide +kernel
theorem dX3_unitEnded_7 : decode cX3_unitEnded 7 = .ok (.bipush 45, 2) := by decide +kernel
theorem dX3_unitEnded_9 : decode cX3_unitEnded 9 = .ok (.if_icmp .eq 15, 3) := by decide +kernel
theorem dX3_unitEnded_12 : decode cX3_unitEnded 12 = .ok (.iload_n 1, 1) := by decide +kernel
theorem dX3_unitEnded_13 : decode cX3_unitEnded 13 = .ok (.bipush 42, 2) := by decide +kernel
theorem dX3_unitEnded_15 : decode cX3_unitEnded 15 = .ok (.if_icmp .eq 9, 3) := by decide +kernel
theorem dX3_unitEnded_18 : decode cX3_unitEnded 18 = .ok (.iload_n 1, 1) := by decide +kernel
theorem dX3_unitEnded_19 : decode cX3_unitEnded 19 = .ok (.bipush 47, 2) := by decide +kernel
theorem dX3_unitEnded_21 : decode cX3_unitEnded 21 = .ok (.if_icmp .ne 10, 3) := by decide +kernel
theorem dX3_unitEnded_24 : decode cX3_unitEnded 24 = .ok (.aload_n 0, 1) := by decide +kernel
theorem dX3_unitEnded_25 : decode cX3_unitEnded 25 = .ok (.iconst 1, 1) := by decide +kernel
theorem dX3_unitEnded_26 : decode cX3_unitEnded 26 = .ok (.putfield 181, 3) := by decide +kernel
theorem dX3_unitEnded_29 : decode cX3_unitEnded 29 = .ok (.iconst 1, 1) := by decide +kernel
theorem dX3_unitEnded_30 : decode cX3_unitEnded 30 = .ok (.ireturn, 1) := by decide +kernel
theorem dX3_unitEnded_31 : decode cX3_unitEnded 31 = .ok (.iload_n 1, 1) := by decide +kernel
theorem dX3_unitEnded_32 : decode cX3_unitEnded 32 = .ok (.bipush 41, 2) := by decide +kernel
theorem dX3_unitEnded_34 : decode cX3_unitEnded 34 = .ok (.if_icmp .ne 26, 3) := by decide +kernel
theorem dX3_unitEnded_37 : decode cX3_unitEnded 37 = .ok (.aload_n 0, 1) := by decide +kernel
theorem dX3_unitEnded_38 : decode cX3_unitEnded 38 = .ok (.dup, 1) := by decide +kernel
theorem dX3_unitEnded_39 : decode cX3_unitEnded 39 = .ok (.getfield 171, 3) := by decide +kernel
theorem dX3_unitEnded_42 : decode cX3_unitEnded 42 = .ok (.iconst 1, 1) := by decide +kernel
theorem dX3_unitEnded_43 : decode cX3_unitEnded 43 = .ok (.isub, 1) := by decide +kernel
theorem dX3_unitEnded_44 : decode cX3_unitEnded 44 = .ok (.putfield 171, 3) := by decide +kernel
theorem dX3_unitEnded_47 : decode cX3_unitEnded 47 = .ok (.aload_n 0, 1) := by decide +kernel
theorem dX3_unitEnded_48 : decode cX3_unitEnded 48 = .ok (.getfield 171, 3) := by decide +kernel
theorem dX3_unitEnded_51 : decode cX3_unitEnded 51 = .ok (.ifCond .lt 7, 3) := by decide +kernel
theorem dX3_unitEnded_54 : decode cX3_unitEnded 54 = .ok (.iconst 1, 1) := by decide +kernel
theorem dX3_unitEnded_55 : decode cX3_unitEnded 55 = .ok (.goto 4, 3) := by decide +kernel
theorem dX3_unitEnded_58 : decode cX3_unitEnded 58 = .ok (.iconst 0, 1) := by decide +kernel
theorem dX3_unitEnded_59 : decode cX3_unitEnded 59 = .ok (.ireturn, 1) := by decide +kernel
theorem dX3_unitEnded_60 : decode cX3_unitEnded 60 = .ok (.aload_n 0, 1) := by decide +kernel
theorem dX3_unitEnded_61 : decode cX3_unitEnded 61 = .ok (.getfield 171, 3) := by decide +kernel
theorem dX3_unitEnded_64 : decode cX3_unitEnded 64 = .ok (.ifCond .ne 15, 3) := by decide +kernel
theorem dX3_unitEnded_67 : decode cX3_unitEnded 67 = .ok (.aload_n 0, 1) := by decide +kernel
theorem dX3_unitEnded_68 : decode cX3_unitEnded 68 = .ok (.iload_n 1, 1) := by decide +kernel
theorem dX3_unitEnded_69 : decode cX3_unitEnded 69 = .ok (.invokevirtual 194, 3) := by decide +kernel
theorem dX3_unitEnded_72 : decode cX3_unitEnded 72 = .ok (.ifCond .eq 7, 3) := by decide +kernel
theorem dX3_unitEnded_75 : decode cX3_unitEnded 75 = .ok (.iconst 1, 1) := by decide +kernel
theorem dX3_unitEnded_76 : decode cX3_unitEnded 76 = .ok (.goto 4, 3) := by decide +kernel
theorem dX3_unitEnded_79 : decode cX3_unitEnded 79 = .ok (.iconst 0, 1) := by decide +kernel
theorem dX3_unitEnded_80 : decode cX3_unitEnded 80 = .ok (.ireturn, 1) := by decide +kernel
abbrev rm_X3_unitEnded : Room := { frames := 2, cells := 0, slots := 0, locals := 42 }
def f_X3_unitEnded_J24 (S : St)  : Option (Int32 × St) :=
  lt_v (up_I S (ky 1 11) (1 : Int32)) (fun (S2 : St) => some ((1 : Int32), S2))
def f_X3_unitEnded (S : St) (x1 : Int32) : Option (Int32 × St) :=
  if x1 = (43 : Int32) then (f_X3_unitEnded_J24  S ) else (if x1 = (45 : Int32) then (f_X3_unitEnded_J24  S ) else (if x1 = (42 : Int32) then (f_X3_unitEnded_J24  S ) else (if x1 = (47 : Int32) then (f_X3_unitEnded_J24  S ) else (if x1 = (41 : Int32) then (lt_v (up_I S (ky 1 13) ((st_I S (ky 1 13)) - (1 : Int32))) (fun (S10 : St) => if (st_I S10 (ky 1 13)) < 0 then (some ((0 : Int32), S10)) else (some ((1 : Int32), S10)))) else (if (st_I S (ky 1 13)) = 0 then ((f_X3_partEnds  S x1).bind (fun (q8 : Int32 × St) => if q8.1 = 0 then (some ((0 : Int32), q8.2)) else (some ((1 : Int32), q8.2)))) else (some ((0 : Int32), S)))))))
set_option maxRecDepth 100000 in
set_option maxHeartbeats 4000000 in
theorem k_X3_unitEnded (l : Launch) (g : GG) (hg : gd wd_C g)  (h1 : hs wd_C g 1 3) (S : St) (x1 : Int32) (q : Int32 × St) (hf : f_X3_unitEnded  S x1 = some q) : Met l yX3_unitEnded (Cond.code yX3_unitEnded cX3_unitEnded 2 (some .boolean) :: gw_tbl) rm_X3_unitEnded (va_Pc [.ref (gg_o g 1), .int x1] (wI wd_C g S)) (qc_w wd_C g q) 0 0 (aw g) := by
  refine mt_start (own := RX3) hg (by decide) rfl (Nat.le_of_ble_eq_true rfl) (fun p e s m args below meth c ls H locs cx hw hr hlk hl => ?_)
  have hx := cx.1
  have hb := cx.2.1
  have hown := cx.2.2.2.1
  have hts := cx.2.2.2.2.1
  have hl : lv_has ls 2 [(0, .ref (gg_o g 1)), (1, .int x1)] := hl
  replace hf := h_top hf
  unfold f_X3_unitEnded at hf
  have J24 : ∀ (ls : Array Slot) (H : Heap) (locs : List Loc) (S : St) , lv_has ls 2 [(0, .ref (gg_o g 1))] → HH wd_C g s S H locs → (f_X3_unitEnded_J24  S ).bind some = some q → W p l e rm_X3_unitEnded s m args below meth c H locs 0 0 (MQ below (qc_w wd_C g q) args s 0 0 (aw g)) (F0 m 24 ls []) := by
    intro ls H locs S  hl hw hf
    unfold f_X3_unitEnded_J24 at hf
    refine lv_aload_n hx hb dX3_unitEnded_24 rfl (lv_at hl 0 rfl) ?_
    refine lv_iconst (v := 1) hx hb dX3_unitEnded_25 (by decide) ?_
    refine pf_X3_181 cx hw h1 (Or.inr rfl) hf dX3_unitEnded_26 (fun S2 H locs hw hf => ?_)
    refine lv_iconst (v := 1) hx hb dX3_unitEnded_29 (by decide) ?_
    exact r_zretw cx hw hr hlk (Or.inr rfl) hf dX3_unitEnded_30
  refine lv_iload_n hx hb dX3_unitEnded_0 rfl (lv_at hl 1 rfl) ?_
  refine lv_bipush (v := 43) hx hb dX3_unitEnded_1 (by decide) ?_
  refine lv_icmp_eq hx hb dX3_unitEnded_3 (tgt := 24) rfl (fun hc1 => ?_) (fun hc1 => ?_)
  · replace hf := h_pos hc1 hf
    exact J24 _ _ _ S (lv_sub hl [0] rfl) hw hf
  replace hf := h_neg hc1 hf
  refine lv_iload_n hx hb dX3_unitEnded_6 rfl (lv_at hl 1 rfl) ?_
  refine lv_bipush (v := 45) hx hb dX3_unitEnded_7 (by decide) ?_
  refine lv_icmp_eq hx hb dX3_unitEnded_9 (tgt := 24) rfl (fun hc3 => ?_) (fun hc3 => ?_)
  · replace hf := h_pos hc3 hf
    exact J24 _ _ _ S (lv_sub hl [0] rfl) hw hf
  replace hf := h_neg hc3 hf
  refine lv_iload_n hx hb dX3_unitEnded_12 rfl (lv_at hl 1 rfl) ?_
  refine lv_bipush (v := 42) hx hb dX3_unitEnded_13 (by decide) ?_
  refine lv_icmp_eq hx hb dX3_unitEnded_15 (tgt := 24) rfl (fun hc4 => ?_) (fun hc4 => ?_)
  · replace hf := h_pos hc4 hf
    exact J24 _ _ _ S (lv_sub hl [0] rfl) hw hf
  replace hf := h_neg hc4 hf
  refine lv_iload_n hx hb dX3_unitEnded_18 rfl (lv_at hl 1 rfl) ?_
  refine lv_bipush (v := 47) hx hb dX3_unitEnded_19 (by decide) ?_
  refine lv_icmp_ne hx hb dX3_unitEnded_21 (tgt := 31) rfl (fun hc5 => ?_) (fun hc5 => ?_)
  · replace hf := h_neg hc5 hf
    refine lv_iload_n hx hb dX3_unitEnded_31 rfl (lv_at hl 1 rfl) ?_
    refine lv_bipush (v := 41) hx hb dX3_unitEnded_32 (by decide) ?_
    refine lv_icmp_ne hx hb dX3_unitEnded_34 (tgt := 60) rfl (fun hc6 => ?_) (fun hc6 => ?_)
    · replace hf := h_neg hc6 hf
      refine lv_aload_n hx hb dX3_unitEnded_60 rfl (lv_at hl 0 rfl) ?_
      refine gf_X3_171 cx hw h1 dX3_unitEnded_61 ?_
      refine lv_if_ne hx hb dX3_unitEnded_64 (tgt := 79) rfl (fun hc7 => ?_) (fun hc7 => ?_)
      · replace hf := h_neg hc7 hf
        refine lv_iconst (v := 0) hx hb dX3_unitEnded_79 (by decide) ?_
        exact r_zretw cx hw hr hlk (Or.inl rfl) hf dX3_unitEnded_80
      replace hf := h_pos hc7 hf
      refine lv_aload_n hx hb dX3_unitEnded_67 rfl (lv_at hl 0 rfl) ?_
      refine lv_iload_n hx hb dX3_unitEnded_68 rfl (lv_at hl 1 rfl) ?_
      refine r_V_w (As := [.int x1]) (rest := []) cx hw hf h1.2.1 (by rw [h1.1]; rfl) lk_X3_194 (fun q8 hq => k_X3_partEnds l g hg  h1 S x1 q8 hq) ⟨⟨rfl, rfl⟩, Nat.le_of_ble_eq_true rfl, Nat.le_of_ble_eq_true rfl⟩ rfl hl.1 rfl (Nat.le_of_ble_eq_true rfl) dX3_unitEnded_69 ⟨Nat.zero_le _, Nat.zero_le _⟩ (fun q8 H locs hw hf => ?_)
      refine lv_if_eq hx hb dX3_unitEnded_72 (tgt := 79) rfl (fun hc9 => ?_) (fun hc9 => ?_)
      · replace hf := h_pos hc9 hf
        refine lv_iconst (v := 0) hx hb dX3_unitEnded_79 (by decide) ?_
        exact r_zretw cx hw hr hlk (Or.inl rfl) hf dX3_unitEnded_80
      replace hf := h_neg hc9 hf
      refine lv_iconst (v := 1) hx hb dX3_unitEnded_75 (by decide) ?_
      refine lv_goto hx hb dX3_unitEnded_76 (tgt := 80) rfl ?_
      exact r_zretw cx hw hr hlk (Or.inr rfl) hf dX3_unitEnded_80
    replace hf := h_pos hc6 hf
    refine lv_aload_n hx hb dX3_unitEnded_37 rfl (lv_at hl 0 rfl) ?_
    refine lv_dup hx hb dX3_unitEnded_38 rfl ?_
    refine gf_X3_171 cx hw h1 dX3_unitEnded_39 ?_
    refine lv_iconst (v := 1) hx hb dX3_unitEnded_42 (by decide) ?_
    refine lv_isub hx hb dX3_unitEnded_43 ?_
    refine pf_X3_171 cx hw h1 hf dX3_unitEnded_44 (fun S10 H locs hw hf => ?_)
    refine lv_aload_n hx hb dX3_unitEnded_47 rfl (lv_at hl 0 rfl) ?_
    refine gf_X3_171 cx hw h1 dX3_unitEnded_48 ?_
    refine lv_if_lt hx hb dX3_unitEnded_51 (tgt := 58) rfl (fun hc11 => ?_) (fun hc11 => ?_)
    · replace hf := h_pos hc11 hf
      refine lv_iconst (v := 0) hx hb dX3_unitEnded_58 (by decide) ?_
      exact r_zretw cx hw hr hlk (Or.inl rfl) hf dX3_unitEnded_59
    replace hf := h_neg hc11 hf
    refine lv_iconst (v := 1) hx hb dX3_unitEnded_54 (by decide) ?_
    refine lv_goto hx hb dX3_unitEnded_55 (tgt := 59) rfl ?_
    exact r_zretw cx hw hr hlk (Or.inr rfl) hf dX3_unitEnded_59
  replace hf := h_pos hc5 hf
  exact J24 _ _ _ S (lv_sub hl [0] rfl) hw hf
theorem dX3_lawGoesOn_0 : decode cX3_lawGoesOn 0 = .ok (.aload_n 0, 1) := by decide +kernel
theorem dX3_lawGoesOn_1 : decode cX3_lawGoesOn 1 = .ok (.getfield 168, 3) := by decide +kernel
theorem dX3_lawGoesOn_4 : decode cX3_lawGoesOn 4 = .ok (.ifCond .ne 20, 3) := by decide +kernel
theorem dX3_lawGoesOn_7 : decode cX3_lawGoesOn 7 = .ok (.aload_n 0, 1) := by decide +kernel
theorem dX3_lawGoesOn_8 : decode cX3_lawGoesOn 8 = .ok (.iconst 4, 1) := by decide +kernel
theorem dX3_lawGoesOn_9 : decode cX3_lawGoesOn 9 = .ok (.invokevirtual 177, 3) := by decide +kernel
theorem dX3_lawGoesOn_12 : decode cX3_lawGoesOn 12 = .ok (.iload_n 1, 1) := by decide +kernel
theorem dX3_lawGoesOn_13 : decode cX3_lawGoesOn 13 = .ok (.bipush 61, 2) := by decide +kernel
theorem dX3_lawGoesOn_15 : decode cX3_lawGoesOn 15 = .ok (.if_icmp .ne 7, 3) := by decide +kernel
theorem dX3_lawGoesOn_18 : decode cX3_lawGoesOn 18 = .ok (.iconst 1, 1) := by decide +kernel
theorem dX3_lawGoesOn_19 : decode cX3_lawGoesOn 19 = .ok (.goto 4, 3) := by decide +kernel
theorem dX3_lawGoesOn_22 : decode cX3_lawGoesOn 22 = .ok (.iconst 0, 1) := by decide +kernel
theorem dX3_lawGoesOn_23 : decode cX3_lawGoesOn 23 = .ok (.ireturn, 1) := by decide +kernel
theorem dX3_lawGoesOn_24 : decode cX3_lawGoesOn 24 = .ok (.aload_n 0, 1) := by decide +kernel
theorem dX3_lawGoesOn_25 : decode cX3_lawGoesOn 25 = .ok (.getfield 181, 3) := by decide +kernel
theorem dX3_lawGoesOn_28 : decode cX3_lawGoesOn 28 = .ok (.ifCond .eq 11, 3) := by decide +kernel
theorem dX3_lawGoesOn_31 : decode cX3_lawGoesOn 31 = .ok (.aload_n 0, 1) := by decide +kernel
theorem dX3_lawGoesOn_32 : decode cX3_lawGoesOn 32 = .ok (.iload_n 1, 1) := by decide +kernel
theorem dX3_lawGoesOn_33 : decode cX3_lawGoesOn 33 = .ok (.invokevirtual 185, 3) := by decide +kernel
theorem dX3_lawGoesOn_36 : decode cX3_lawGoesOn 36 = .ok (.goto 8, 3) := by decide +kernel
theorem dX3_lawGoesOn_39 : decode cX3_lawGoesOn 39 = .ok (.aload_n 0, 1) := by decide +kernel
theorem dX3_lawGoesOn_40 : decode cX3_lawGoesOn 40 = .ok (.iload_n 1, 1) := by decide +kernel
theorem dX3_lawGoesOn_41 : decode cX3_lawGoesOn 41 = .ok (.invokevirtual 188, 3) := by decide +kernel
theorem dX3_lawGoesOn_44 : decode cX3_lawGoesOn 44 = .ok (.ireturn, 1) := by decide +kernel
abbrev rm_X3_lawGoesOn : Room := { frames := 3, cells := 0, slots := 0, locals := 63 }
def f_X3_lawGoesOn (S : St) (x1 : Int32) : Option (Int32 × St) :=
  if (st_I S (ky 1 10)) = 0 then ((f_X3_beginE  S (4 : Int32)).bind (fun (q7 : St) => if x1 = (61 : Int32) then (some ((1 : Int32), q7)) else (some ((0 : Int32), q7)))) else (if (st_I S (ky 1 11)) = 0 then ((f_X3_unitEnded  S x1).bind (fun (q3 : Int32 × St) => chk (isb q3.1) (some (q3.1, q3.2)))) else ((f_X3_unitBegins  S x1).bind (fun (q5 : Int32 × St) => chk (isb q5.1) (some (q5.1, q5.2)))))
set_option maxRecDepth 100000 in
set_option maxHeartbeats 4000000 in
theorem k_X3_lawGoesOn (l : Launch) (g : GG) (hg : gd wd_C g)  (h1 : hs wd_C g 1 3) (S : St) (x1 : Int32) (q : Int32 × St) (hf : f_X3_lawGoesOn  S x1 = some q) : Met l yX3_lawGoesOn (Cond.code yX3_lawGoesOn cX3_lawGoesOn 2 (some .boolean) :: gw_tbl) rm_X3_lawGoesOn (va_Pc [.ref (gg_o g 1), .int x1] (wI wd_C g S)) (qc_w wd_C g q) 0 0 (aw g) := by
  refine mt_start (own := RX3) hg (by decide) rfl (Nat.le_of_ble_eq_true rfl) (fun p e s m args below meth c ls H locs cx hw hr hlk hl => ?_)
  have hx := cx.1
  have hb := cx.2.1
  have hown := cx.2.2.2.1
  have hts := cx.2.2.2.2.1
  have hl : lv_has ls 2 [(0, .ref (gg_o g 1)), (1, .int x1)] := hl
  replace hf := h_top hf
  unfold f_X3_lawGoesOn at hf
  refine lv_aload_n hx hb dX3_lawGoesOn_0 rfl (lv_at hl 0 rfl) ?_
  refine gf_X3_168 cx hw h1 dX3_lawGoesOn_1 ?_
  refine lv_if_ne hx hb dX3_lawGoesOn_4 (tgt := 24) rfl (fun hc1 => ?_) (fun hc1 => ?_)
  · replace hf := h_neg hc1 hf
    refine lv_aload_n hx hb dX3_lawGoesOn_24 rfl (lv_at hl 0 rfl) ?_
    refine gf_X3_181 cx hw h1 dX3_lawGoesOn_25 ?_
    refine lv_if_eq hx hb dX3_lawGoesOn_28 (tgt := 39) rfl (fun hc2 => ?_) (fun hc2 => ?_)
    · replace hf := h_pos hc2 hf
      refine lv_aload_n hx hb dX3_lawGoesOn_39 rfl (lv_at hl 0 rfl) ?_
      refine lv_iload_n hx hb dX3_lawGoesOn_40 rfl (lv_at hl 1 rfl) ?_
      refine r_V_w (As := [.int x1]) (rest := []) cx hw hf h1.2.1 (by rw [h1.1]; rfl) lk_X3_188 (fun q3 hq => k_X3_unitEnded l g hg  h1 S x1 q3 hq) ⟨⟨rfl, rfl⟩, Nat.le_of_ble_eq_true rfl, Nat.le_of_ble_eq_true rfl⟩ rfl hl.1 rfl (Nat.le_of_ble_eq_true rfl) dX3_lawGoesOn_41 ⟨Nat.zero_le _, Nat.zero_le _⟩ (fun q3 H locs hw hf => ?_)
      obtain ⟨hc4, hf⟩ := h_chk hf
      exact r_zretw cx hw hr hlk hc4 hf dX3_lawGoesOn_44
    replace hf := h_neg hc2 hf
    refine lv_aload_n hx hb dX3_lawGoesOn_31 rfl (lv_at hl 0 rfl) ?_
    refine lv_iload_n hx hb dX3_lawGoesOn_32 rfl (lv_at hl 1 rfl) ?_
    refine r_V_w (As := [.int x1]) (rest := []) cx hw hf h1.2.1 (by rw [h1.1]; rfl) lk_X3_185 (fun q5 hq => k_X3_unitBegins l g hg  h1 S x1 q5 hq) ⟨⟨rfl, rfl⟩, Nat.le_of_ble_eq_true rfl, Nat.le_of_ble_eq_true rfl⟩ rfl hl.1 rfl (Nat.le_of_ble_eq_true rfl) dX3_lawGoesOn_33 ⟨Nat.zero_le _, Nat.zero_le _⟩ (fun q5 H locs hw hf => ?_)
    refine lv_goto hx hb dX3_lawGoesOn_36 (tgt := 44) rfl ?_
    obtain ⟨hc6, hf⟩ := h_chk hf
    exact r_zretw cx hw hr hlk hc6 hf dX3_lawGoesOn_44
  replace hf := h_pos hc1 hf
  refine lv_aload_n hx hb dX3_lawGoesOn_7 rfl (lv_at hl 0 rfl) ?_
  refine lv_iconst (v := 4) hx hb dX3_lawGoesOn_8 (by decide) ?_
  refine r_V_v (As := [.int (4 : Int32)]) (rest := []) cx hw hf h1.2.1 (by rw [h1.1]; rfl) lk_X3_177 (fun q7 hq => k_X3_beginE l g hg  h1 S (4 : Int32) q7 hq) ⟨⟨rfl, rfl⟩, Nat.le_of_ble_eq_true rfl, Nat.le_of_ble_eq_true rfl⟩ rfl hl.1 rfl (Nat.le_of_ble_eq_true rfl) dX3_lawGoesOn_9 ⟨Nat.zero_le _, Nat.zero_le _⟩ (fun q7 H locs hw hf => ?_)
  refine lv_iload_n hx hb dX3_lawGoesOn_12 rfl (lv_at hl 1 rfl) ?_
  refine lv_bipush (v := 61) hx hb dX3_lawGoesOn_13 (by decide) ?_
  refine lv_icmp_ne hx hb dX3_lawGoesOn_15 (tgt := 22) rfl (fun hc8 => ?_) (fun hc8 => ?_)
  · replace hf := h_neg hc8 hf
    refine lv_iconst (v := 0) hx hb dX3_lawGoesOn_22 (by decide) ?_
    exact r_zretw cx hw hr hlk (Or.inl rfl) hf dX3_lawGoesOn_23
  replace hf := h_pos hc8 hf
  refine lv_iconst (v := 1) hx hb dX3_lawGoesOn_18 (by decide) ?_
  refine lv_goto hx hb dX3_lawGoesOn_19 (tgt := 23) rfl ?_
  exact r_zretw cx hw hr hlk (Or.inr rfl) hf dX3_lawGoesOn_23
theorem dX3_goesOn_0 : decode cX3_goesOn 0 = .ok (.aload_n 0, 1) := by decide +kernel
theorem dX3_goesOn_1 : decode cX3_goesOn 1 = .ok (.getfield 95, 3) := by decide +kernel
theorem dX3_goesOn_4 : decode cX3_goesOn 4 = .ok (.iconst (-1), 1) := by decide +kernel
theorem dX3_goesOn_5 : decode cX3_goesOn 5 = .ok (.if_icmp .ne 9, 3) := by decide +kernel
theorem dX3_goesOn_8 : decode cX3_goesOn 8 = .ok (.aload_n 0, 1) := by decide +kernel
theorem dX3_goesOn_9 : decode cX3_goesOn 9 = .ok (.iload_n 1, 1) := by decide +kernel
theorem dX3_goesOn_10 : decode cX3_goesOn 10 = .ok (.invokevirtual 151, 3) := by decide +kernel
theorem dX3_goesOn_13 : decode cX3_goesOn 13 = .ok (.ireturn, 1) := by decide +kernel
theorem dX3_goesOn_14 : decode cX3_goesOn 14 = .ok (.aload_n 0, 1) := by decide +kernel
theorem dX3_goesOn_15 : decode cX3_goesOn 15 = .ok (.getfield 95, 3) := by decide +kernel
theorem dX3_goesOn_18 : decode cX3_goesOn 18 = .ok (.invokestatic 154, 3) := by decide +kernel
theorem dX3_goesOn_21 : decode cX3_goesOn 21 = .ok (.astore_n 2, 1) := by decide +kernel
theorem dX3_goesOn_22 : decode cX3_goesOn 22 = .ok (.aload_n 0, 1) := by decide +kernel
theorem dX3_goesOn_23 : decode cX3_goesOn 23 = .ok (.getfield 158, 3) := by decide +kernel
theorem dX3_goesOn_26 : decode cX3_goesOn 26 = .ok (.ifCond .lt 25, 3) := by decide +kernel
theorem dX3_goesOn_29 : decode cX3_goesOn 29 = .ok (.aload_n 0, 1) := by decide +kernel
theorem dX3_goesOn_30 : decode cX3_goesOn 30 = .ok (.getfield 158, 3) := by decide +kernel
theorem dX3_goesOn_33 : decode cX3_goesOn 33 = .ok (.aload_n 2, 1) := by decide +kernel
theorem dX3_goesOn_34 : decode cX3_goesOn 34 = .ok (.invokevirtual 37, 3) := by decide +kernel
theorem dX3_goesOn_37 : decode cX3_goesOn 37 = .ok (.if_icmp .ge 14, 3) := by decide +kernel
theorem dX3_goesOn_40 : decode cX3_goesOn 40 = .ok (.aload_n 2, 1) := by decide +kernel
theorem dX3_goesOn_41 : decode cX3_goesOn 41 = .ok (.aload_n 0, 1) := by decide +kernel
theorem dX3_goesOn_42 : decode cX3_goesOn 42 = .ok (.getfield 158, 3) := by decide +kernel
theorem dX3_goesOn_45 : decode cX3_goesOn 45 = .ok (.invokevirtual 43, 3) := by decide +kernel
theorem dX3_goesOn_48 : decode cX3_goesOn 48 = .ok (.goto 5, 3) := by decide +kernel
theorem dX3_goesOn_51 : decode cX3_goesOn 51 = .ok (.bipush 59, 2) := by decide +kernel
theorem dX3_goesOn_53 : decode cX3_goesOn 53 = .ok (.istore_n 3, 1) := by decide +kernel
theorem dX3_goesOn_54 : decode cX3_goesOn 54 = .ok (.iload_n 3, 1) := by decide +kernel
theorem dX3_goesOn_55 : decode cX3_goesOn 55 = .ok (.bipush 76, 2) := by decide +kernel
theorem dX3_goesOn_57 : decode cX3_goesOn 57 = .ok (.if_icmp .ne 9, 3) := by decide +kernel
theorem dX3_goesOn_60 : decode cX3_goesOn 60 = .ok (.aload_n 0, 1) := by decide +kernel
theorem dX3_goesOn_61 : decode cX3_goesOn 61 = .ok (.iload_n 1, 1) := by decide +kernel
theorem dX3_goesOn_62 : decode cX3_goesOn 62 = .ok (.invokevirtual 161, 3) := by decide +kernel
theorem dX3_goesOn_65 : decode cX3_goesOn 65 = .ok (.ireturn, 1) := by decide +kernel
theorem dX3_goesOn_66 : decode cX3_goesOn 66 = .ok (.aload_n 0, 1) := by decide +kernel
theorem dX3_goesOn_67 : decode cX3_goesOn 67 = .ok (.dup, 1) := by decide +kernel
theorem dX3_goesOn_68 : decode cX3_goesOn 68 = .ok (.getfield 158, 3) := by decide +kernel
theorem dX3_goesOn_71 : decode cX3_goesOn 71 = .ok (.iconst 1, 1) := by decide +kernel
theorem dX3_goesOn_72 : decode cX3_goesOn 72 = .ok (.iadd, 1) := by decide +kernel
theorem dX3_goesOn_73 : decode cX3_goesOn 73 = .ok (.putfield 158, 3) := by decide +kernel
theorem dX3_goesOn_76 : decode cX3_goesOn 76 = .ok (.iload_n 3, 1) := by decide +kernel
theorem dX3_goesOn_77 : decode cX3_goesOn 77 = .ok (.bipush 59, 2) := by decide +kernel
theorem dX3_goesOn_79 : decode cX3_goesOn 79 = .ok (.if_icmp .ne 20, 3) := by decide +kernel
theorem dX3_goesOn_82 : decode cX3_goesOn 82 = .ok (.aload_n 0, 1) := by decide +kernel
theorem dX3_goesOn_83 : decode cX3_goesOn 83 = .ok (.iconst (-1), 1) := by decide +kernel
theorem dX3_goesOn_84 : decode cX3_goesOn 84 = .ok (.putfield 95, 3) := by decide +kernel
theorem dX3_goesOn_87 : decode cX3_goesOn 87 = .ok (.iload_n 1, 1) := by decide +kernel
theorem dX3_goesOn_88 : decode cX3_goesOn 88 = .ok (.bipush 59, 2) := by decide +kernel
theorem dX3_goesOn_90 : decode cX3_goesOn 90 = .ok (.if_icmp .ne 7, 3) := by decide +kernel
theorem dX3_goesOn_93 : decode cX3_goesOn 93 = .ok (.iconst 1, 1) := by decide +kernel
theorem dX3_goesOn_94 : decode cX3_goesOn 94 = .ok (.goto 4, 3) := by decide +kernel
theorem dX3_goesOn_97 : decode cX3_goesOn 97 = .ok (.iconst 0, 1) := by decide +kernel
theorem dX3_goesOn_98 : decode cX3_goesOn 98 = .ok (.ireturn, 1) := by decide +kernel
theorem dX3_goesOn_99 : decode cX3_goesOn 99 = .ok (.iload_n 1, 1) := by decide +kernel
theorem dX3_goesOn_100 : decode cX3_goesOn 100 = .ok (.iload_n 3, 1) := by decide +kernel
theorem dX3_goesOn_101 : decode cX3_goesOn 101 = .ok (.bipush 78, 2) := by decide +kernel
theorem dX3_goesOn_103 : decode cX3_goesOn 103 = .ok (.if_icmp .ne 7, 3) := by decide +kernel
theorem dX3_goesOn_106 : decode cX3_goesOn 106 = .ok (.iconst 1, 1) := by decide +kernel
theorem dX3_goesOn_107 : decode cX3_goesOn 107 = .ok (.goto 4, 3) := by decide +kernel
theorem dX3_goesOn_110 : decode cX3_goesOn 110 = .ok (.iconst 2, 1) := by decide +kernel
theorem dX3_goesOn_111 : decode cX3_goesOn 111 = .ok (.if_icmp .ne 7, 3) := by decide +kernel
theorem dX3_goesOn_114 : decode cX3_goesOn 114 = .ok (.iconst 1, 1) := by decide +kernel
theorem dX3_goesOn_115 : decode cX3_goesOn 115 = .ok (.goto 4, 3) := by decide +kernel
theorem dX3_goesOn_118 : decode cX3_goesOn 118 = .ok (.iconst 0, 1) := by decide +kernel
theorem dX3_goesOn_119 : decode cX3_goesOn 119 = .ok (.ireturn, 1) := by decide +kernel
abbrev rm_X3_goesOn : Room := { frames := 4, cells := 0, slots := 0, locals := 85 }
def f_X3_goesOn_J111 (S : St) (y0 : Int32) (y1 : Int32) : Option (Int32 × St) :=
  if y1 = y0 then (some ((1 : Int32), S)) else (some ((0 : Int32), S))
def f_X3_goesOn_J53 (S : St) (x1 : Int32) (y0 : Int32) : Option (Int32 × St) :=
  if y0 = (76 : Int32) then ((f_X3_lawGoesOn  S x1).bind (fun (q11 : Int32 × St) => chk (isb q11.1) (some (q11.1, q11.2)))) else (lt_v (up_I S (ky 1 9) ((st_I S (ky 1 9)) + (1 : Int32))) (fun (S5 : St) => if y0 = (59 : Int32) then (lt_v (up_I S5 (ky 1 8) (-1 : Int32)) (fun (S9 : St) => if x1 = (59 : Int32) then (some ((1 : Int32), S9)) else (some ((0 : Int32), S9)))) else (if y0 = (78 : Int32) then (f_X3_goesOn_J111  S5 (1 : Int32) x1) else (f_X3_goesOn_J111  S5 (2 : Int32) x1))))
def f_X3_goesOn_J51 (S : St) (x1 : Int32) : Option (Int32 × St) :=
  f_X3_goesOn_J53  S x1 (59 : Int32)
def f_X3_goesOn (S : St) (x1 : Int32) : Option (Int32 × St) :=
  if (st_I S (ky 1 8)) = (-1 : Int32) then ((f_X3_tellBegins  S x1).bind (fun (q17 : Int32 × St) => chk (isb q17.1) (some (q17.1, q17.2)))) else ((f_X3_shapeOf   (st_I S (ky 1 8))).bind (fun (q2 : Nat) => if (st_I S (ky 1 9)) < 0 then (f_X3_goesOn_J51  S x1) else (chk (q2 < 9) ((f_J0_length_8abf5 q2 ).bind (fun (q14 : Int32) => if q14 ≤ (st_I S (ky 1 9)) then (f_X3_goesOn_J51  S x1) else ((f_J0_charAt_5068e q2 (st_I S (ky 1 9))).bind (fun (q16 : Int32) => f_X3_goesOn_J53  S x1 q16)))))))
set_option maxRecDepth 100000 in
set_option maxHeartbeats 4000000 in
theorem k_X3_goesOn (l : Launch) (g : GG) (hg : gd wd_C g)  (h1 : hs wd_C g 1 3) (S : St) (x1 : Int32) (q : Int32 × St) (hf : f_X3_goesOn  S x1 = some q) : Met l yX3_goesOn (Cond.code yX3_goesOn cX3_goesOn 4 (some .boolean) :: gw_tbl) rm_X3_goesOn (va_Pc [.ref (gg_o g 1), .int x1] (wI wd_C g S)) (qc_w wd_C g q) 0 0 (aw g) := by
  refine mt_start (own := RX3) hg (by decide) rfl (Nat.le_of_ble_eq_true rfl) (fun p e s m args below meth c ls H locs cx hw hr hlk hl => ?_)
  have hx := cx.1
  have hb := cx.2.1
  have hown := cx.2.2.2.1
  have hts := cx.2.2.2.2.1
  have hl : lv_has ls 4 [(0, .ref (gg_o g 1)), (1, .int x1)] := hl
  replace hf := h_top hf
  unfold f_X3_goesOn at hf
  have J111 : ∀ (ls : Array Slot) (H : Heap) (locs : List Loc) (S : St) (y0 : Int32) (y1 : Int32), lv_has ls 4 [] → HH wd_C g s S H locs → (f_X3_goesOn_J111  S y0 y1).bind some = some q → W p l e rm_X3_goesOn s m args below meth c H locs 0 0 (MQ below (qc_w wd_C g q) args s 0 0 (aw g)) (F0 m 111 ls [.int y0, .int y1]) := by
    intro ls H locs S y0 y1 hl hw hf
    unfold f_X3_goesOn_J111 at hf
    refine lv_icmp_ne hx hb dX3_goesOn_111 (tgt := 118) rfl (fun hc8 => ?_) (fun hc8 => ?_)
    · replace hf := h_neg hc8 hf
      refine lv_iconst (v := 0) hx hb dX3_goesOn_118 (by decide) ?_
      exact r_zretw cx hw hr hlk (Or.inl rfl) hf dX3_goesOn_119
    replace hf := h_pos hc8 hf
    refine lv_iconst (v := 1) hx hb dX3_goesOn_114 (by decide) ?_
    refine lv_goto hx hb dX3_goesOn_115 (tgt := 119) rfl ?_
    exact r_zretw cx hw hr hlk (Or.inr rfl) hf dX3_goesOn_119
  have J53 : ∀ (ls : Array Slot) (H : Heap) (locs : List Loc) (S : St) (x1 : Int32) (y0 : Int32), lv_has ls 4 [(0, .ref (gg_o g 1)), (1, .int x1)] → HH wd_C g s S H locs → (f_X3_goesOn_J53  S x1 y0).bind some = some q → W p l e rm_X3_goesOn s m args below meth c H locs 0 0 (MQ below (qc_w wd_C g q) args s 0 0 (aw g)) (F0 m 53 ls [.int y0]) := by
    intro ls H locs S x1 y0 hl hw hf
    unfold f_X3_goesOn_J53 at hf
    refine lv_istore_n hx hb dX3_goesOn_53 rfl hl (by decide) (lv' := [(3, .int y0), (0, .ref (gg_o g 1)), (1, .int x1)]) rfl (fun ls hl => ?_)
    refine lv_iload_n hx hb dX3_goesOn_54 rfl (lv_at hl 0 rfl) ?_
    refine lv_bipush (v := 76) hx hb dX3_goesOn_55 (by decide) ?_
    refine lv_icmp_ne hx hb dX3_goesOn_57 (tgt := 66) rfl (fun hc4 => ?_) (fun hc4 => ?_)
    · replace hf := h_neg hc4 hf
      refine lv_aload_n hx hb dX3_goesOn_66 rfl (lv_at hl 1 rfl) ?_
      refine lv_dup hx hb dX3_goesOn_67 rfl ?_
      refine gf_X3_158 cx hw h1 dX3_goesOn_68 ?_
      refine lv_iconst (v := 1) hx hb dX3_goesOn_71 (by decide) ?_
      refine lv_iadd hx hb dX3_goesOn_72 ?_
      refine pf_X3_158 cx hw h1 hf dX3_goesOn_73 (fun S5 H locs hw hf => ?_)
      refine lv_iload_n hx hb dX3_goesOn_76 rfl (lv_at hl 0 rfl) ?_
      refine lv_bipush (v := 59) hx hb dX3_goesOn_77 (by decide) ?_
      refine lv_icmp_ne hx hb dX3_goesOn_79 (tgt := 99) rfl (fun hc6 => ?_) (fun hc6 => ?_)
      · replace hf := h_neg hc6 hf
        refine lv_iload_n hx hb dX3_goesOn_99 rfl (lv_at hl 2 rfl) ?_
        refine lv_iload_n hx hb dX3_goesOn_100 rfl (lv_at hl 0 rfl) ?_
        refine lv_bipush (v := 78) hx hb dX3_goesOn_101 (by decide) ?_
        refine lv_icmp_ne hx hb dX3_goesOn_103 (tgt := 110) rfl (fun hc7 => ?_) (fun hc7 => ?_)
        · replace hf := h_neg hc7 hf
          refine lv_iconst (v := 2) hx hb dX3_goesOn_110 (by decide) ?_
          exact J111 _ _ _ S5 (2 : Int32) x1 (lv_sub hl [] rfl) hw hf
        replace hf := h_pos hc7 hf
        refine lv_iconst (v := 1) hx hb dX3_goesOn_106 (by decide) ?_
        refine lv_goto hx hb dX3_goesOn_107 (tgt := 111) rfl ?_
        exact J111 _ _ _ S5 (1 : Int32) x1 (lv_sub hl [] rfl) hw hf
      replace hf := h_pos hc6 hf
      refine lv_aload_n hx hb dX3_goesOn_82 rfl (lv_at hl 1 rfl) ?_
      refine lv_iconst (v := -1) hx hb dX3_goesOn_83 (by decide) ?_
      refine pf_X3_95 cx hw h1 hf dX3_goesOn_84 (fun S9 H locs hw hf => ?_)
      refine lv_iload_n hx hb dX3_goesOn_87 rfl (lv_at hl 2 rfl) ?_
      refine lv_bipush (v := 59) hx hb dX3_goesOn_88 (by decide) ?_
      refine lv_icmp_ne hx hb dX3_goesOn_90 (tgt := 97) rfl (fun hc10 => ?_) (fun hc10 => ?_)
      · replace hf := h_neg hc10 hf
        refine lv_iconst (v := 0) hx hb dX3_goesOn_97 (by decide) ?_
        exact r_zretw cx hw hr hlk (Or.inl rfl) hf dX3_goesOn_98
      replace hf := h_pos hc10 hf
      refine lv_iconst (v := 1) hx hb dX3_goesOn_93 (by decide) ?_
      refine lv_goto hx hb dX3_goesOn_94 (tgt := 98) rfl ?_
      exact r_zretw cx hw hr hlk (Or.inr rfl) hf dX3_goesOn_98
    replace hf := h_pos hc4 hf
    refine lv_aload_n hx hb dX3_goesOn_60 rfl (lv_at hl 1 rfl) ?_
    refine lv_iload_n hx hb dX3_goesOn_61 rfl (lv_at hl 2 rfl) ?_
    refine r_V_w (As := [.int x1]) (rest := []) cx hw hf h1.2.1 (by rw [h1.1]; rfl) lk_X3_161 (fun q11 hq => k_X3_lawGoesOn l g hg  h1 S x1 q11 hq) ⟨⟨rfl, rfl⟩, Nat.le_of_ble_eq_true rfl, Nat.le_of_ble_eq_true rfl⟩ rfl hl.1 rfl (Nat.le_of_ble_eq_true rfl) dX3_goesOn_62 ⟨Nat.zero_le _, Nat.zero_le _⟩ (fun q11 H locs hw hf => ?_)
    obtain ⟨hc12, hf⟩ := h_chk hf
    exact r_zretw cx hw hr hlk hc12 hf dX3_goesOn_65
  have J51 : ∀ (ls : Array Slot) (H : Heap) (locs : List Loc) (S : St) (x1 : Int32), lv_has ls 4 [(0, .ref (gg_o g 1)), (1, .int x1)] → HH wd_C g s S H locs → (f_X3_goesOn_J51  S x1).bind some = some q → W p l e rm_X3_goesOn s m args below meth c H locs 0 0 (MQ below (qc_w wd_C g q) args s 0 0 (aw g)) (F0 m 51 ls []) := by
    intro ls H locs S x1 hl hw hf
    unfold f_X3_goesOn_J51 at hf
    refine lv_bipush (v := 59) hx hb dX3_goesOn_51 (by decide) ?_
    exact J53 _ _ _ S x1 (59 : Int32) (lv_sub hl [0, 1] rfl) hw hf
  refine lv_aload_n hx hb dX3_goesOn_0 rfl (lv_at hl 0 rfl) ?_
  refine gf_X3_95 cx hw h1 dX3_goesOn_1 ?_
  refine lv_iconst (v := -1) hx hb dX3_goesOn_4 (by decide) ?_
  refine lv_icmp_ne hx hb dX3_goesOn_5 (tgt := 14) rfl (fun hc1 => ?_) (fun hc1 => ?_)
  · replace hf := h_neg hc1 hf
    refine lv_aload_n hx hb dX3_goesOn_14 rfl (lv_at hl 0 rfl) ?_
    refine gf_X3_95 cx hw h1 dX3_goesOn_15 ?_
    refine r_S_s (As := [.int (st_I S (ky 1 8))]) (rest := []) cx hw hf lk_X3_154 (fun q2 hq => k_X3_shapeOf l g hg   S (st_I S (ky 1 8)) q2 hq) ⟨⟨rfl, rfl⟩, Nat.le_of_ble_eq_true rfl, Nat.le_of_ble_eq_true rfl⟩ rfl hl.1 rfl (Nat.le_of_ble_eq_true rfl) dX3_goesOn_18 ⟨Nat.zero_le _, Nat.zero_le _⟩ (fun q2 H locs hw hf => ?_)
    refine lv_astore_n hx hb dX3_goesOn_21 rfl hl (by decide) (lv' := [(2, .ref (gg_k g q2)), (0, .ref (gg_o g 1)), (1, .int x1)]) rfl (fun ls hl => ?_)
    refine lv_aload_n hx hb dX3_goesOn_22 rfl (lv_at hl 1 rfl) ?_
    refine gf_X3_158 cx hw h1 dX3_goesOn_23 ?_
    refine lv_if_lt hx hb dX3_goesOn_26 (tgt := 51) rfl (fun hc3 => ?_) (fun hc3 => ?_)
    · replace hf := h_pos hc3 hf
      exact J51 _ _ _ S x1 (lv_sub hl [1, 2] rfl) hw hf
    replace hf := h_neg hc3 hf
    refine lv_aload_n hx hb dX3_goesOn_29 rfl (lv_at hl 1 rfl) ?_
    refine gf_X3_158 cx hw h1 dX3_goesOn_30 ?_
    refine lv_aload_n hx hb dX3_goesOn_33 rfl (lv_at hl 0 rfl) ?_
    obtain ⟨hc13, hf⟩ := h_chk hf
    refine r_VR_i (As := []) (rest := [.int (st_I S (ky 1 9))]) cx hw hf (r_srecv cx hw hc13) lk_X3_37 (fun q14 hq => k_J0_length_8abf5 l g hg q2 hc13 S  q14 hq) ⟨⟨rfl, rfl⟩, Nat.le_of_ble_eq_true rfl, Nat.le_of_ble_eq_true rfl⟩ rfl hl.1 rfl (Nat.le_of_ble_eq_true rfl) dX3_goesOn_34 ⟨Nat.zero_le _, Nat.zero_le _⟩ (fun q14 H locs hw hf => ?_)
    refine lv_icmp_ge hx hb dX3_goesOn_37 (tgt := 51) rfl (fun hc15 => ?_) (fun hc15 => ?_)
    · replace hf := h_pos hc15 hf
      exact J51 _ _ _ S x1 (lv_sub hl [1, 2] rfl) hw hf
    replace hf := h_neg hc15 hf
    refine lv_aload_n hx hb dX3_goesOn_40 rfl (lv_at hl 0 rfl) ?_
    refine lv_aload_n hx hb dX3_goesOn_41 rfl (lv_at hl 1 rfl) ?_
    refine gf_X3_158 cx hw h1 dX3_goesOn_42 ?_
    refine r_VR_i (As := [.int (st_I S (ky 1 9))]) (rest := []) cx hw hf (r_srecv cx hw hc13) lk_X3_43 (fun q16 hq => k_J0_charAt_5068e l g hg q2 hc13 S (st_I S (ky 1 9)) q16 hq) ⟨⟨rfl, rfl⟩, Nat.le_of_ble_eq_true rfl, Nat.le_of_ble_eq_true rfl⟩ rfl hl.1 rfl (Nat.le_of_ble_eq_true rfl) dX3_goesOn_45 ⟨Nat.zero_le _, Nat.zero_le _⟩ (fun q16 H locs hw hf => ?_)
    refine lv_goto hx hb dX3_goesOn_48 (tgt := 53) rfl ?_
    exact J53 _ _ _ S x1 q16 (lv_sub hl [1, 2] rfl) hw hf
  replace hf := h_pos hc1 hf
  refine lv_aload_n hx hb dX3_goesOn_8 rfl (lv_at hl 0 rfl) ?_
  refine lv_iload_n hx hb dX3_goesOn_9 rfl (lv_at hl 1 rfl) ?_
  refine r_V_w (As := [.int x1]) (rest := []) cx hw hf h1.2.1 (by rw [h1.1]; rfl) lk_X3_151 (fun q17 hq => k_X3_tellBegins l g hg  h1 S x1 q17 hq) ⟨⟨rfl, rfl⟩, Nat.le_of_ble_eq_true rfl, Nat.le_of_ble_eq_true rfl⟩ rfl hl.1 rfl (Nat.le_of_ble_eq_true rfl) dX3_goesOn_10 ⟨Nat.zero_le _, Nat.zero_le _⟩ (fun q17 H locs hw hf => ?_)
  obtain ⟨hc18, hf⟩ := h_chk hf
  exact r_zretw cx hw hr hlk hc18 hf dX3_goesOn_13
theorem dX3_fail_0 : decode cX3_fail 0 = .ok (.aload_n 0, 1) := by decide +kernel
theorem dX3_fail_1 : decode cX3_fail 1 = .ok (.iload_n 2, 1) := by decide +kernel
theorem dX3_fail_2 : decode cX3_fail 2 = .ok (.putfield 25, 3) := by decide +kernel
theorem dX3_fail_5 : decode cX3_fail 5 = .ok (.iload_n 1, 1) := by decide +kernel
theorem dX3_fail_6 : decode cX3_fail 6 = .ok (.ireturn, 1) := by decide +kernel
abbrev rm_X3_fail : Room := { frames := 0, cells := 0, slots := 0, locals := 0 }
def f_X3_fail (S : St) (x1 : Int32) (x2 : Int32) : Option (Int32 × St) :=
  lt_v (up_I S (ky 1 5) x2) (fun (S1 : St) => some (x1, S1))
set_option maxRecDepth 100000 in
set_option maxHeartbeats 4000000 in
theorem k_X3_fail (l : Launch) (g : GG) (hg : gd wd_C g)  (h1 : hs wd_C g 1 3) (S : St) (x1 : Int32) (x2 : Int32) (q : Int32 × St) (hf : f_X3_fail  S x1 x2 = some q) : Met l yX3_fail (Cond.code yX3_fail cX3_fail 3 (some .int) :: gw_tbl) rm_X3_fail (va_Pc [.ref (gg_o g 1), .int x1, .int x2] (wI wd_C g S)) (qc_w wd_C g q) 0 0 (aw g) := by
  refine mt_start (own := RX3) hg (by decide) rfl (Nat.le_of_ble_eq_true rfl) (fun p e s m args below meth c ls H locs cx hw hr hlk hl => ?_)
  have hx := cx.1
  have hb := cx.2.1
  have hown := cx.2.2.2.1
  have hts := cx.2.2.2.2.1
  have hl : lv_has ls 3 [(0, .ref (gg_o g 1)), (1, .int x1), (2, .int x2)] := hl
  replace hf := h_top hf
  unfold f_X3_fail at hf
  refine lv_aload_n hx hb dX3_fail_0 rfl (lv_at hl 0 rfl) ?_
  refine lv_iload_n hx hb dX3_fail_1 rfl (lv_at hl 2 rfl) ?_
  refine pf_X3_25 cx hw h1 hf dX3_fail_2 (fun S1 H locs hw hf => ?_)
  refine lv_iload_n hx hb dX3_fail_5 rfl (lv_at hl 1 rfl) ?_
  exact r_iretw cx hw hr hlk hf dX3_fail_6
theorem dX3_tooMany_0 : decode cX3_tooMany 0 = .ok (.aload_n 0, 1) := by decide +kernel
theorem dX3_tooMany_1 : decode cX3_tooMany 1 = .ok (.getfield 95, 3) := by decide +kernel
theorem dX3_tooMany_4 : decode cX3_tooMany 4 = .ok (.sipush 200, 3) := by decide +kernel
theorem dX3_tooMany_7 : decode cX3_tooMany 7 = .ok (.isub, 1) := by decide +kernel
theorem dX3_tooMany_8 : decode cX3_tooMany 8 = .ok (.istore_n 1, 1) := by decide +kernel
theorem dX3_tooMany_9 : decode cX3_tooMany 9 = .ok (.iload_n 1, 1) := by decide +kernel
theorem dX3_tooMany_10 : decode cX3_tooMany 10 = .ok (.getstatic 29, 3) := by decide +kernel
theorem dX3_tooMany_13 : decode cX3_tooMany 13 = .ok (.arraylength, 1) := by decide +kernel
theorem dX3_tooMany_14 : decode cX3_tooMany 14 = .ok (.invokestatic 164, 3) := by decide +kernel
theorem dX3_tooMany_17 : decode cX3_tooMany 17 = .ok (.ifCond .eq 25, 3) := by decide +kernel
theorem dX3_tooMany_20 : decode cX3_tooMany 20 = .ok (.aload_n 0, 1) := by decide +kernel
theorem dX3_tooMany_21 : decode cX3_tooMany 21 = .ok (.getfield 32, 3) := by decide +kernel
theorem dX3_tooMany_24 : decode cX3_tooMany 24 = .ok (.iload_n 1, 1) := by decide +kernel
theorem dX3_tooMany_25 : decode cX3_tooMany 25 = .ok (.invokestatic 109, 3) := by decide +kernel
theorem dX3_tooMany_28 : decode cX3_tooMany 28 = .ok (.getstatic 29, 3) := by decide +kernel
theorem dX3_tooMany_31 : decode cX3_tooMany 31 = .ok (.iload_n 1, 1) := by decide +kernel
theorem dX3_tooMany_32 : decode cX3_tooMany 32 = .ok (.invokestatic 109, 3) := by decide +kernel
theorem dX3_tooMany_35 : decode cX3_tooMany 35 = .ok (.if_icmp .le 7, 3) := by decide +kernel
theorem dX3_tooMany_38 : decode cX3_tooMany 38 = .ok (.iconst 1, 1) := by decide +kernel
theorem dX3_tooMany_39 : decode cX3_tooMany 39 = .ok (.goto 4, 3) := by decide +kernel
theorem dX3_tooMany_42 : decode cX3_tooMany 42 = .ok (.iconst 0, 1) := by decide +kernel
theorem dX3_tooMany_43 : decode cX3_tooMany 43 = .ok (.istore_n 2, 1) := by decide +kernel
theorem dX3_tooMany_44 : decode cX3_tooMany 44 = .ok (.iload_n 2, 1) := by decide +kernel
theorem dX3_tooMany_45 : decode cX3_tooMany 45 = .ok (.ifCond .ne 20, 3) := by decide +kernel
theorem dX3_tooMany_48 : decode cX3_tooMany 48 = .ok (.aload_n 0, 1) := by decide +kernel
theorem dX3_tooMany_49 : decode cX3_tooMany 49 = .ok (.getfield 174, 3) := by decide +kernel
theorem dX3_tooMany_52 : decode cX3_tooMany 52 = .ok (.iconst 4, 1) := by decide +kernel
theorem dX3_tooMany_53 : decode cX3_tooMany 53 = .ok (.if_icmp .gt 12, 3) := by decide +kernel
theorem dX3_tooMany_56 : decode cX3_tooMany 56 = .ok (.aload_n 0, 1) := by decide +kernel
theorem dX3_tooMany_57 : decode cX3_tooMany 57 = .ok (.getfield 171, 3) := by decide +kernel
theorem dX3_tooMany_60 : decode cX3_tooMany 60 = .ok (.bipush 6, 2) := by decide +kernel
theorem dX3_tooMany_62 : decode cX3_tooMany 62 = .ok (.if_icmp .le 7, 3) := by decide +kernel
theorem dX3_tooMany_65 : decode cX3_tooMany 65 = .ok (.iconst 1, 1) := by decide +kernel
theorem dX3_tooMany_66 : decode cX3_tooMany 66 = .ok (.goto 4, 3) := by decide +kernel
theorem dX3_tooMany_69 : decode cX3_tooMany 69 = .ok (.iconst 0, 1) := by decide +kernel
theorem dX3_tooMany_70 : decode cX3_tooMany 70 = .ok (.ireturn, 1) := by decide +kernel
abbrev rm_X3_tooMany : Room := { frames := 1, cells := 0, slots := 0, locals := 21 }
def f_X3_tooMany_J43 (S : St) (y0 : Int32) : Option (Int32) :=
  if y0 = 0 then (if (4 : Int32) < (st_I S (ky 1 14)) then (some (1 : Int32)) else (if (st_I S (ky 1 13)) ≤ (6 : Int32) then (some (0 : Int32)) else (some (1 : Int32)))) else (some (1 : Int32))
def f_X3_tooMany_J42 (S : St)  : Option (Int32) :=
  f_X3_tooMany_J43  S (0 : Int32)
def f_X3_tooMany (S : St)  : Option (Int32) :=
  (f_X5_within   ((st_I S (ky 1 8)) - (200 : Int32)) (8 : Int32)).bind (fun (q1 : Int32) => if q1 = 0 then (f_X3_tooMany_J42  S ) else ((f_X5_at (ky 1 7) S ((st_I S (ky 1 8)) - (200 : Int32))).bind (fun (q6 : Int32) => (f_X5_atT  S ((st_I S (ky 1 8)) - (200 : Int32))).bind (fun (q7 : Int32) => if q6 ≤ q7 then (f_X3_tooMany_J42  S ) else (f_X3_tooMany_J43  S (1 : Int32))))))
set_option maxRecDepth 100000 in
set_option maxHeartbeats 4000000 in
theorem k_X3_tooMany (l : Launch) (g : GG) (hg : gd wd_C g)  (h1 : hs wd_C g 1 3) (S : St)  (q : Int32) (hf : f_X3_tooMany  S  = some q) : Met l yX3_tooMany (Cond.code yX3_tooMany cX3_tooMany 3 (some .boolean) :: gw_tbl) rm_X3_tooMany (va_Pc [.ref (gg_o g 1)] (wI wd_C g S)) (qc_i wd_C g S q) 0 0 (aw g) := by
  refine mt_start (own := RX3) hg (by decide) rfl (Nat.le_of_ble_eq_true rfl) (fun p e s m args below meth c ls H locs cx hw hr hlk hl => ?_)
  have hx := cx.1
  have hb := cx.2.1
  have hown := cx.2.2.2.1
  have hts := cx.2.2.2.2.1
  have hl : lv_has ls 3 [(0, .ref (gg_o g 1))] := hl
  replace hf := h_top hf
  unfold f_X3_tooMany at hf
  have J43 : ∀ (ls : Array Slot) (H : Heap) (locs : List Loc) (y0 : Int32), lv_has ls 3 [(0, .ref (gg_o g 1))] → HH wd_C g s S H locs → (f_X3_tooMany_J43  S y0).bind some = some q → W p l e rm_X3_tooMany s m args below meth c H locs 0 0 (MQ below (qc_i wd_C g S q) args s 0 0 (aw g)) (F0 m 43 ls [.int y0]) := by
    intro ls H locs y0 hl hw hf
    unfold f_X3_tooMany_J43 at hf
    refine lv_istore_n hx hb dX3_tooMany_43 rfl hl (by decide) (lv' := [(2, .int y0), (0, .ref (gg_o g 1))]) rfl (fun ls hl => ?_)
    refine lv_iload_n hx hb dX3_tooMany_44 rfl (lv_at hl 0 rfl) ?_
    refine lv_if_ne hx hb dX3_tooMany_45 (tgt := 65) rfl (fun hc3 => ?_) (fun hc3 => ?_)
    · replace hf := h_neg hc3 hf
      refine lv_iconst (v := 1) hx hb dX3_tooMany_65 (by decide) ?_
      refine lv_goto hx hb dX3_tooMany_66 (tgt := 70) rfl ?_
      exact r_zret cx hw hr hlk (Or.inr rfl) hf dX3_tooMany_70
    replace hf := h_pos hc3 hf
    refine lv_aload_n hx hb dX3_tooMany_48 rfl (lv_at hl 1 rfl) ?_
    refine gf_X3_174 cx hw h1 dX3_tooMany_49 ?_
    refine lv_iconst (v := 4) hx hb dX3_tooMany_52 (by decide) ?_
    refine lv_icmp_gt hx hb dX3_tooMany_53 (tgt := 65) rfl (fun hc4 => ?_) (fun hc4 => ?_)
    · replace hf := h_pos hc4 hf
      refine lv_iconst (v := 1) hx hb dX3_tooMany_65 (by decide) ?_
      refine lv_goto hx hb dX3_tooMany_66 (tgt := 70) rfl ?_
      exact r_zret cx hw hr hlk (Or.inr rfl) hf dX3_tooMany_70
    replace hf := h_neg hc4 hf
    refine lv_aload_n hx hb dX3_tooMany_56 rfl (lv_at hl 1 rfl) ?_
    refine gf_X3_171 cx hw h1 dX3_tooMany_57 ?_
    refine lv_bipush (v := 6) hx hb dX3_tooMany_60 (by decide) ?_
    refine lv_icmp_le hx hb dX3_tooMany_62 (tgt := 69) rfl (fun hc5 => ?_) (fun hc5 => ?_)
    · replace hf := h_pos hc5 hf
      refine lv_iconst (v := 0) hx hb dX3_tooMany_69 (by decide) ?_
      exact r_zret cx hw hr hlk (Or.inl rfl) hf dX3_tooMany_70
    replace hf := h_neg hc5 hf
    refine lv_iconst (v := 1) hx hb dX3_tooMany_65 (by decide) ?_
    refine lv_goto hx hb dX3_tooMany_66 (tgt := 70) rfl ?_
    exact r_zret cx hw hr hlk (Or.inr rfl) hf dX3_tooMany_70
  have J42 : ∀ (ls : Array Slot) (H : Heap) (locs : List Loc) , lv_has ls 3 [(0, .ref (gg_o g 1))] → HH wd_C g s S H locs → (f_X3_tooMany_J42  S ).bind some = some q → W p l e rm_X3_tooMany s m args below meth c H locs 0 0 (MQ below (qc_i wd_C g S q) args s 0 0 (aw g)) (F0 m 42 ls []) := by
    intro ls H locs  hl hw hf
    unfold f_X3_tooMany_J42 at hf
    refine lv_iconst (v := 0) hx hb dX3_tooMany_42 (by decide) ?_
    exact J43 _ _ _ (0 : Int32) (lv_sub hl [0] rfl) hw hf
  refine lv_aload_n hx hb dX3_tooMany_0 rfl (lv_at hl 0 rfl) ?_
  refine gf_X3_95 cx hw h1 dX3_tooMany_1 ?_
  refine lv_sipush (v := 200) hx hb dX3_tooMany_4 (by decide) ?_
  refine lv_isub hx hb dX3_tooMany_7 ?_
  refine lv_istore_n hx hb dX3_tooMany_8 rfl hl (by decide) (lv' := [(1, .int ((st_I S (ky 1 8)) - (200 : Int32))), (0, .ref (gg_o g 1))]) rfl (fun ls hl => ?_)
  refine lv_iload_n hx hb dX3_tooMany_9 rfl (lv_at hl 0 rfl) ?_
  refine va_gets hx hb (st_Z cx) hw.2 hown (hts _ wd_30) (fun _ h => h) dX3_tooMany_10 ?_
  refine r_tlen cx hw dX3_tooMany_13 ?_
  refine r_SN_i (As := [.int ((st_I S (ky 1 8)) - (200 : Int32)), .int (8 : Int32)]) (rest := []) cx hw hf (nw_at cx) lk_X3_164 (fun q1 hq => k_X5_within l g hg   S ((st_I S (ky 1 8)) - (200 : Int32)) (8 : Int32) q1 hq) ⟨⟨rfl, rfl⟩, Nat.le_of_ble_eq_true rfl, Nat.le_of_ble_eq_true rfl⟩ rfl hl.1 rfl (Nat.le_of_ble_eq_true rfl) dX3_tooMany_14 ⟨Nat.zero_le _, Nat.zero_le _⟩ (fun q1 H locs hw hf => ?_)
  refine lv_if_eq hx hb dX3_tooMany_17 (tgt := 42) rfl (fun hc2 => ?_) (fun hc2 => ?_)
  · replace hf := h_pos hc2 hf
    exact J42 _ _ _ (lv_sub hl [1] rfl) hw hf
  replace hf := h_neg hc2 hf
  refine lv_aload_n hx hb dX3_tooMany_20 rfl (lv_at hl 1 rfl) ?_
  refine gf_X3_32 cx hw h1 dX3_tooMany_21 ?_
  refine lv_iload_n hx hb dX3_tooMany_24 rfl (lv_at hl 0 rfl) ?_
  refine r_SN_i (As := [.ref (gg_a g (ky 1 7)), .int ((st_I S (ky 1 8)) - (200 : Int32))]) (rest := []) cx hw hf (nw_at cx) lk_X3_109 (fun q6 hq => k_X5_at l g hg (ky 1 7) (h1.2.2.1 7 rfl) S ((st_I S (ky 1 8)) - (200 : Int32)) q6 hq) ⟨⟨rfl, rfl⟩, Nat.le_of_ble_eq_true rfl, Nat.le_of_ble_eq_true rfl⟩ rfl hl.1 rfl (Nat.le_of_ble_eq_true rfl) dX3_tooMany_25 ⟨Nat.zero_le _, Nat.zero_le _⟩ (fun q6 H locs hw hf => ?_)
  refine va_gets hx hb (st_Z cx) hw.2 hown (hts _ wd_30) (fun _ h => h) dX3_tooMany_28 ?_
  refine lv_iload_n hx hb dX3_tooMany_31 rfl (lv_at hl 0 rfl) ?_
  refine r_SN_i (As := [.ref (gg_t g), .int ((st_I S (ky 1 8)) - (200 : Int32))]) (rest := [.int q6]) cx hw hf (nw_at cx) lk_X3_109 (fun q7 hq => k_X5_atT l g hg   S ((st_I S (ky 1 8)) - (200 : Int32)) q7 hq) ⟨⟨rfl, rfl⟩, Nat.le_of_ble_eq_true rfl, Nat.le_of_ble_eq_true rfl⟩ rfl hl.1 rfl (Nat.le_of_ble_eq_true rfl) dX3_tooMany_32 ⟨Nat.zero_le _, Nat.zero_le _⟩ (fun q7 H locs hw hf => ?_)
  refine lv_icmp_le hx hb dX3_tooMany_35 (tgt := 42) rfl (fun hc8 => ?_) (fun hc8 => ?_)
  · replace hf := h_pos hc8 hf
    exact J42 _ _ _ (lv_sub hl [1] rfl) hw hf
  replace hf := h_neg hc8 hf
  refine lv_iconst (v := 1) hx hb dX3_tooMany_38 (by decide) ?_
  refine lv_goto hx hb dX3_tooMany_39 (tgt := 43) rfl ?_
  exact J43 _ _ _ (1 : Int32) (lv_sub hl [1] rfl) hw hf
theorem dX3_add_0 : decode cX3_add 0 = .ok (.aload_n 0, 1) := by decide +kernel
theorem dX3_add_1 : decode cX3_add 1 = .ok (.getfield 15, 3) := by decide +kernel
theorem dX3_add_4 : decode cX3_add 4 = .ok (.aload_n 0, 1) := by decide +kernel
theorem dX3_add_5 : decode cX3_add 5 = .ok (.getfield 98, 3) := by decide +kernel
theorem dX3_add_8 : decode cX3_add 8 = .ok (.iload_n 1, 1) := by decide +kernel
theorem dX3_add_9 : decode cX3_add 9 = .ok (.invokestatic 101, 3) := by decide +kernel
theorem dX3_add_12 : decode cX3_add 12 = .ok (.aload_n 0, 1) := by decide +kernel
theorem dX3_add_13 : decode cX3_add 13 = .ok (.getfield 19, 3) := by decide +kernel
theorem dX3_add_16 : decode cX3_add 16 = .ok (.aload_n 0, 1) := by decide +kernel
theorem dX3_add_17 : decode cX3_add 17 = .ok (.getfield 98, 3) := by decide +kernel
theorem dX3_add_20 : decode cX3_add 20 = .ok (.iload_n 2, 1) := by decide +kernel
theorem dX3_add_21 : decode cX3_add 21 = .ok (.invokestatic 101, 3) := by decide +kernel
theorem dX3_add_24 : decode cX3_add 24 = .ok (.aload_n 0, 1) := by decide +kernel
theorem dX3_add_25 : decode cX3_add 25 = .ok (.getfield 22, 3) := by decide +kernel
theorem dX3_add_28 : decode cX3_add 28 = .ok (.aload_n 0, 1) := by decide +kernel
theorem dX3_add_29 : decode cX3_add 29 = .ok (.getfield 98, 3) := by decide +kernel
theorem dX3_add_32 : decode cX3_add 32 = .ok (.aload_n 0, 1) := by decide +kernel
theorem dX3_add_33 : decode cX3_add 33 = .ok (.getfield 105, 3) := by decide +kernel
theorem dX3_add_36 : decode cX3_add 36 = .ok (.invokestatic 51, 3) := by decide +kernel
theorem dX3_add_39 : decode cX3_add 39 = .ok (.aload_n 0, 1) := by decide +kernel
theorem dX3_add_40 : decode cX3_add 40 = .ok (.dup, 1) := by decide +kernel
theorem dX3_add_41 : decode cX3_add 41 = .ok (.getfield 98, 3) := by decide +kernel
theorem dX3_add_44 : decode cX3_add 44 = .ok (.iconst 1, 1) := by decide +kernel
theorem dX3_add_45 : decode cX3_add 45 = .ok (.iadd, 1) := by decide +kernel
theorem dX3_add_46 : decode cX3_add 46 = .ok (.putfield 98, 3) := by decide +kernel
theorem dX3_add_49 : decode cX3_add 49 = .ok (.return_, 1) := by decide +kernel
abbrev rm_X3_add : Room := { frames := 1, cells := 0, slots := 0, locals := 23 }
def f_X3_add (S : St) (x1 : Int32) (x2 : Int32) : Option (St) :=
  (f_X5_put (ky 1 1) S (st_I S (ky 1 4)) x1).bind (fun (q1 : St) => (f_X5_put (ky 1 2) q1 (st_I q1 (ky 1 4)) x2).bind (fun (q2 : St) => (f_X5_putLong (ky 1 3) q2 (st_I q2 (ky 1 4)) (st_J q2 (ky 1 6))).bind (fun (q3 : St) => lt_v (up_I q3 (ky 1 4) ((st_I q3 (ky 1 4)) + (1 : Int32))) (fun (S4 : St) => some S4))))
set_option maxRecDepth 100000 in
set_option maxHeartbeats 4000000 in
theorem k_X3_add (l : Launch) (g : GG) (hg : gd wd_C g)  (h1 : hs wd_C g 1 3) (S : St) (x1 : Int32) (x2 : Int32) (q : St) (hf : f_X3_add  S x1 x2 = some q) : Met l yX3_add (Cond.code yX3_add cX3_add 3 none :: gw_tbl) rm_X3_add (va_Pc [.ref (gg_o g 1), .int x1, .int x2] (wI wd_C g S)) (qc_v wd_C g q) 0 0 (aw g) := by
  refine mt_start (own := RX3) hg (by decide) rfl (Nat.le_of_ble_eq_true rfl) (fun p e s m args below meth c ls H locs cx hw hr hlk hl => ?_)
  have hx := cx.1
  have hb := cx.2.1
  have hown := cx.2.2.2.1
  have hts := cx.2.2.2.2.1
  have hl : lv_has ls 3 [(0, .ref (gg_o g 1)), (1, .int x1), (2, .int x2)] := hl
  replace hf := h_top hf
  unfold f_X3_add at hf
  refine lv_aload_n hx hb dX3_add_0 rfl (lv_at hl 0 rfl) ?_
  refine gf_X3_15 cx hw h1 dX3_add_1 ?_
  refine lv_aload_n hx hb dX3_add_4 rfl (lv_at hl 0 rfl) ?_
  refine gf_X3_98 cx hw h1 dX3_add_5 ?_
  refine lv_iload_n hx hb dX3_add_8 rfl (lv_at hl 1 rfl) ?_
  refine r_SN_v (As := [.ref (gg_a g (ky 1 1)), .int (st_I S (ky 1 4)), .int x1]) (rest := []) cx hw hf (nw_at cx) lk_X3_101 (fun q1 hq => k_X5_put l g hg (ky 1 1) (h1.2.2.1 1 rfl) S (st_I S (ky 1 4)) x1 q1 hq) ⟨⟨rfl, rfl⟩, Nat.le_of_ble_eq_true rfl, Nat.le_of_ble_eq_true rfl⟩ rfl hl.1 rfl (Nat.le_of_ble_eq_true rfl) dX3_add_9 ⟨Nat.zero_le _, Nat.zero_le _⟩ (fun q1 H locs hw hf => ?_)
  refine lv_aload_n hx hb dX3_add_12 rfl (lv_at hl 0 rfl) ?_
  refine gf_X3_19 cx hw h1 dX3_add_13 ?_
  refine lv_aload_n hx hb dX3_add_16 rfl (lv_at hl 0 rfl) ?_
  refine gf_X3_98 cx hw h1 dX3_add_17 ?_
  refine lv_iload_n hx hb dX3_add_20 rfl (lv_at hl 2 rfl) ?_
  refine r_SN_v (As := [.ref (gg_a g (ky 1 2)), .int (st_I q1 (ky 1 4)), .int x2]) (rest := []) cx hw hf (nw_at cx) lk_X3_101 (fun q2 hq => k_X5_put l g hg (ky 1 2) (h1.2.2.1 2 rfl) q1 (st_I q1 (ky 1 4)) x2 q2 hq) ⟨⟨rfl, rfl⟩, Nat.le_of_ble_eq_true rfl, Nat.le_of_ble_eq_true rfl⟩ rfl hl.1 rfl (Nat.le_of_ble_eq_true rfl) dX3_add_21 ⟨Nat.zero_le _, Nat.zero_le _⟩ (fun q2 H locs hw hf => ?_)
  refine lv_aload_n hx hb dX3_add_24 rfl (lv_at hl 0 rfl) ?_
  refine gf_X3_22 cx hw h1 dX3_add_25 ?_
  refine lv_aload_n hx hb dX3_add_28 rfl (lv_at hl 0 rfl) ?_
  refine gf_X3_98 cx hw h1 dX3_add_29 ?_
  refine lv_aload_n hx hb dX3_add_32 rfl (lv_at hl 0 rfl) ?_
  refine gf_X3_105 cx hw h1 dX3_add_33 ?_
  refine r_SN_v (As := [.ref (gg_l g (ky 1 3)), .int (st_I q2 (ky 1 4)), .long (st_J q2 (ky 1 6))]) (rest := []) cx hw hf (nw_at cx) lk_X3_51 (fun q3 hq => k_X5_putLong l g hg (ky 1 3) (h1.2.2.2.1 3 rfl) q2 (st_I q2 (ky 1 4)) (st_J q2 (ky 1 6)) q3 hq) ⟨⟨rfl, rfl⟩, Nat.le_of_ble_eq_true rfl, Nat.le_of_ble_eq_true rfl⟩ rfl hl.1 rfl (Nat.le_of_ble_eq_true rfl) dX3_add_36 ⟨Nat.zero_le _, Nat.zero_le _⟩ (fun q3 H locs hw hf => ?_)
  refine lv_aload_n hx hb dX3_add_39 rfl (lv_at hl 0 rfl) ?_
  refine lv_dup hx hb dX3_add_40 rfl ?_
  refine gf_X3_98 cx hw h1 dX3_add_41 ?_
  refine lv_iconst (v := 1) hx hb dX3_add_44 (by decide) ?_
  refine lv_iadd hx hb dX3_add_45 ?_
  refine pf_X3_98 cx hw h1 hf dX3_add_46 (fun S4 H locs hw hf => ?_)
  exact r_vret cx hw hr hlk hf dX3_add_49
theorem dX3_scan_0 : decode cX3_scan 0 = .ok (.aload_n 0, 1) := by decide +kernel
theorem dX3_scan_1 : decode cX3_scan 1 = .ok (.invokevirtual 67, 3) := by decide +kernel
theorem dX3_scan_4 : decode cX3_scan 4 = .ok (.aload_n 1, 1) := by decide +kernel
theorem dX3_scan_5 : decode cX3_scan 5 = .ok (.iload_n 2, 1) := by decide +kernel
theorem dX3_scan_6 : decode cX3_scan 6 = .ok (.iconst 0, 1) := by decide +kernel
theorem dX3_scan_7 : decode cX3_scan 7 = .ok (.invokestatic 70, 3) := by decide +kernel
theorem dX3_scan_10 : decode cX3_scan 10 = .ok (.istore_n 3, 1) := by decide +kernel
theorem dX3_scan_11 : decode cX3_scan 11 = .ok (.iconst 0, 1) := by decide +kernel
theorem dX3_scan_12 : decode cX3_scan 12 = .ok (.istore 4, 2) := by decide +kernel
theorem dX3_scan_14 : decode cX3_scan 14 = .ok (.iload 4, 2) := by decide +kernel
theorem dX3_scan_16 : decode cX3_scan 16 = .ok (.sipush 400, 3) := by decide +kernel
theorem dX3_scan_19 : decode cX3_scan 19 = .ok (.if_icmp .gt 85, 3) := by decide +kernel
theorem dX3_scan_22 : decode cX3_scan 22 = .ok (.iload_n 3, 1) := by decide +kernel
theorem dX3_scan_23 : decode cX3_scan 23 = .ok (.iload_n 2, 1) := by decide +kernel
theorem dX3_scan_24 : decode cX3_scan 24 = .ok (.if_icmp .ge 80, 3) := by decide +kernel
theorem dX3_scan_27 : decode cX3_scan 27 = .ok (.aload_n 1, 1) := by decide +kernel
theorem dX3_scan_28 : decode cX3_scan 28 = .ok (.iload_n 2, 1) := by decide +kernel
theorem dX3_scan_29 : decode cX3_scan 29 = .ok (.iload_n 3, 1) := by decide +kernel
theorem dX3_scan_30 : decode cX3_scan 30 = .ok (.invokestatic 74, 3) := by decide +kernel
theorem dX3_scan_33 : decode cX3_scan 33 = .ok (.istore 5, 2) := by decide +kernel
theorem dX3_scan_35 : decode cX3_scan 35 = .ok (.aload_n 0, 1) := by decide +kernel
theorem dX3_scan_36 : decode cX3_scan 36 = .ok (.aload_n 1, 1) := by decide +kernel
theorem dX3_scan_37 : decode cX3_scan 37 = .ok (.iload_n 3, 1) := by decide +kernel
theorem dX3_scan_38 : decode cX3_scan 38 = .ok (.iload 5, 2) := by decide +kernel
theorem dX3_scan_40 : decode cX3_scan 40 = .ok (.invokevirtual 77, 3) := by decide +kernel
theorem dX3_scan_43 : decode cX3_scan 43 = .ok (.istore 6, 2) := by decide +kernel
theorem dX3_scan_45 : decode cX3_scan 45 = .ok (.aload_n 0, 1) := by decide +kernel
theorem dX3_scan_46 : decode cX3_scan 46 = .ok (.iload 6, 2) := by decide +kernel
theorem dX3_scan_48 : decode cX3_scan 48 = .ok (.invokevirtual 80, 3) := by decide +kernel
theorem dX3_scan_51 : decode cX3_scan 51 = .ok (.ifCond .ne 10, 3) := by decide +kernel
theorem dX3_scan_54 : decode cX3_scan 54 = .ok (.aload_n 0, 1) := by decide +kernel
theorem dX3_scan_55 : decode cX3_scan 55 = .ok (.iconst 1, 1) := by decide +kernel
theorem dX3_scan_56 : decode cX3_scan 56 = .ok (.iload_n 3, 1) := by decide +kernel
theorem dX3_scan_57 : decode cX3_scan 57 = .ok (.invokevirtual 84, 3) := by decide +kernel
theorem dX3_scan_60 : decode cX3_scan 60 = .ok (.ireturn, 1) := by decide +kernel
theorem dX3_scan_61 : decode cX3_scan 61 = .ok (.iload 4, 2) := by decide +kernel
theorem dX3_scan_63 : decode cX3_scan 63 = .ok (.sipush 400, 3) := by decide +kernel
theorem dX3_scan_66 : decode cX3_scan 66 = .ok (.if_icmp .eq 10, 3) := by decide +kernel
theorem dX3_scan_69 : decode cX3_scan 69 = .ok (.aload_n 0, 1) := by decide +kernel
theorem dX3_scan_70 : decode cX3_scan 70 = .ok (.invokevirtual 87, 3) := by decide +kernel
theorem dX3_scan_73 : decode cX3_scan 73 = .ok (.ifCond .eq 10, 3) := by decide +kernel
theorem dX3_scan_76 : decode cX3_scan 76 = .ok (.aload_n 0, 1) := by decide +kernel
theorem dX3_scan_77 : decode cX3_scan 77 = .ok (.iconst 2, 1) := by decide +kernel
theorem dX3_scan_78 : decode cX3_scan 78 = .ok (.iload_n 3, 1) := by decide +kernel
theorem dX3_scan_79 : decode cX3_scan 79 = .ok (.invokevirtual 84, 3) := by decide +kernel
theorem dX3_scan_82 : decode cX3_scan 82 = .ok (.ireturn, 1) := by decide +kernel
theorem dX3_scan_83 : decode cX3_scan 83 = .ok (.aload_n 0, 1) := by decide +kernel
theorem dX3_scan_84 : decode cX3_scan 84 = .ok (.iload 6, 2) := by decide +kernel
theorem dX3_scan_86 : decode cX3_scan 86 = .ok (.iload_n 3, 1) := by decide +kernel
theorem dX3_scan_87 : decode cX3_scan 87 = .ok (.invokevirtual 91, 3) := by decide +kernel
theorem dX3_scan_90 : decode cX3_scan 90 = .ok (.aload_n 1, 1) := by decide +kernel
theorem dX3_scan_91 : decode cX3_scan 91 = .ok (.iload_n 2, 1) := by decide +kernel
theorem dX3_scan_92 : decode cX3_scan 92 = .ok (.iload 5, 2) := by decide +kernel
theorem dX3_scan_94 : decode cX3_scan 94 = .ok (.invokestatic 70, 3) := by decide +kernel
theorem dX3_scan_97 : decode cX3_scan 97 = .ok (.istore_n 3, 1) := by decide +kernel
theorem dX3_scan_98 : decode cX3_scan 98 = .ok (.iinc 4 1, 3) := by decide +kernel
theorem dX3_scan_101 : decode cX3_scan 101 = .ok (.goto (-87), 3) := by decide +kernel
theorem dX3_scan_104 : decode cX3_scan 104 = .ok (.aload_n 0, 1) := by decide +kernel
theorem dX3_scan_105 : decode cX3_scan 105 = .ok (.getfield 95, 3) := by decide +kernel
theorem dX3_scan_108 : decode cX3_scan 108 = .ok (.iconst (-1), 1) := by decide +kernel
theorem dX3_scan_109 : decode cX3_scan 109 = .ok (.if_icmp .ne 7, 3) := by decide +kernel
theorem dX3_scan_112 : decode cX3_scan 112 = .ok (.iconst 0, 1) := by decide +kernel
theorem dX3_scan_113 : decode cX3_scan 113 = .ok (.goto 9, 3) := by decide +kernel
theorem dX3_scan_116 : decode cX3_scan 116 = .ok (.aload_n 0, 1) := by decide +kernel
theorem dX3_scan_117 : decode cX3_scan 117 = .ok (.iconst 1, 1) := by decide +kernel
theorem dX3_scan_118 : decode cX3_scan 118 = .ok (.iload_n 2, 1) := by decide +kernel
theorem dX3_scan_119 : decode cX3_scan 119 = .ok (.invokevirtual 84, 3) := by decide +kernel
theorem dX3_scan_122 : decode cX3_scan 122 = .ok (.ireturn, 1) := by decide +kernel
abbrev rm_X3_scan : Room := { frames := 5, cells := 0, slots := 0, locals := 121 }
def f_X3_scan_J76 (k1 : Nat) (S : St) (x3 : Int32) : Option ((Int32 × Int32 × St) ⊕ ((St) ⊕ (Int32 × St))) :=
  (f_X3_fail  S (2 : Int32) x3).bind (fun (q10 : Int32 × St) => some (.inr (.inr (q10.1, q10.2))))
def f_X3_scan_L14 (k1 : Nat) (x2 : Int32) (z14 : Int32 × Int32 × St) : Option ((Int32 × Int32 × St) ⊕ ((St) ⊕ (Int32 × St))) :=
  if (400 : Int32) < z14.2.1 then (some (.inr (.inl z14.2.2))) else (if x2 ≤ z14.1 then (some (.inr (.inl z14.2.2))) else ((f_X3_tokenEnd k1 z14.2.2 x2 z14.1).bind (fun (q5 : Int32) => (f_X3_kindOf k1 z14.2.2 z14.1 q5).bind (fun (q6 : Int32 × St) => (f_X3_goesOn  q6.2 q6.1).bind (fun (q7 : Int32 × St) => if q7.1 = 0 then ((f_X3_fail  q7.2 (1 : Int32) z14.1).bind (fun (q15 : Int32 × St) => some (.inr (.inr (q15.1, q15.2))))) else (if z14.2.1 = (400 : Int32) then (f_X3_scan_J76 k1 q7.2 z14.1) else ((f_X3_tooMany  q7.2 ).bind (fun (q11 : Int32) => if q11 = 0 then ((f_X3_add  q7.2 q6.1 z14.1).bind (fun (q13 : St) => (f_X3_nextByte k1 q13 x2 q5).bind (fun (q14 : Int32) => some (.inl (q14, (z14.2.1 + 1), q13))))) else (f_X3_scan_J76 k1 q7.2 z14.1)))))))))
def f_X3_scan_J104 (k1 : Nat) (S : St) (x2 : Int32) : Option (Int32 × St) :=
  if (st_I S (ky 1 8)) = (-1 : Int32) then (some ((0 : Int32), S)) else ((f_X3_fail  S (1 : Int32) x2).bind (fun (q18 : Int32 × St) => some (q18.1, q18.2)))
def f_X3_scan (k1 : Nat) (S : St) (x2 : Int32) : Option (Int32 × St) :=
  (f_X3_clear  S ).bind (fun (q1 : St) => (f_X3_nextByte k1 q1 x2 (0 : Int32)).bind (fun (q2 : Int32) => (iter (f_X3_scan_L14 k1  x2) FU (q2, (0 : Int32), q1)).bind fun z => match z with | .inl z => (fun (S16 : St) => f_X3_scan_J104 k1 S16 x2) z | .inr v20 => some v20))
set_option maxRecDepth 100000 in
set_option maxHeartbeats 4000000 in
theorem k_X3_scan (l : Launch) (g : GG) (hg : gd wd_C g) (k1 : Nat) (h1 : hs wd_C g 1 3) (hk1 : k1 ∈ gg_as g) (S : St) (x2 : Int32) (q : Int32 × St) (hf : f_X3_scan k1 S x2 = some q) : Met l yX3_scan (Cond.code yX3_scan cX3_scan 7 (some .int) :: gw_tbl) rm_X3_scan (va_Pc [.ref (gg_o g 1), .ref (gg_a g k1), .int x2] (wI wd_C g S)) (qc_w wd_C g q) 0 0 (aw g) := by
  refine mt_start (own := RX3) hg (by decide) rfl (Nat.le_of_ble_eq_true rfl) (fun p e s m args below meth c ls H locs cx hw hr hlk hl => ?_)
  have hx := cx.1
  have hb := cx.2.1
  have hown := cx.2.2.2.1
  have hts := cx.2.2.2.2.1
  have hl : lv_has ls 7 [(0, .ref (gg_o g 1)), (1, .ref (gg_a g k1)), (2, .int x2)] := hl
  replace hf := h_top hf
  unfold f_X3_scan at hf
  have J104 : ∀ (ls : Array Slot) (H : Heap) (locs : List Loc) (S : St) (x2 : Int32), lv_has ls 7 [(0, .ref (gg_o g 1)), (2, .int x2)] → HH wd_C g s S H locs → (f_X3_scan_J104 k1 S x2).bind some = some q → W p l e rm_X3_scan s m args below meth c H locs 0 0 (MQ below (qc_w wd_C g q) args s 0 0 (aw g)) (F0 m 104 ls []) := by
    intro ls H locs S x2 hl hw hf
    unfold f_X3_scan_J104 at hf
    refine lv_aload_n hx hb dX3_scan_104 rfl (lv_at hl 0 rfl) ?_
    refine gf_X3_95 cx hw h1 dX3_scan_105 ?_
    refine lv_iconst (v := -1) hx hb dX3_scan_108 (by decide) ?_
    refine lv_icmp_ne hx hb dX3_scan_109 (tgt := 116) rfl (fun hc17 => ?_) (fun hc17 => ?_)
    · replace hf := h_neg hc17 hf
      refine lv_aload_n hx hb dX3_scan_116 rfl (lv_at hl 0 rfl) ?_
      refine lv_iconst (v := 1) hx hb dX3_scan_117 (by decide) ?_
      refine lv_iload_n hx hb dX3_scan_118 rfl (lv_at hl 1 rfl) ?_
      refine r_V_w (As := [.int (1 : Int32), .int x2]) (rest := []) cx hw hf h1.2.1 (by rw [h1.1]; rfl) lk_X3_84 (fun q18 hq => k_X3_fail l g hg  h1 S (1 : Int32) x2 q18 hq) ⟨⟨rfl, rfl⟩, Nat.le_of_ble_eq_true rfl, Nat.le_of_ble_eq_true rfl⟩ rfl hl.1 rfl (Nat.le_of_ble_eq_true rfl) dX3_scan_119 ⟨Nat.zero_le _, Nat.zero_le _⟩ (fun q18 H locs hw hf => ?_)
      exact r_iretw cx hw hr hlk hf dX3_scan_122
    replace hf := h_pos hc17 hf
    refine lv_iconst (v := 0) hx hb dX3_scan_112 (by decide) ?_
    refine lv_goto hx hb dX3_scan_113 (tgt := 122) rfl ?_
    exact r_iretw cx hw hr hlk hf dX3_scan_122
  refine lv_aload_n hx hb dX3_scan_0 rfl (lv_at hl 0 rfl) ?_
  refine r_V_v (As := []) (rest := []) cx hw hf h1.2.1 (by rw [h1.1]; rfl) lk_X3_67 (fun q1 hq => k_X3_clear l g hg  h1 S  q1 hq) ⟨⟨rfl, rfl⟩, Nat.le_of_ble_eq_true rfl, Nat.le_of_ble_eq_true rfl⟩ rfl hl.1 rfl (Nat.le_of_ble_eq_true rfl) dX3_scan_1 ⟨Nat.zero_le _, Nat.zero_le _⟩ (fun q1 H locs hw hf => ?_)
  refine lv_aload_n hx hb dX3_scan_4 rfl (lv_at hl 1 rfl) ?_
  refine lv_iload_n hx hb dX3_scan_5 rfl (lv_at hl 2 rfl) ?_
  refine lv_iconst (v := 0) hx hb dX3_scan_6 (by decide) ?_
  refine r_S_i (As := [.ref (gg_a g k1), .int x2, .int (0 : Int32)]) (rest := []) cx hw hf lk_X3_70 (fun q2 hq => k_X3_nextByte l g hg k1 hk1 q1 x2 (0 : Int32) q2 hq) ⟨⟨rfl, rfl⟩, Nat.le_of_ble_eq_true rfl, Nat.le_of_ble_eq_true rfl⟩ rfl hl.1 rfl (Nat.le_of_ble_eq_true rfl) dX3_scan_7 ⟨Nat.zero_le _, Nat.zero_le _⟩ (fun q2 H locs hw hf => ?_)
  refine lv_istore_n hx hb dX3_scan_10 rfl hl (by decide) (lv' := [(3, .int q2), (0, .ref (gg_o g 1)), (1, .ref (gg_a g k1)), (2, .int x2)]) rfl (fun ls hl => ?_)
  refine lv_iconst (v := 0) hx hb dX3_scan_11 (by decide) ?_
  refine lv_istore hx hb dX3_scan_12 hl (by decide) (lv' := [(4, .int (0 : Int32)), (3, .int q2), (0, .ref (gg_o g 1)), (1, .ref (gg_a g k1)), (2, .int x2)]) rfl (fun ls hl => ?_)
  have L14 : ∀ (x2 : Int32) (aft14 : ((St) ⊕ (Int32 × St)) → Option (Int32 × St)), (∀ (ls : Array Slot) (H : Heap) (locs : List Loc) (S1 : St), lv_has ls 7 [(0, .ref (gg_o g 1)), (2, .int x2)] → HH wd_C g s S1 H locs → aft14 (.inl S1) = some q → W p l e rm_X3_scan s m args below meth c H locs 0 0 (MQ below (qc_w wd_C g q) args s 0 0 (aw g)) (F0 m 104 ls [])) → (∀ v : Int32 × St, aft14 (.inr v) = some q → (some v : Option (Int32 × St)).bind some = some q) → ∀ (n14 : Nat) (ls : Array Slot) (H : Heap) (locs : List Loc) (z14 : Int32 × Int32 × St), lv_has ls 7 [(0, .ref (gg_o g 1)), (1, .ref (gg_a g k1)), (2, .int x2), (3, .int z14.1), (4, .int z14.2.1)] → HH wd_C g s z14.2.2 H locs → (iter (f_X3_scan_L14 k1  x2) n14 z14).bind aft14 = some q → W p l e rm_X3_scan s m args below meth c H locs 0 0 (MQ below (qc_w wd_C g q) args s 0 0 (aw g)) (F0 m 14 ls []) := by
    intro x2 aft14 hX14 hR14 n14
    induction n14 with
    | zero => intro ls H locs z14 hl hw hf; exact h_iter0 hf
    | succ n14 ih14 =>
      intro ls H locs z14 hl hw hf
      replace hf := h_iter hf
      unfold f_X3_scan_L14 at hf
      have J76 : ∀ (ls : Array Slot) (H : Heap) (locs : List Loc) (S : St) (x3 : Int32), lv_has ls 7 [(0, .ref (gg_o g 1)), (3, .int x3)] → HH wd_C g s S H locs → (f_X3_scan_J76 k1 S x3).bind (it_K (f_X3_scan_L14 k1  x2) n14 aft14) = some q → W p l e rm_X3_scan s m args below meth c H locs 0 0 (MQ below (qc_w wd_C g q) args s 0 0 (aw g)) (F0 m 76 ls []) := by
        intro ls H locs S x3 hl hw hf
        unfold f_X3_scan_J76 at hf
        refine lv_aload_n hx hb dX3_scan_76 rfl (lv_at hl 0 rfl) ?_
        refine lv_iconst (v := 2) hx hb dX3_scan_77 (by decide) ?_
        refine lv_iload_n hx hb dX3_scan_78 rfl (lv_at hl 1 rfl) ?_
        refine r_V_w (As := [.int (2 : Int32), .int x3]) (rest := []) cx hw hf h1.2.1 (by rw [h1.1]; rfl) lk_X3_84 (fun q10 hq => k_X3_fail l g hg  h1 S (2 : Int32) x3 q10 hq) ⟨⟨rfl, rfl⟩, Nat.le_of_ble_eq_true rfl, Nat.le_of_ble_eq_true rfl⟩ rfl hl.1 rfl (Nat.le_of_ble_eq_true rfl) dX3_scan_79 ⟨Nat.zero_le _, Nat.zero_le _⟩ (fun q10 H locs hw hf => ?_)
        replace hf := hR14 (q10.1, q10.2) hf
        exact r_iretw cx hw hr hlk hf dX3_scan_82
      refine lv_iload hx hb dX3_scan_14 (lv_at hl 4 rfl) ?_
      refine lv_sipush (v := 400) hx hb dX3_scan_16 (by decide) ?_
      refine lv_icmp_gt hx hb dX3_scan_19 (tgt := 104) rfl (fun hc3 => ?_) (fun hc3 => ?_)
      · replace hf := h_pos hc3 hf
        exact hX14 _ _ _ z14.2.2 (lv_sub hl [0, 2] rfl) hw hf
      replace hf := h_neg hc3 hf
      refine lv_iload_n hx hb dX3_scan_22 rfl (lv_at hl 3 rfl) ?_
      refine lv_iload_n hx hb dX3_scan_23 rfl (lv_at hl 2 rfl) ?_
      refine lv_icmp_ge hx hb dX3_scan_24 (tgt := 104) rfl (fun hc4 => ?_) (fun hc4 => ?_)
      · replace hf := h_pos hc4 hf
        exact hX14 _ _ _ z14.2.2 (lv_sub hl [0, 2] rfl) hw hf
      replace hf := h_neg hc4 hf
      refine lv_aload_n hx hb dX3_scan_27 rfl (lv_at hl 1 rfl) ?_
      refine lv_iload_n hx hb dX3_scan_28 rfl (lv_at hl 2 rfl) ?_
      refine lv_iload_n hx hb dX3_scan_29 rfl (lv_at hl 3 rfl) ?_
      refine r_S_i (As := [.ref (gg_a g k1), .int x2, .int z14.1]) (rest := []) cx hw hf lk_X3_74 (fun q5 hq => k_X3_tokenEnd l g hg k1 hk1 z14.2.2 x2 z14.1 q5 hq) ⟨⟨rfl, rfl⟩, Nat.le_of_ble_eq_true rfl, Nat.le_of_ble_eq_true rfl⟩ rfl hl.1 rfl (Nat.le_of_ble_eq_true rfl) dX3_scan_30 ⟨Nat.zero_le _, Nat.zero_le _⟩ (fun q5 H locs hw hf => ?_)
      refine lv_istore hx hb dX3_scan_33 hl (by decide) (lv' := [(5, .int q5), (0, .ref (gg_o g 1)), (1, .ref (gg_a g k1)), (2, .int x2), (3, .int z14.1), (4, .int z14.2.1)]) rfl (fun ls hl => ?_)
      refine lv_aload_n hx hb dX3_scan_35 rfl (lv_at hl 1 rfl) ?_
      refine lv_aload_n hx hb dX3_scan_36 rfl (lv_at hl 2 rfl) ?_
      refine lv_iload_n hx hb dX3_scan_37 rfl (lv_at hl 4 rfl) ?_
      refine lv_iload hx hb dX3_scan_38 (lv_at hl 0 rfl) ?_
      refine r_V_w (As := [.ref (gg_a g k1), .int z14.1, .int q5]) (rest := []) cx hw hf h1.2.1 (by rw [h1.1]; rfl) lk_X3_77 (fun q6 hq => k_X3_kindOf l g hg k1 h1 hk1 z14.2.2 z14.1 q5 q6 hq) ⟨⟨rfl, rfl⟩, Nat.le_of_ble_eq_true rfl, Nat.le_of_ble_eq_true rfl⟩ rfl hl.1 rfl (Nat.le_of_ble_eq_true rfl) dX3_scan_40 ⟨Nat.zero_le _, Nat.zero_le _⟩ (fun q6 H locs hw hf => ?_)
      refine lv_istore hx hb dX3_scan_43 hl (by decide) (lv' := [(6, .int q6.1), (5, .int q5), (0, .ref (gg_o g 1)), (1, .ref (gg_a g k1)), (2, .int x2), (3, .int z14.1), (4, .int z14.2.1)]) rfl (fun ls hl => ?_)
      refine lv_aload_n hx hb dX3_scan_45 rfl (lv_at hl 2 rfl) ?_
      refine lv_iload hx hb dX3_scan_46 (lv_at hl 0 rfl) ?_
      refine r_V_w (As := [.int q6.1]) (rest := []) cx hw hf h1.2.1 (by rw [h1.1]; rfl) lk_X3_80 (fun q7 hq => k_X3_goesOn l g hg  h1 q6.2 q6.1 q7 hq) ⟨⟨rfl, rfl⟩, Nat.le_of_ble_eq_true rfl, Nat.le_of_ble_eq_true rfl⟩ rfl hl.1 rfl (Nat.le_of_ble_eq_true rfl) dX3_scan_48 ⟨Nat.zero_le _, Nat.zero_le _⟩ (fun q7 H locs hw hf => ?_)
      refine lv_if_ne hx hb dX3_scan_51 (tgt := 61) rfl (fun hc8 => ?_) (fun hc8 => ?_)
      · replace hf := h_neg hc8 hf
        refine lv_iload hx hb dX3_scan_61 (lv_at hl 6 rfl) ?_
        refine lv_sipush (v := 400) hx hb dX3_scan_63 (by decide) ?_
        refine lv_icmp_eq hx hb dX3_scan_66 (tgt := 76) rfl (fun hc9 => ?_) (fun hc9 => ?_)
        · replace hf := h_pos hc9 hf
          exact J76 _ _ _ q7.2 z14.1 (lv_sub hl [2, 5] rfl) hw hf
        replace hf := h_neg hc9 hf
        refine lv_aload_n hx hb dX3_scan_69 rfl (lv_at hl 2 rfl) ?_
        refine r_V_i (As := []) (rest := []) cx hw hf h1.2.1 (by rw [h1.1]; rfl) lk_X3_87 (fun q11 hq => k_X3_tooMany l g hg  h1 q7.2  q11 hq) ⟨⟨rfl, rfl⟩, Nat.le_of_ble_eq_true rfl, Nat.le_of_ble_eq_true rfl⟩ rfl hl.1 rfl (Nat.le_of_ble_eq_true rfl) dX3_scan_70 ⟨Nat.zero_le _, Nat.zero_le _⟩ (fun q11 H locs hw hf => ?_)
        refine lv_if_eq hx hb dX3_scan_73 (tgt := 83) rfl (fun hc12 => ?_) (fun hc12 => ?_)
        · replace hf := h_pos hc12 hf
          refine lv_aload_n hx hb dX3_scan_83 rfl (lv_at hl 2 rfl) ?_
          refine lv_iload hx hb dX3_scan_84 (lv_at hl 0 rfl) ?_
          refine lv_iload_n hx hb dX3_scan_86 rfl (lv_at hl 5 rfl) ?_
          refine r_V_v (As := [.int q6.1, .int z14.1]) (rest := []) cx hw hf h1.2.1 (by rw [h1.1]; rfl) lk_X3_91 (fun q13 hq => k_X3_add l g hg  h1 q7.2 q6.1 z14.1 q13 hq) ⟨⟨rfl, rfl⟩, Nat.le_of_ble_eq_true rfl, Nat.le_of_ble_eq_true rfl⟩ rfl hl.1 rfl (Nat.le_of_ble_eq_true rfl) dX3_scan_87 ⟨Nat.zero_le _, Nat.zero_le _⟩ (fun q13 H locs hw hf => ?_)
          refine lv_aload_n hx hb dX3_scan_90 rfl (lv_at hl 3 rfl) ?_
          refine lv_iload_n hx hb dX3_scan_91 rfl (lv_at hl 4 rfl) ?_
          refine lv_iload hx hb dX3_scan_92 (lv_at hl 1 rfl) ?_
          refine r_S_i (As := [.ref (gg_a g k1), .int x2, .int q5]) (rest := []) cx hw hf lk_X3_70 (fun q14 hq => k_X3_nextByte l g hg k1 hk1 q13 x2 q5 q14 hq) ⟨⟨rfl, rfl⟩, Nat.le_of_ble_eq_true rfl, Nat.le_of_ble_eq_true rfl⟩ rfl hl.1 rfl (Nat.le_of_ble_eq_true rfl) dX3_scan_94 ⟨Nat.zero_le _, Nat.zero_le _⟩ (fun q14 H locs hw hf => ?_)
          refine lv_istore_n hx hb dX3_scan_97 rfl hl (by decide) (lv' := [(3, .int q14), (6, .int q6.1), (5, .int q5), (0, .ref (gg_o g 1)), (1, .ref (gg_a g k1)), (2, .int x2), (4, .int z14.2.1)]) rfl (fun ls hl => ?_)
          refine lv_iinc hx hb dX3_scan_98 hl (k := 6) rfl (congrArg (HAdd.hAdd _) (show Int32.ofInt (1) = 1 by decide)) (by decide) (lv' := [(4, .int (z14.2.1 + 1)), (3, .int q14), (6, .int q6.1), (5, .int q5), (0, .ref (gg_o g 1)), (1, .ref (gg_a g k1)), (2, .int x2)]) rfl (fun ls hl => ?_)
          refine lv_goto hx hb dX3_scan_101 (tgt := 14) rfl ?_
          exact ih14 _ _ _ (q14, (z14.2.1 + 1), q13) (lv_sub hl [4, 5, 6, 1, 0] rfl) hw hf
        replace hf := h_neg hc12 hf
        exact J76 _ _ _ q7.2 z14.1 (lv_sub hl [2, 5] rfl) hw hf
      replace hf := h_pos hc8 hf
      refine lv_aload_n hx hb dX3_scan_54 rfl (lv_at hl 2 rfl) ?_
      refine lv_iconst (v := 1) hx hb dX3_scan_55 (by decide) ?_
      refine lv_iload_n hx hb dX3_scan_56 rfl (lv_at hl 5 rfl) ?_
      refine r_V_w (As := [.int (1 : Int32), .int z14.1]) (rest := []) cx hw hf h1.2.1 (by rw [h1.1]; rfl) lk_X3_84 (fun q15 hq => k_X3_fail l g hg  h1 q7.2 (1 : Int32) z14.1 q15 hq) ⟨⟨rfl, rfl⟩, Nat.le_of_ble_eq_true rfl, Nat.le_of_ble_eq_true rfl⟩ rfl hl.1 rfl (Nat.le_of_ble_eq_true rfl) dX3_scan_57 ⟨Nat.zero_le _, Nat.zero_le _⟩ (fun q15 H locs hw hf => ?_)
      replace hf := hR14 (q15.1, q15.2) hf
      exact r_iretw cx hw hr hlk hf dX3_scan_60
  refine L14 x2 _ (fun ls H locs S16 hl hw hf => ?_) (fun v h => h) FU _ _ _ (q2, (0 : Int32), q1) (lv_sub hl [2, 3, 4, 1, 0] rfl) hw (h_assoc hf)
  try dsimp only at hf
  exact J104 _ _ _ S16 x2 (lv_sub hl [0, 1] rfl) hw hf
