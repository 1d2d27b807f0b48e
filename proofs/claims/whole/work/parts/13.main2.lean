theorem dX5_leastSeen_0 : decode cX5_leastSeen 0 = .ok (.iload_n 2, 1) := by decide +kernel
theorem dX5_leastSeen_1 : decode cX5_leastSeen 1 = .ok (.istore 4, 2) := by decide +kernel
theorem dX5_leastSeen_3 : decode cX5_leastSeen 3 = .ok (.iload_n 3, 1) := by decide +kernel
theorem dX5_leastSeen_4 : decode cX5_leastSeen 4 = .ok (.iconst 1, 1) := by decide +kernel
theorem dX5_leastSeen_5 : decode cX5_leastSeen 5 = .ok (.if_icmp .le 8, 3) := by decide +kernel
theorem dX5_leastSeen_8 : decode cX5_leastSeen 8 = .ok (.iload_n 3, 1) := by decide +kernel
theorem dX5_leastSeen_9 : decode cX5_leastSeen 9 = .ok (.iconst 4, 1) := by decide +kernel
theorem dX5_leastSeen_10 : decode cX5_leastSeen 10 = .ok (.if_icmp .le 6, 3) := by decide +kernel
theorem dX5_leastSeen_13 : decode cX5_leastSeen 13 = .ok (.iload 4, 2) := by decide +kernel
theorem dX5_leastSeen_15 : decode cX5_leastSeen 15 = .ok (.ireturn, 1) := by decide +kernel
theorem dX5_leastSeen_16 : decode cX5_leastSeen 16 = .ok (.iconst 0, 1) := by decide +kernel
theorem dX5_leastSeen_17 : decode cX5_leastSeen 17 = .ok (.istore 5, 2) := by decide +kernel
theorem dX5_leastSeen_19 : decode cX5_leastSeen 19 = .ok (.iload 5, 2) := by decide +kernel
theorem dX5_leastSeen_21 : decode cX5_leastSeen 21 = .ok (.bipush 8, 2) := by decide +kernel
theorem dX5_leastSeen_23 : decode cX5_leastSeen 23 = .ok (.if_icmp .ge 42, 3) := by decide +kernel
theorem dX5_leastSeen_26 : decode cX5_leastSeen 26 = .ok (.aload_n 0, 1) := by decide +kernel
theorem dX5_leastSeen_27 : decode cX5_leastSeen 27 = .ok (.iload_n 1, 1) := by decide +kernel
theorem dX5_leastSeen_28 : decode cX5_leastSeen 28 = .ok (.iload_n 2, 1) := by decide +kernel
theorem dX5_leastSeen_29 : decode cX5_leastSeen 29 = .ok (.iload 5, 2) := by decide +kernel
theorem dX5_leastSeen_31 : decode cX5_leastSeen 31 = .ok (.invokevirtual 187, 3) := by decide +kernel
theorem dX5_leastSeen_34 : decode cX5_leastSeen 34 = .ok (.istore 6, 2) := by decide +kernel
theorem dX5_leastSeen_36 : decode cX5_leastSeen 36 = .ok (.iload 6, 2) := by decide +kernel
theorem dX5_leastSeen_38 : decode cX5_leastSeen 38 = .ok (.ifCond .lt 21, 3) := by decide +kernel
theorem dX5_leastSeen_41 : decode cX5_leastSeen 41 = .ok (.iload 4, 2) := by decide +kernel
theorem dX5_leastSeen_43 : decode cX5_leastSeen 43 = .ok (.aload_n 0, 1) := by decide +kernel
theorem dX5_leastSeen_44 : decode cX5_leastSeen 44 = .ok (.iload 5, 2) := by decide +kernel
theorem dX5_leastSeen_46 : decode cX5_leastSeen 46 = .ok (.iload 6, 2) := by decide +kernel
theorem dX5_leastSeen_48 : decode cX5_leastSeen 48 = .ok (.iload_n 3, 1) := by decide +kernel
theorem dX5_leastSeen_49 : decode cX5_leastSeen 49 = .ok (.iconst 1, 1) := by decide +kernel
theorem dX5_leastSeen_50 : decode cX5_leastSeen 50 = .ok (.isub, 1) := by decide +kernel
theorem dX5_leastSeen_51 : decode cX5_leastSeen 51 = .ok (.invokestatic 220, 3) := by decide +kernel
theorem dX5_leastSeen_54 : decode cX5_leastSeen 54 = .ok (.invokestatic 215, 3) := by decide +kernel
theorem dX5_leastSeen_57 : decode cX5_leastSeen 57 = .ok (.istore 4, 2) := by decide +kernel
theorem dX5_leastSeen_59 : decode cX5_leastSeen 59 = .ok (.iinc 5 1, 3) := by decide +kernel
theorem dX5_leastSeen_62 : decode cX5_leastSeen 62 = .ok (.goto (-43), 3) := by decide +kernel
theorem dX5_leastSeen_65 : decode cX5_leastSeen 65 = .ok (.iload 4, 2) := by decide +kernel
theorem dX5_leastSeen_67 : decode cX5_leastSeen 67 = .ok (.ireturn, 1) := by decide +kernel
abbrev rm_X5_leastSeen (d : Nat) : Room := { frames := 12 + d, cells := 0, slots := 0, locals := 1200 + 40 * d }
def f_X5_leastSeen_L19 (rc : Nat → St → Int32 → Int32 → Int32 → Option Int32) (k0 : Nat) (S : St) (x1 : Int32) (x2 : Int32) (x3 : Int32) (z19 : Int32 × Int32) : Option ((Int32 × Int32) ⊕ (Int32)) :=
  if (8 : Int32) ≤ z19.2 then (some (.inr z19.1)) else ((f_X0_seenIn k0 S x1 x2 z19.2).bind (fun (q4 : Int32) => if q4 < 0 then (some (.inl (z19.1, (z19.2 + 1)))) else ((rc k0 S z19.2 q4 (x3 - (1 : Int32))).bind (fun (q6 : Int32) => some (.inl ((i_min z19.1 q6), (z19.2 + 1)))))))
def f_X5_leastSeen_B (rc : Nat → St → Int32 → Int32 → Int32 → Option Int32) (k0 : Nat) (S : St) (x1 : Int32) (x2 : Int32) (x3 : Int32) : Option (Int32) :=
  if x3 ≤ (1 : Int32) then (some x2) else (if x3 ≤ (4 : Int32) then (iter (f_X5_leastSeen_L19 rc k0 S x1 x2 x3) FU (x2, (0 : Int32))) else (some x2))
def f_X5_leastSeen : Nat → Nat → St → Int32 → Int32 → Int32 → Option Int32
  | 0 => fun _ _ _ _ _ => none
  | d + 1 => f_X5_leastSeen_B (f_X5_leastSeen d)
set_option maxRecDepth 100000 in
set_option maxHeartbeats 4000000 in
theorem k_X5_leastSeen (l : Launch) (g : GG) (hg : gd wd_C g) : ∀ (d : Nat) (k0 : Nat) (hk0 : hs wd_C g k0 0) (hA : allT g) (S : St) (x1 : Int32) (x2 : Int32) (x3 : Int32) (q : Int32) (hf : f_X5_leastSeen d k0 S x1 x2 x3 = some q), Met l yX5_leastSeen (Cond.code yX5_leastSeen cX5_leastSeen 7 (some .int) :: gw_tbl) (rm_X5_leastSeen d) (va_Pc [.ref (gg_o g k0), .int x1, .int x2, .int x3] (wI wd_C g S)) (qc_i wd_C g S q) 0 0 (aw g) := by
  intro d
  induction d with
  | zero => intro k0 hk0 hA S x1 x2 x3 q hf; cases hf
  | succ d ihd =>
    intro k0 hk0 hA S x1 x2 x3 q hf
    refine mt_start (own := RX5) hg (by decide) rfl (Nat.le_of_ble_eq_true rfl) (fun p e s m args below meth c ls H locs cx hw hr hlk hl => ?_)
    have hx := cx.1
    have hb := cx.2.1
    have hown := cx.2.2.2.1
    have hts := cx.2.2.2.2.1
    have hl : lv_has ls 7 [(0, .ref (gg_o g k0)), (1, .int x1), (2, .int x2), (3, .int x3)] := hl
    replace hf : f_X5_leastSeen_B (f_X5_leastSeen d) k0 S x1 x2 x3 = some q := hf
    replace hf := h_top hf
    unfold f_X5_leastSeen_B at hf
    refine lv_iload_n hx hb dX5_leastSeen_0 rfl (lv_at hl 2 rfl) ?_
    refine lv_istore hx hb dX5_leastSeen_1 hl (by decide) (lv' := [(4, .int x2), (0, .ref (gg_o g k0)), (1, .int x1), (2, .int x2), (3, .int x3)]) rfl (fun ls hl => ?_)
    refine lv_iload_n hx hb dX5_leastSeen_3 rfl (lv_at hl 4 rfl) ?_
    refine lv_iconst (v := 1) hx hb dX5_leastSeen_4 (by decide) ?_
    refine lv_icmp_le hx hb dX5_leastSeen_5 (tgt := 13) rfl (fun hc1 => ?_) (fun hc1 => ?_)
    · replace hf := h_pos hc1 hf
      refine lv_iload hx hb dX5_leastSeen_13 (lv_at hl 0 rfl) ?_
      exact r_iret cx hw hr hlk hf dX5_leastSeen_15
    replace hf := h_neg hc1 hf
    refine lv_iload_n hx hb dX5_leastSeen_8 rfl (lv_at hl 4 rfl) ?_
    refine lv_iconst (v := 4) hx hb dX5_leastSeen_9 (by decide) ?_
    refine lv_icmp_le hx hb dX5_leastSeen_10 (tgt := 16) rfl (fun hc2 => ?_) (fun hc2 => ?_)
    · replace hf := h_pos hc2 hf
      refine lv_iconst (v := 0) hx hb dX5_leastSeen_16 (by decide) ?_
      refine lv_istore hx hb dX5_leastSeen_17 hl (by decide) (lv' := [(5, .int (0 : Int32)), (4, .int x2), (0, .ref (gg_o g k0)), (1, .int x1), (2, .int x2), (3, .int x3)]) rfl (fun ls hl => ?_)
      have L19 : ∀ (x1 : Int32) (x2 : Int32) (x3 : Int32) (aft19 : Int32 → Option (Int32)), (∀ v : Int32, aft19 v = some q → (some v : Option (Int32)).bind some = some q) → ∀ (n19 : Nat) (ls : Array Slot) (H : Heap) (locs : List Loc) (z19 : Int32 × Int32), lv_has ls 7 [(0, .ref (gg_o g k0)), (1, .int x1), (2, .int x2), (3, .int x3), (4, .int z19.1), (5, .int z19.2)] → HH wd_C g s S H locs → (iter (f_X5_leastSeen_L19 (f_X5_leastSeen d) k0 S x1 x2 x3) n19 z19).bind aft19 = some q → W p l e (rm_X5_leastSeen (d + 1)) s m args below meth c H locs 0 0 (MQ below (qc_i wd_C g S q) args s 0 0 (aw g)) (F0 m 19 ls []) := by
        intro x1 x2 x3 aft19 hR19 n19
        induction n19 with
        | zero => intro ls H locs z19 hl hw hf; exact h_iter0 hf
        | succ n19 ih19 =>
          intro ls H locs z19 hl hw hf
          replace hf := h_iter hf
          unfold f_X5_leastSeen_L19 at hf
          refine lv_iload hx hb dX5_leastSeen_19 (lv_at hl 5 rfl) ?_
          refine lv_bipush (v := 8) hx hb dX5_leastSeen_21 (by decide) ?_
          refine lv_icmp_ge hx hb dX5_leastSeen_23 (tgt := 65) rfl (fun hc3 => ?_) (fun hc3 => ?_)
          · replace hf := h_pos hc3 hf
            refine lv_iload hx hb dX5_leastSeen_65 (lv_at hl 4 rfl) ?_
            replace hf := hR19 z19.1 hf
            exact r_iret cx hw hr hlk hf dX5_leastSeen_67
          replace hf := h_neg hc3 hf
          refine lv_aload_n hx hb dX5_leastSeen_26 rfl (lv_at hl 0 rfl) ?_
          refine lv_iload_n hx hb dX5_leastSeen_27 rfl (lv_at hl 1 rfl) ?_
          refine lv_iload_n hx hb dX5_leastSeen_28 rfl (lv_at hl 2 rfl) ?_
          refine lv_iload hx hb dX5_leastSeen_29 (lv_at hl 5 rfl) ?_
          refine r_VN_i (As := [.int x1, .int x2, .int z19.2]) (rest := []) cx hw hf (nw_at cx) hk0.2.1 (by rw [hk0.1]; rfl) lk_X5_187 (fun q4 hq => k_X0_seenIn l g hg k0 hk0 hA S x1 x2 z19.2 q4 hq) ⟨⟨rfl, rfl⟩, (Nat.le_trans (m := 12) (Nat.le_of_ble_eq_true rfl) (Nat.le_add_right _ _)), (Nat.le_trans (m := 1200) (Nat.le_of_ble_eq_true rfl) (Nat.le_add_right _ _))⟩ rfl hl.1 rfl (Nat.le_of_ble_eq_true rfl) dX5_leastSeen_31 ⟨Nat.zero_le _, Nat.zero_le _⟩ (fun q4 H locs hw hf => ?_)
          refine lv_istore hx hb dX5_leastSeen_34 hl (by decide) (lv' := [(6, .int q4), (0, .ref (gg_o g k0)), (1, .int x1), (2, .int x2), (3, .int x3), (4, .int z19.1), (5, .int z19.2)]) rfl (fun ls hl => ?_)
          refine lv_iload hx hb dX5_leastSeen_36 (lv_at hl 0 rfl) ?_
          refine lv_if_lt hx hb dX5_leastSeen_38 (tgt := 59) rfl (fun hc5 => ?_) (fun hc5 => ?_)
          · replace hf := h_pos hc5 hf
            refine lv_iinc hx hb dX5_leastSeen_59 hl (k := 6) rfl (congrArg (HAdd.hAdd _) (show Int32.ofInt (1) = 1 by decide)) (by decide) (lv' := [(5, .int (z19.2 + 1)), (6, .int q4), (0, .ref (gg_o g k0)), (1, .int x1), (2, .int x2), (3, .int x3), (4, .int z19.1)]) rfl (fun ls hl => ?_)
            refine lv_goto hx hb dX5_leastSeen_62 (tgt := 19) rfl ?_
            exact ih19 _ _ _ (z19.1, (z19.2 + 1)) (lv_sub hl [2, 3, 4, 5, 6, 0] rfl) hw hf
          replace hf := h_neg hc5 hf
          refine lv_iload hx hb dX5_leastSeen_41 (lv_at hl 5 rfl) ?_
          refine lv_aload_n hx hb dX5_leastSeen_43 rfl (lv_at hl 1 rfl) ?_
          refine lv_iload hx hb dX5_leastSeen_44 (lv_at hl 6 rfl) ?_
          refine lv_iload hx hb dX5_leastSeen_46 (lv_at hl 0 rfl) ?_
          refine lv_iload_n hx hb dX5_leastSeen_48 rfl (lv_at hl 4 rfl) ?_
          refine lv_iconst (v := 1) hx hb dX5_leastSeen_49 (by decide) ?_
          refine lv_isub hx hb dX5_leastSeen_50 ?_
          refine r_S_i (As := [.ref (gg_o g k0), .int z19.2, .int q4, .int (x3 - (1 : Int32))]) (rest := [.int z19.1]) cx hw hf lk_X5_220 (fun q6 hq => ihd k0 hk0 hA S z19.2 q4 (x3 - (1 : Int32)) q6 hq) ⟨⟨rfl, rfl⟩, Nat.le_refl _, (show 8 + (7 + 11) + (1200 + 40 * d) ≤ 1200 + 40 * (d + 1) by omega)⟩ rfl hl.1 rfl (Nat.le_of_ble_eq_true rfl) dX5_leastSeen_51 ⟨Nat.zero_le _, Nat.zero_le _⟩ (fun q6 H locs hw hf => ?_)
          refine va_mmin hx hb (cx.2.2.1.trans hl.1.symm) hown (hts _ wd_892) (hts _ wd_344) (hts _ wd_7) (hts _ wd_345) ((Nat.le_trans (m := 12) (Nat.le_of_ble_eq_true rfl) (Nat.le_add_right _ _))) ((Nat.le_trans (m := 1200) (Nat.le_of_ble_eq_true rfl) (Nat.le_add_right _ _))) (Nat.zero_le _) (Nat.zero_le _) dX5_leastSeen_54 ?_
          refine lv_istore hx hb dX5_leastSeen_57 hl (by decide) (lv' := [(4, .int (i_min z19.1 q6)), (6, .int q4), (0, .ref (gg_o g k0)), (1, .int x1), (2, .int x2), (3, .int x3), (5, .int z19.2)]) rfl (fun ls hl => ?_)
          refine lv_iinc hx hb dX5_leastSeen_59 hl (k := 6) rfl (congrArg (HAdd.hAdd _) (show Int32.ofInt (1) = 1 by decide)) (by decide) (lv' := [(5, .int (z19.2 + 1)), (4, .int (i_min z19.1 q6)), (6, .int q4), (0, .ref (gg_o g k0)), (1, .int x1), (2, .int x2), (3, .int x3)]) rfl (fun ls hl => ?_)
          refine lv_goto hx hb dX5_leastSeen_62 (tgt := 19) rfl ?_
          exact ih19 _ _ _ ((i_min z19.1 q6), (z19.2 + 1)) (lv_sub hl [3, 4, 5, 6, 1, 0] rfl) hw hf
      exact L19 x1 x2 x3 some (fun v h => h) FU _ _ _ (x2, (0 : Int32)) (lv_sub hl [2, 3, 4, 5, 1, 0] rfl) hw hf
    replace hf := h_neg hc2 hf
    refine lv_iload hx hb dX5_leastSeen_13 (lv_at hl 0 rfl) ?_
    exact r_iret cx hw hr hlk hf dX5_leastSeen_15
theorem dX5_deepest_0 : decode cX5_deepest 0 = .ok (.aload_n 0, 1) := by decide +kernel
theorem dX5_deepest_1 : decode cX5_deepest 1 = .ok (.iload_n 1, 1) := by decide +kernel
theorem dX5_deepest_2 : decode cX5_deepest 2 = .ok (.invokevirtual 123, 3) := by decide +kernel
theorem dX5_deepest_5 : decode cX5_deepest 5 = .ok (.ifCond .eq 11, 3) := by decide +kernel
theorem dX5_deepest_8 : decode cX5_deepest 8 = .ok (.iload_n 2, 1) := by decide +kernel
theorem dX5_deepest_9 : decode cX5_deepest 9 = .ok (.iconst 2, 1) := by decide +kernel
theorem dX5_deepest_10 : decode cX5_deepest 10 = .ok (.invokestatic 112, 3) := by decide +kernel
theorem dX5_deepest_13 : decode cX5_deepest 13 = .ok (.ifCond .ne 5, 3) := by decide +kernel
theorem dX5_deepest_16 : decode cX5_deepest 16 = .ok (.iconst (-1), 1) := by decide +kernel
theorem dX5_deepest_17 : decode cX5_deepest 17 = .ok (.ireturn, 1) := by decide +kernel
theorem dX5_deepest_18 : decode cX5_deepest 18 = .ok (.aload_n 0, 1) := by decide +kernel
theorem dX5_deepest_19 : decode cX5_deepest 19 = .ok (.getfield 39, 3) := by decide +kernel
theorem dX5_deepest_22 : decode cX5_deepest 22 = .ok (.iload_n 1, 1) := by decide +kernel
theorem dX5_deepest_23 : decode cX5_deepest 23 = .ok (.aload_n 0, 1) := by decide +kernel
theorem dX5_deepest_24 : decode cX5_deepest 24 = .ok (.getfield 39, 3) := by decide +kernel
theorem dX5_deepest_27 : decode cX5_deepest 27 = .ok (.getfield 147, 3) := by decide +kernel
theorem dX5_deepest_30 : decode cX5_deepest 30 = .ok (.invokevirtual 138, 3) := by decide +kernel
theorem dX5_deepest_33 : decode cX5_deepest 33 = .ok (.istore_n 3, 1) := by decide +kernel
theorem dX5_deepest_34 : decode cX5_deepest 34 = .ok (.iload_n 3, 1) := by decide +kernel
theorem dX5_deepest_35 : decode cX5_deepest 35 = .ok (.ifCond .ge 6, 3) := by decide +kernel
theorem dX5_deepest_38 : decode cX5_deepest 38 = .ok (.bipush (-2), 2) := by decide +kernel
theorem dX5_deepest_40 : decode cX5_deepest 40 = .ok (.ireturn, 1) := by decide +kernel
theorem dX5_deepest_41 : decode cX5_deepest 41 = .ok (.aload_n 0, 1) := by decide +kernel
theorem dX5_deepest_42 : decode cX5_deepest 42 = .ok (.getfield 39, 3) := by decide +kernel
theorem dX5_deepest_45 : decode cX5_deepest 45 = .ok (.iload_n 1, 1) := by decide +kernel
theorem dX5_deepest_46 : decode cX5_deepest 46 = .ok (.iload_n 3, 1) := by decide +kernel
theorem dX5_deepest_47 : decode cX5_deepest 47 = .ok (.iconst 4, 1) := by decide +kernel
theorem dX5_deepest_48 : decode cX5_deepest 48 = .ok (.invokestatic 220, 3) := by decide +kernel
theorem dX5_deepest_51 : decode cX5_deepest 51 = .ok (.istore 4, 2) := by decide +kernel
theorem dX5_deepest_53 : decode cX5_deepest 53 = .ok (.iload_n 2, 1) := by decide +kernel
theorem dX5_deepest_54 : decode cX5_deepest 54 = .ok (.ifCond .ne 6, 3) := by decide +kernel
theorem dX5_deepest_57 : decode cX5_deepest 57 = .ok (.iload 4, 2) := by decide +kernel
theorem dX5_deepest_59 : decode cX5_deepest 59 = .ok (.ireturn, 1) := by decide +kernel
theorem dX5_deepest_60 : decode cX5_deepest 60 = .ok (.iconst 1, 1) := by decide +kernel
theorem dX5_deepest_61 : decode cX5_deepest 61 = .ok (.istore 5, 2) := by decide +kernel
theorem dX5_deepest_63 : decode cX5_deepest 63 = .ok (.iload 5, 2) := by decide +kernel
theorem dX5_deepest_65 : decode cX5_deepest 65 = .ok (.iconst 4, 1) := by decide +kernel
theorem dX5_deepest_66 : decode cX5_deepest 66 = .ok (.if_icmp .ge 28, 3) := by decide +kernel
theorem dX5_deepest_69 : decode cX5_deepest 69 = .ok (.aload_n 0, 1) := by decide +kernel
theorem dX5_deepest_70 : decode cX5_deepest 70 = .ok (.getfield 39, 3) := by decide +kernel
theorem dX5_deepest_73 : decode cX5_deepest 73 = .ok (.iload_n 1, 1) := by decide +kernel
theorem dX5_deepest_74 : decode cX5_deepest 74 = .ok (.iload_n 3, 1) := by decide +kernel
theorem dX5_deepest_75 : decode cX5_deepest 75 = .ok (.iload 5, 2) := by decide +kernel
theorem dX5_deepest_77 : decode cX5_deepest 77 = .ok (.invokestatic 220, 3) := by decide +kernel
theorem dX5_deepest_80 : decode cX5_deepest 80 = .ok (.iload 4, 2) := by decide +kernel
theorem dX5_deepest_82 : decode cX5_deepest 82 = .ok (.if_icmp .ne 6, 3) := by decide +kernel
theorem dX5_deepest_85 : decode cX5_deepest 85 = .ok (.iload 5, 2) := by decide +kernel
theorem dX5_deepest_87 : decode cX5_deepest 87 = .ok (.ireturn, 1) := by decide +kernel
theorem dX5_deepest_88 : decode cX5_deepest 88 = .ok (.iinc 5 1, 3) := by decide +kernel
theorem dX5_deepest_91 : decode cX5_deepest 91 = .ok (.goto (-28), 3) := by decide +kernel
theorem dX5_deepest_94 : decode cX5_deepest 94 = .ok (.iconst 4, 1) := by decide +kernel
theorem dX5_deepest_95 : decode cX5_deepest 95 = .ok (.ireturn, 1) := by decide +kernel
abbrev rm_X5_deepest : Room := { frames := 18, cells := 0, slots := 0, locals := 1426 }
def f_X5_deepest_L63 (S : St) (x1 : Int32) (x3 : Int32) (x4 : Int32) (z63 : Int32) : Option ((Int32) ⊕ (Int32)) :=
  if (4 : Int32) ≤ z63 then (some (.inr (4 : Int32))) else ((f_X5_leastSeen 5 10 S x1 x3 z63).bind (fun (q10 : Int32) => if q10 = x4 then (some (.inr z63)) else (some (.inl (z63 + 1)))))
def f_X5_deepest (S : St) (x1 : Int32) (x2 : Int32) : Option (Int32) :=
  (f_X5_isMirror  S x1).bind (fun (q1 : Int32) => if q1 = 0 then (some (-1 : Int32)) else ((f_X5_within   x2 (2 : Int32)).bind (fun (q3 : Int32) => if q3 = 0 then (some (-1 : Int32)) else ((f_X0_showing 10 S x1 (st_I S (ky 10 1))).bind (fun (q5 : Int32) => if 0 ≤ q5 then ((f_X5_leastSeen 5 10 S x1 q5 (4 : Int32)).bind (fun (q7 : Int32) => if x2 = 0 then (some q7) else (iter (f_X5_deepest_L63  S x1 q5 q7) FU (1 : Int32)))) else (some (-2 : Int32)))))))
set_option maxRecDepth 100000 in
set_option maxHeartbeats 4000000 in
theorem k_X5_deepest (l : Launch) (g : GG) (hg : gd wd_C g)  (hL : hAll g) (S : St) (x1 : Int32) (x2 : Int32) (q : Int32) (hf : f_X5_deepest  S x1 x2 = some q) : Met l yX5_deepest (Cond.code yX5_deepest cX5_deepest 6 (some .int) :: gw_tbl) rm_X5_deepest (va_Pc [.ref (gg_o g 0), .int x1, .int x2] (wI wd_C g S)) (qc_i wd_C g S q) 0 0 (aw g) := by
  refine mt_start (own := RX5) hg (by decide) rfl (Nat.le_of_ble_eq_true rfl) (fun p e s m args below meth c ls H locs cx hw hr hlk hl => ?_)
  have hx := cx.1
  have hb := cx.2.1
  have hown := cx.2.2.2.1
  have hts := cx.2.2.2.2.1
  have hl : lv_has ls 6 [(0, .ref (gg_o g 0)), (1, .int x1), (2, .int x2)] := hl
  replace hf := h_top hf
  unfold f_X5_deepest at hf
  refine lv_aload_n hx hb dX5_deepest_0 rfl (lv_at hl 0 rfl) ?_
  refine lv_iload_n hx hb dX5_deepest_1 rfl (lv_at hl 1 rfl) ?_
  refine r_V_i (As := [.int x1]) (rest := []) cx hw hf hL.1.2.1 (by rw [hL.1.1]; rfl) lk_X5_123 (fun q1 hq => k_X5_isMirror l g hg  hL S x1 q1 hq) ⟨⟨rfl, rfl⟩, Nat.le_of_ble_eq_true rfl, Nat.le_of_ble_eq_true rfl⟩ rfl hl.1 rfl (Nat.le_of_ble_eq_true rfl) dX5_deepest_2 ⟨Nat.zero_le _, Nat.zero_le _⟩ (fun q1 H locs hw hf => ?_)
  refine lv_if_eq hx hb dX5_deepest_5 (tgt := 16) rfl (fun hc2 => ?_) (fun hc2 => ?_)
  · replace hf := h_pos hc2 hf
    refine lv_iconst (v := -1) hx hb dX5_deepest_16 (by decide) ?_
    exact r_iret cx hw hr hlk hf dX5_deepest_17
  replace hf := h_neg hc2 hf
  refine lv_iload_n hx hb dX5_deepest_8 rfl (lv_at hl 2 rfl) ?_
  refine lv_iconst (v := 2) hx hb dX5_deepest_9 (by decide) ?_
  refine r_S_i (As := [.int x2, .int (2 : Int32)]) (rest := []) cx hw hf lk_X5_112 (fun q3 hq => k_X5_within l g hg   S x2 (2 : Int32) q3 hq) ⟨⟨rfl, rfl⟩, Nat.le_of_ble_eq_true rfl, Nat.le_of_ble_eq_true rfl⟩ rfl hl.1 rfl (Nat.le_of_ble_eq_true rfl) dX5_deepest_10 ⟨Nat.zero_le _, Nat.zero_le _⟩ (fun q3 H locs hw hf => ?_)
  refine lv_if_ne hx hb dX5_deepest_13 (tgt := 18) rfl (fun hc4 => ?_) (fun hc4 => ?_)
  · replace hf := h_neg hc4 hf
    refine lv_aload_n hx hb dX5_deepest_18 rfl (lv_at hl 0 rfl) ?_
    refine gf_X5_39 cx hw hL.1 dX5_deepest_19 ?_
    refine lv_iload_n hx hb dX5_deepest_22 rfl (lv_at hl 1 rfl) ?_
    refine lv_aload_n hx hb dX5_deepest_23 rfl (lv_at hl 0 rfl) ?_
    refine gf_X5_39 cx hw hL.1 dX5_deepest_24 ?_
    refine gf_X5_147 cx hw (hL.2.2.2.1 0 (by decide)) dX5_deepest_27 ?_
    refine r_VN_i (As := [.int x1, .int (st_I S (ky 10 1))]) (rest := []) cx hw hf (nw_at cx) (hL.2.2.2.1 0 (by decide)).2.1 (by rw [(hL.2.2.2.1 0 (by decide)).1]; rfl) lk_X5_138 (fun q5 hq => k_X0_showing l g hg 10 (hL.2.2.2.1 0 (by decide)) hL.2.2.2.2 S x1 (st_I S (ky 10 1)) q5 hq) ⟨⟨rfl, rfl⟩, Nat.le_of_ble_eq_true rfl, Nat.le_of_ble_eq_true rfl⟩ rfl hl.1 rfl (Nat.le_of_ble_eq_true rfl) dX5_deepest_30 ⟨Nat.zero_le _, Nat.zero_le _⟩ (fun q5 H locs hw hf => ?_)
    refine lv_istore_n hx hb dX5_deepest_33 rfl hl (by decide) (lv' := [(3, .int q5), (0, .ref (gg_o g 0)), (1, .int x1), (2, .int x2)]) rfl (fun ls hl => ?_)
    refine lv_iload_n hx hb dX5_deepest_34 rfl (lv_at hl 0 rfl) ?_
    refine lv_if_ge hx hb dX5_deepest_35 (tgt := 41) rfl (fun hc6 => ?_) (fun hc6 => ?_)
    · replace hf := h_pos hc6 hf
      refine lv_aload_n hx hb dX5_deepest_41 rfl (lv_at hl 1 rfl) ?_
      refine gf_X5_39 cx hw hL.1 dX5_deepest_42 ?_
      refine lv_iload_n hx hb dX5_deepest_45 rfl (lv_at hl 2 rfl) ?_
      refine lv_iload_n hx hb dX5_deepest_46 rfl (lv_at hl 0 rfl) ?_
      refine lv_iconst (v := 4) hx hb dX5_deepest_47 (by decide) ?_
      refine r_S_i (As := [.ref (gg_o g 10), .int x1, .int q5, .int (4 : Int32)]) (rest := []) cx hw hf lk_X5_220 (fun q7 hq => k_X5_leastSeen l g hg 5 10 (hL.2.2.2.1 0 (by decide)) hL.2.2.2.2 S x1 q5 (4 : Int32) q7 hq) ⟨⟨rfl, rfl⟩, Nat.le_of_ble_eq_true rfl, Nat.le_of_ble_eq_true rfl⟩ rfl hl.1 rfl (Nat.le_of_ble_eq_true rfl) dX5_deepest_48 ⟨Nat.zero_le _, Nat.zero_le _⟩ (fun q7 H locs hw hf => ?_)
      refine lv_istore hx hb dX5_deepest_51 hl (by decide) (lv' := [(4, .int q7), (3, .int q5), (0, .ref (gg_o g 0)), (1, .int x1), (2, .int x2)]) rfl (fun ls hl => ?_)
      refine lv_iload_n hx hb dX5_deepest_53 rfl (lv_at hl 4 rfl) ?_
      refine lv_if_ne hx hb dX5_deepest_54 (tgt := 60) rfl (fun hc8 => ?_) (fun hc8 => ?_)
      · replace hf := h_neg hc8 hf
        refine lv_iconst (v := 1) hx hb dX5_deepest_60 (by decide) ?_
        refine lv_istore hx hb dX5_deepest_61 hl (by decide) (lv' := [(5, .int (1 : Int32)), (4, .int q7), (3, .int q5), (0, .ref (gg_o g 0)), (1, .int x1), (2, .int x2)]) rfl (fun ls hl => ?_)
        have L63 : ∀ (x1 : Int32) (x3 : Int32) (x4 : Int32) (aft63 : Int32 → Option (Int32)), (∀ v : Int32, aft63 v = some q → (some v : Option (Int32)).bind some = some q) → ∀ (n63 : Nat) (ls : Array Slot) (H : Heap) (locs : List Loc) (z63 : Int32), lv_has ls 6 [(0, .ref (gg_o g 0)), (1, .int x1), (3, .int x3), (4, .int x4), (5, .int z63)] → HH wd_C g s S H locs → (iter (f_X5_deepest_L63  S x1 x3 x4) n63 z63).bind aft63 = some q → W p l e rm_X5_deepest s m args below meth c H locs 0 0 (MQ below (qc_i wd_C g S q) args s 0 0 (aw g)) (F0 m 63 ls []) := by
          intro x1 x3 x4 aft63 hR63 n63
          induction n63 with
          | zero => intro ls H locs z63 hl hw hf; exact h_iter0 hf
          | succ n63 ih63 =>
            intro ls H locs z63 hl hw hf
            replace hf := h_iter hf
            unfold f_X5_deepest_L63 at hf
            refine lv_iload hx hb dX5_deepest_63 (lv_at hl 4 rfl) ?_
            refine lv_iconst (v := 4) hx hb dX5_deepest_65 (by decide) ?_
            refine lv_icmp_ge hx hb dX5_deepest_66 (tgt := 94) rfl (fun hc9 => ?_) (fun hc9 => ?_)
            · replace hf := h_pos hc9 hf
              refine lv_iconst (v := 4) hx hb dX5_deepest_94 (by decide) ?_
              replace hf := hR63 (4 : Int32) hf
              exact r_iret cx hw hr hlk hf dX5_deepest_95
            replace hf := h_neg hc9 hf
            refine lv_aload_n hx hb dX5_deepest_69 rfl (lv_at hl 0 rfl) ?_
            refine gf_X5_39 cx hw hL.1 dX5_deepest_70 ?_
            refine lv_iload_n hx hb dX5_deepest_73 rfl (lv_at hl 1 rfl) ?_
            refine lv_iload_n hx hb dX5_deepest_74 rfl (lv_at hl 2 rfl) ?_
            refine lv_iload hx hb dX5_deepest_75 (lv_at hl 4 rfl) ?_
            refine r_S_i (As := [.ref (gg_o g 10), .int x1, .int x3, .int z63]) (rest := []) cx hw hf lk_X5_220 (fun q10 hq => k_X5_leastSeen l g hg 5 10 (hL.2.2.2.1 0 (by decide)) hL.2.2.2.2 S x1 x3 z63 q10 hq) ⟨⟨rfl, rfl⟩, Nat.le_of_ble_eq_true rfl, Nat.le_of_ble_eq_true rfl⟩ rfl hl.1 rfl (Nat.le_of_ble_eq_true rfl) dX5_deepest_77 ⟨Nat.zero_le _, Nat.zero_le _⟩ (fun q10 H locs hw hf => ?_)
            refine lv_iload hx hb dX5_deepest_80 (lv_at hl 3 rfl) ?_
            refine lv_icmp_ne hx hb dX5_deepest_82 (tgt := 88) rfl (fun hc11 => ?_) (fun hc11 => ?_)
            · replace hf := h_neg hc11 hf
              refine lv_iinc hx hb dX5_deepest_88 hl (k := 4) rfl (congrArg (HAdd.hAdd _) (show Int32.ofInt (1) = 1 by decide)) (by decide) (lv' := [(5, .int (z63 + 1)), (0, .ref (gg_o g 0)), (1, .int x1), (3, .int x3), (4, .int x4)]) rfl (fun ls hl => ?_)
              refine lv_goto hx hb dX5_deepest_91 (tgt := 63) rfl ?_
              exact ih63 _ _ _ (z63 + 1) (lv_sub hl [1, 2, 3, 4, 0] rfl) hw hf
            replace hf := h_pos hc11 hf
            refine lv_iload hx hb dX5_deepest_85 (lv_at hl 4 rfl) ?_
            replace hf := hR63 z63 hf
            exact r_iret cx hw hr hlk hf dX5_deepest_87
        exact L63 x1 q5 q7 some (fun v h => h) FU _ _ _ (1 : Int32) (lv_sub hl [3, 4, 2, 1, 0] rfl) hw hf
      replace hf := h_pos hc8 hf
      refine lv_iload hx hb dX5_deepest_57 (lv_at hl 0 rfl) ?_
      exact r_iret cx hw hr hlk hf dX5_deepest_59
    replace hf := h_neg hc6 hf
    refine lv_bipush (v := -2) hx hb dX5_deepest_38 (by decide) ?_
    exact r_iret cx hw hr hlk hf dX5_deepest_40
  replace hf := h_pos hc4 hf
  refine lv_iconst (v := -1) hx hb dX5_deepest_16 (by decide) ?_
  exact r_iret cx hw hr hlk hf dX5_deepest_17
theorem dX5_last_0 : decode cX5_last 0 = .ok (.aload_n 0, 1) := by decide +kernel
theorem dX5_last_1 : decode cX5_last 1 = .ok (.iload_n 1, 1) := by decide +kernel
theorem dX5_last_2 : decode cX5_last 2 = .ok (.invokevirtual 105, 3) := by decide +kernel
theorem dX5_last_5 : decode cX5_last 5 = .ok (.ifCond .eq 11, 3) := by decide +kernel
theorem dX5_last_8 : decode cX5_last 8 = .ok (.aload_n 0, 1) := by decide +kernel
theorem dX5_last_9 : decode cX5_last 9 = .ok (.iload_n 2, 1) := by decide +kernel
theorem dX5_last_10 : decode cX5_last 10 = .ok (.invokevirtual 170, 3) := by decide +kernel
theorem dX5_last_13 : decode cX5_last 13 = .ok (.ifCond .ne 5, 3) := by decide +kernel
theorem dX5_last_16 : decode cX5_last 16 = .ok (.iconst (-1), 1) := by decide +kernel
theorem dX5_last_17 : decode cX5_last 17 = .ok (.ireturn, 1) := by decide +kernel
theorem dX5_last_18 : decode cX5_last 18 = .ok (.aload_n 0, 1) := by decide +kernel
theorem dX5_last_19 : decode cX5_last 19 = .ok (.getfield 39, 3) := by decide +kernel
theorem dX5_last_22 : decode cX5_last 22 = .ok (.getfield 147, 3) := by decide +kernel
theorem dX5_last_25 : decode cX5_last 25 = .ok (.istore_n 3, 1) := by decide +kernel
theorem dX5_last_26 : decode cX5_last 26 = .ok (.iload_n 3, 1) := by decide +kernel
theorem dX5_last_27 : decode cX5_last 27 = .ok (.ifCond .lt 24, 3) := by decide +kernel
theorem dX5_last_30 : decode cX5_last 30 = .ok (.aload_n 0, 1) := by decide +kernel
theorem dX5_last_31 : decode cX5_last 31 = .ok (.getfield 39, 3) := by decide +kernel
theorem dX5_last_34 : decode cX5_last 34 = .ok (.iload_n 1, 1) := by decide +kernel
theorem dX5_last_35 : decode cX5_last 35 = .ok (.iload_n 3, 1) := by decide +kernel
theorem dX5_last_36 : decode cX5_last 36 = .ok (.invokevirtual 116, 3) := by decide +kernel
theorem dX5_last_39 : decode cX5_last 39 = .ok (.iload_n 2, 1) := by decide +kernel
theorem dX5_last_40 : decode cX5_last 40 = .ok (.if_icmp .ne 5, 3) := by decide +kernel
theorem dX5_last_43 : decode cX5_last 43 = .ok (.iload_n 3, 1) := by decide +kernel
theorem dX5_last_44 : decode cX5_last 44 = .ok (.ireturn, 1) := by decide +kernel
theorem dX5_last_45 : decode cX5_last 45 = .ok (.iinc 3 (-1), 3) := by decide +kernel
theorem dX5_last_48 : decode cX5_last 48 = .ok (.goto (-22), 3) := by decide +kernel
theorem dX5_last_51 : decode cX5_last 51 = .ok (.bipush (-2), 2) := by decide +kernel
theorem dX5_last_53 : decode cX5_last 53 = .ok (.ireturn, 1) := by decide +kernel
abbrev rm_X5_last : Room := { frames := 2, cells := 0, slots := 0, locals := 43 }
def f_X5_last_L26 (S : St) (x1 : Int32) (x2 : Int32) (z26 : Int32) : Option ((Int32) ⊕ (Int32)) :=
  if z26 < 0 then (some (.inr (-2 : Int32))) else ((f_X0_roomOf 10 S x1 z26).bind (fun (q6 : Int32) => if q6 = x2 then (some (.inr z26)) else (some (.inl (z26 + (-1))))))
def f_X5_last (S : St) (x1 : Int32) (x2 : Int32) : Option (Int32) :=
  (f_X5_isMan  S x1).bind (fun (q1 : Int32) => if q1 = 0 then (some (-1 : Int32)) else ((f_X5_isRoom  S x2).bind (fun (q3 : Int32) => if q3 = 0 then (some (-1 : Int32)) else (iter (f_X5_last_L26  S x1 x2) FU (st_I S (ky 10 1))))))
set_option maxRecDepth 100000 in
set_option maxHeartbeats 4000000 in
theorem k_X5_last (l : Launch) (g : GG) (hg : gd wd_C g)  (hL : hAll g) (S : St) (x1 : Int32) (x2 : Int32) (q : Int32) (hf : f_X5_last  S x1 x2 = some q) : Met l yX5_last (Cond.code yX5_last cX5_last 4 (some .int) :: gw_tbl) rm_X5_last (va_Pc [.ref (gg_o g 0), .int x1, .int x2] (wI wd_C g S)) (qc_i wd_C g S q) 0 0 (aw g) := by
  refine mt_start (own := RX5) hg (by decide) rfl (Nat.le_of_ble_eq_true rfl) (fun p e s m args below meth c ls H locs cx hw hr hlk hl => ?_)
  have hx := cx.1
  have hb := cx.2.1
  have hown := cx.2.2.2.1
  have hts := cx.2.2.2.2.1
  have hl : lv_has ls 4 [(0, .ref (gg_o g 0)), (1, .int x1), (2, .int x2)] := hl
  replace hf := h_top hf
  unfold f_X5_last at hf
  refine lv_aload_n hx hb dX5_last_0 rfl (lv_at hl 0 rfl) ?_
  refine lv_iload_n hx hb dX5_last_1 rfl (lv_at hl 1 rfl) ?_
  refine r_V_i (As := [.int x1]) (rest := []) cx hw hf hL.1.2.1 (by rw [hL.1.1]; rfl) lk_X5_105 (fun q1 hq => k_X5_isMan l g hg  hL S x1 q1 hq) ⟨⟨rfl, rfl⟩, Nat.le_of_ble_eq_true rfl, Nat.le_of_ble_eq_true rfl⟩ rfl hl.1 rfl (Nat.le_of_ble_eq_true rfl) dX5_last_2 ⟨Nat.zero_le _, Nat.zero_le _⟩ (fun q1 H locs hw hf => ?_)
  refine lv_if_eq hx hb dX5_last_5 (tgt := 16) rfl (fun hc2 => ?_) (fun hc2 => ?_)
  · replace hf := h_pos hc2 hf
    refine lv_iconst (v := -1) hx hb dX5_last_16 (by decide) ?_
    exact r_iret cx hw hr hlk hf dX5_last_17
  replace hf := h_neg hc2 hf
  refine lv_aload_n hx hb dX5_last_8 rfl (lv_at hl 0 rfl) ?_
  refine lv_iload_n hx hb dX5_last_9 rfl (lv_at hl 2 rfl) ?_
  refine r_V_i (As := [.int x2]) (rest := []) cx hw hf hL.1.2.1 (by rw [hL.1.1]; rfl) lk_X5_170 (fun q3 hq => k_X5_isRoom l g hg  hL S x2 q3 hq) ⟨⟨rfl, rfl⟩, Nat.le_of_ble_eq_true rfl, Nat.le_of_ble_eq_true rfl⟩ rfl hl.1 rfl (Nat.le_of_ble_eq_true rfl) dX5_last_10 ⟨Nat.zero_le _, Nat.zero_le _⟩ (fun q3 H locs hw hf => ?_)
  refine lv_if_ne hx hb dX5_last_13 (tgt := 18) rfl (fun hc4 => ?_) (fun hc4 => ?_)
  · replace hf := h_neg hc4 hf
    refine lv_aload_n hx hb dX5_last_18 rfl (lv_at hl 0 rfl) ?_
    refine gf_X5_39 cx hw hL.1 dX5_last_19 ?_
    refine gf_X5_147 cx hw (hL.2.2.2.1 0 (by decide)) dX5_last_22 ?_
    refine lv_istore_n hx hb dX5_last_25 rfl hl (by decide) (lv' := [(3, .int (st_I S (ky 10 1))), (0, .ref (gg_o g 0)), (1, .int x1), (2, .int x2)]) rfl (fun ls hl => ?_)
    have L26 : ∀ (x1 : Int32) (x2 : Int32) (aft26 : Int32 → Option (Int32)), (∀ v : Int32, aft26 v = some q → (some v : Option (Int32)).bind some = some q) → ∀ (n26 : Nat) (ls : Array Slot) (H : Heap) (locs : List Loc) (z26 : Int32), lv_has ls 4 [(0, .ref (gg_o g 0)), (1, .int x1), (2, .int x2), (3, .int z26)] → HH wd_C g s S H locs → (iter (f_X5_last_L26  S x1 x2) n26 z26).bind aft26 = some q → W p l e rm_X5_last s m args below meth c H locs 0 0 (MQ below (qc_i wd_C g S q) args s 0 0 (aw g)) (F0 m 26 ls []) := by
      intro x1 x2 aft26 hR26 n26
      induction n26 with
      | zero => intro ls H locs z26 hl hw hf; exact h_iter0 hf
      | succ n26 ih26 =>
        intro ls H locs z26 hl hw hf
        replace hf := h_iter hf
        unfold f_X5_last_L26 at hf
        refine lv_iload_n hx hb dX5_last_26 rfl (lv_at hl 3 rfl) ?_
        refine lv_if_lt hx hb dX5_last_27 (tgt := 51) rfl (fun hc5 => ?_) (fun hc5 => ?_)
        · replace hf := h_pos hc5 hf
          refine lv_bipush (v := -2) hx hb dX5_last_51 (by decide) ?_
          replace hf := hR26 (-2 : Int32) hf
          exact r_iret cx hw hr hlk hf dX5_last_53
        replace hf := h_neg hc5 hf
        refine lv_aload_n hx hb dX5_last_30 rfl (lv_at hl 0 rfl) ?_
        refine gf_X5_39 cx hw hL.1 dX5_last_31 ?_
        refine lv_iload_n hx hb dX5_last_34 rfl (lv_at hl 1 rfl) ?_
        refine lv_iload_n hx hb dX5_last_35 rfl (lv_at hl 3 rfl) ?_
        refine r_VN_i (As := [.int x1, .int z26]) (rest := []) cx hw hf (nw_at cx) (hL.2.2.2.1 0 (by decide)).2.1 (by rw [(hL.2.2.2.1 0 (by decide)).1]; rfl) lk_X5_116 (fun q6 hq => k_X0_roomOf l g hg 10 (hL.2.2.2.1 0 (by decide)) hL.2.2.2.2 S x1 z26 q6 hq) ⟨⟨rfl, rfl⟩, Nat.le_of_ble_eq_true rfl, Nat.le_of_ble_eq_true rfl⟩ rfl hl.1 rfl (Nat.le_of_ble_eq_true rfl) dX5_last_36 ⟨Nat.zero_le _, Nat.zero_le _⟩ (fun q6 H locs hw hf => ?_)
        refine lv_iload_n hx hb dX5_last_39 rfl (lv_at hl 2 rfl) ?_
        refine lv_icmp_ne hx hb dX5_last_40 (tgt := 45) rfl (fun hc7 => ?_) (fun hc7 => ?_)
        · replace hf := h_neg hc7 hf
          refine lv_iinc hx hb dX5_last_45 hl (k := 3) rfl (congrArg (HAdd.hAdd _) (show Int32.ofInt (-1) = -1 by decide)) (by decide) (lv' := [(3, .int (z26 + (-1))), (0, .ref (gg_o g 0)), (1, .int x1), (2, .int x2)]) rfl (fun ls hl => ?_)
          refine lv_goto hx hb dX5_last_48 (tgt := 26) rfl ?_
          exact ih26 _ _ _ (z26 + (-1)) (lv_sub hl [1, 2, 3, 0] rfl) hw hf
        replace hf := h_pos hc7 hf
        refine lv_iload_n hx hb dX5_last_43 rfl (lv_at hl 3 rfl) ?_
        replace hf := hR26 z26 hf
        exact r_iret cx hw hr hlk hf dX5_last_44
    exact L26 x1 x2 some (fun v h => h) FU _ _ _ (st_I S (ky 10 1)) (lv_sub hl [1, 2, 3, 0] rfl) hw hf
  replace hf := h_pos hc4 hf
  refine lv_iconst (v := -1) hx hb dX5_last_16 (by decide) ?_
  exact r_iret cx hw hr hlk hf dX5_last_17
theorem dX5_visits_0 : decode cX5_visits 0 = .ok (.aload_n 0, 1) := by decide +kernel
theorem dX5_visits_1 : decode cX5_visits 1 = .ok (.iload_n 1, 1) := by decide +kernel
theorem dX5_visits_2 : decode cX5_visits 2 = .ok (.invokevirtual 105, 3) := by decide +kernel
theorem dX5_visits_5 : decode cX5_visits 5 = .ok (.ifCond .eq 16, 3) := by decide +kernel
theorem dX5_visits_8 : decode cX5_visits 8 = .ok (.iload_n 2, 1) := by decide +kernel
theorem dX5_visits_9 : decode cX5_visits 9 = .ok (.iconst (-1), 1) := by decide +kernel
theorem dX5_visits_10 : decode cX5_visits 10 = .ok (.if_icmp .eq 13, 3) := by decide +kernel
theorem dX5_visits_13 : decode cX5_visits 13 = .ok (.aload_n 0, 1) := by decide +kernel
theorem dX5_visits_14 : decode cX5_visits 14 = .ok (.iload_n 2, 1) := by decide +kernel
theorem dX5_visits_15 : decode cX5_visits 15 = .ok (.invokevirtual 170, 3) := by decide +kernel
theorem dX5_visits_18 : decode cX5_visits 18 = .ok (.ifCond .ne 5, 3) := by decide +kernel
theorem dX5_visits_21 : decode cX5_visits 21 = .ok (.iconst (-1), 1) := by decide +kernel
theorem dX5_visits_22 : decode cX5_visits 22 = .ok (.ireturn, 1) := by decide +kernel
theorem dX5_visits_23 : decode cX5_visits 23 = .ok (.iconst 0, 1) := by decide +kernel
theorem dX5_visits_24 : decode cX5_visits 24 = .ok (.istore_n 3, 1) := by decide +kernel
theorem dX5_visits_25 : decode cX5_visits 25 = .ok (.iconst 0, 1) := by decide +kernel
theorem dX5_visits_26 : decode cX5_visits 26 = .ok (.istore 4, 2) := by decide +kernel
theorem dX5_visits_28 : decode cX5_visits 28 = .ok (.iload 4, 2) := by decide +kernel
theorem dX5_visits_30 : decode cX5_visits 30 = .ok (.aload_n 0, 1) := by decide +kernel
theorem dX5_visits_31 : decode cX5_visits 31 = .ok (.getfield 39, 3) := by decide +kernel
theorem dX5_visits_34 : decode cX5_visits 34 = .ok (.getfield 147, 3) := by decide +kernel
theorem dX5_visits_37 : decode cX5_visits 37 = .ok (.if_icmp .gt 72, 3) := by decide +kernel
theorem dX5_visits_40 : decode cX5_visits 40 = .ok (.aload_n 0, 1) := by decide +kernel
theorem dX5_visits_41 : decode cX5_visits 41 = .ok (.getfield 39, 3) := by decide +kernel
theorem dX5_visits_44 : decode cX5_visits 44 = .ok (.iload_n 1, 1) := by decide +kernel
theorem dX5_visits_45 : decode cX5_visits 45 = .ok (.iload 4, 2) := by decide +kernel
theorem dX5_visits_47 : decode cX5_visits 47 = .ok (.invokevirtual 116, 3) := by decide +kernel
theorem dX5_visits_50 : decode cX5_visits 50 = .ok (.istore 5, 2) := by decide +kernel
theorem dX5_visits_52 : decode cX5_visits 52 = .ok (.iload 4, 2) := by decide +kernel
theorem dX5_visits_54 : decode cX5_visits 54 = .ok (.ifCond .le 24, 3) := by decide +kernel
theorem dX5_visits_57 : decode cX5_visits 57 = .ok (.iload 5, 2) := by decide +kernel
theorem dX5_visits_59 : decode cX5_visits 59 = .ok (.aload_n 0, 1) := by decide +kernel
theorem dX5_visits_60 : decode cX5_visits 60 = .ok (.getfield 39, 3) := by decide +kernel
theorem dX5_visits_63 : decode cX5_visits 63 = .ok (.iload_n 1, 1) := by decide +kernel
theorem dX5_visits_64 : decode cX5_visits 64 = .ok (.iload 4, 2) := by decide +kernel
theorem dX5_visits_66 : decode cX5_visits 66 = .ok (.iconst 1, 1) := by decide +kernel
theorem dX5_visits_67 : decode cX5_visits 67 = .ok (.isub, 1) := by decide +kernel
theorem dX5_visits_68 : decode cX5_visits 68 = .ok (.invokevirtual 116, 3) := by decide +kernel
theorem dX5_visits_71 : decode cX5_visits 71 = .ok (.if_icmp .eq 7, 3) := by decide +kernel
theorem dX5_visits_74 : decode cX5_visits 74 = .ok (.iconst 1, 1) := by decide +kernel
theorem dX5_visits_75 : decode cX5_visits 75 = .ok (.goto 4, 3) := by decide +kernel
theorem dX5_visits_78 : decode cX5_visits 78 = .ok (.iconst 0, 1) := by decide +kernel
theorem dX5_visits_79 : decode cX5_visits 79 = .ok (.istore 6, 2) := by decide +kernel
theorem dX5_visits_81 : decode cX5_visits 81 = .ok (.iload_n 2, 1) := by decide +kernel
theorem dX5_visits_82 : decode cX5_visits 82 = .ok (.iconst (-1), 1) := by decide +kernel
theorem dX5_visits_83 : decode cX5_visits 83 = .ok (.if_icmp .ne 11, 3) := by decide +kernel
theorem dX5_visits_86 : decode cX5_visits 86 = .ok (.iload 6, 2) := by decide +kernel
theorem dX5_visits_88 : decode cX5_visits 88 = .ok (.ifCond .eq 15, 3) := by decide +kernel
theorem dX5_visits_91 : decode cX5_visits 91 = .ok (.goto 9, 3) := by decide +kernel
theorem dX5_visits_94 : decode cX5_visits 94 = .ok (.iload 5, 2) := by decide +kernel
theorem dX5_visits_96 : decode cX5_visits 96 = .ok (.iload_n 2, 1) := by decide +kernel
theorem dX5_visits_97 : decode cX5_visits 97 = .ok (.if_icmp .ne 6, 3) := by decide +kernel
theorem dX5_visits_100 : decode cX5_visits 100 = .ok (.iinc 3 1, 3) := by decide +kernel
theorem dX5_visits_103 : decode cX5_visits 103 = .ok (.iinc 4 1, 3) := by decide +kernel
theorem dX5_visits_106 : decode cX5_visits 106 = .ok (.goto (-78), 3) := by decide +kernel
theorem dX5_visits_109 : decode cX5_visits 109 = .ok (.iload_n 3, 1) := by decide +kernel
theorem dX5_visits_110 : decode cX5_visits 110 = .ok (.ireturn, 1) := by decide +kernel
abbrev rm_X5_visits : Room := { frames := 2, cells := 0, slots := 0, locals := 43 }
def f_X5_visits_J79 (S : St) (x1 : Int32) (x2 : Int32) (x3 : Int32) (x4 : Int32) (x5 : Int32) (y0 : Int32) : Option ((Int32 × Int32) ⊕ (Int32)) :=
  if x2 = (-1 : Int32) then (if y0 = 0 then (some (.inl (x3, (x4 + 1)))) else (some (.inl ((x3 + 1), (x4 + 1))))) else (if x5 = x2 then (some (.inl ((x3 + 1), (x4 + 1)))) else (some (.inl (x3, (x4 + 1)))))
def f_X5_visits_J78 (S : St) (x1 : Int32) (x2 : Int32) (x3 : Int32) (x4 : Int32) (x5 : Int32) : Option ((Int32 × Int32) ⊕ (Int32)) :=
  f_X5_visits_J79  S x1 x2 x3 x4 x5 (0 : Int32)
def f_X5_visits_L28 (S : St) (x1 : Int32) (x2 : Int32) (z28 : Int32 × Int32) : Option ((Int32 × Int32) ⊕ (Int32)) :=
  if (st_I S (ky 10 1)) < z28.2 then (some (.inr z28.1)) else ((f_X0_roomOf 10 S x1 z28.2).bind (fun (q5 : Int32) => if z28.2 ≤ 0 then (f_X5_visits_J78  S x1 x2 z28.1 z28.2 q5) else ((f_X0_roomOf 10 S x1 (z28.2 - (1 : Int32))).bind (fun (q10 : Int32) => if q5 = q10 then (f_X5_visits_J78  S x1 x2 z28.1 z28.2 q5) else (f_X5_visits_J79  S x1 x2 z28.1 z28.2 q5 (1 : Int32))))))
def f_X5_visits_J23 (S : St) (x1 : Int32) (x2 : Int32) : Option (Int32) :=
  iter (f_X5_visits_L28  S x1 x2) FU ((0 : Int32), (0 : Int32))
def f_X5_visits (S : St) (x1 : Int32) (x2 : Int32) : Option (Int32) :=
  (f_X5_isMan  S x1).bind (fun (q1 : Int32) => if q1 = 0 then (some (-1 : Int32)) else (if x2 = (-1 : Int32) then (f_X5_visits_J23  S x1 x2) else ((f_X5_isRoom  S x2).bind (fun (q12 : Int32) => if q12 = 0 then (some (-1 : Int32)) else (f_X5_visits_J23  S x1 x2)))))
set_option maxRecDepth 100000 in
set_option maxHeartbeats 4000000 in
theorem k_X5_visits (l : Launch) (g : GG) (hg : gd wd_C g)  (hL : hAll g) (S : St) (x1 : Int32) (x2 : Int32) (q : Int32) (hf : f_X5_visits  S x1 x2 = some q) : Met l yX5_visits (Cond.code yX5_visits cX5_visits 7 (some .int) :: gw_tbl) rm_X5_visits (va_Pc [.ref (gg_o g 0), .int x1, .int x2] (wI wd_C g S)) (qc_i wd_C g S q) 0 0 (aw g) := by
  refine mt_start (own := RX5) hg (by decide) rfl (Nat.le_of_ble_eq_true rfl) (fun p e s m args below meth c ls H locs cx hw hr hlk hl => ?_)
  have hx := cx.1
  have hb := cx.2.1
  have hown := cx.2.2.2.1
  have hts := cx.2.2.2.2.1
  have hl : lv_has ls 7 [(0, .ref (gg_o g 0)), (1, .int x1), (2, .int x2)] := hl
  replace hf := h_top hf
  unfold f_X5_visits at hf
  have J23 : ∀ (ls : Array Slot) (H : Heap) (locs : List Loc) (x1 : Int32) (x2 : Int32), lv_has ls 7 [(0, .ref (gg_o g 0)), (1, .int x1), (2, .int x2)] → HH wd_C g s S H locs → (f_X5_visits_J23  S x1 x2).bind some = some q → W p l e rm_X5_visits s m args below meth c H locs 0 0 (MQ below (qc_i wd_C g S q) args s 0 0 (aw g)) (F0 m 23 ls []) := by
    intro ls H locs x1 x2 hl hw hf
    unfold f_X5_visits_J23 at hf
    refine lv_iconst (v := 0) hx hb dX5_visits_23 (by decide) ?_
    refine lv_istore_n hx hb dX5_visits_24 rfl hl (by decide) (lv' := [(3, .int (0 : Int32)), (0, .ref (gg_o g 0)), (1, .int x1), (2, .int x2)]) rfl (fun ls hl => ?_)
    refine lv_iconst (v := 0) hx hb dX5_visits_25 (by decide) ?_
    refine lv_istore hx hb dX5_visits_26 hl (by decide) (lv' := [(4, .int (0 : Int32)), (3, .int (0 : Int32)), (0, .ref (gg_o g 0)), (1, .int x1), (2, .int x2)]) rfl (fun ls hl => ?_)
    have L28 : ∀ (x1 : Int32) (x2 : Int32) (aft28 : Int32 → Option (Int32)), (∀ v : Int32, aft28 v = some q → (some v : Option (Int32)).bind some = some q) → ∀ (n28 : Nat) (ls : Array Slot) (H : Heap) (locs : List Loc) (z28 : Int32 × Int32), lv_has ls 7 [(0, .ref (gg_o g 0)), (1, .int x1), (2, .int x2), (3, .int z28.1), (4, .int z28.2)] → HH wd_C g s S H locs → (iter (f_X5_visits_L28  S x1 x2) n28 z28).bind aft28 = some q → W p l e rm_X5_visits s m args below meth c H locs 0 0 (MQ below (qc_i wd_C g S q) args s 0 0 (aw g)) (F0 m 28 ls []) := by
      intro x1 x2 aft28 hR28 n28
      induction n28 with
      | zero => intro ls H locs z28 hl hw hf; exact h_iter0 hf
      | succ n28 ih28 =>
        intro ls H locs z28 hl hw hf
        replace hf := h_iter hf
        unfold f_X5_visits_L28 at hf
        have J79 : ∀ (ls : Array Slot) (H : Heap) (locs : List Loc) (x3 : Int32) (x4 : Int32) (x5 : Int32) (y0 : Int32), lv_has ls 7 [(0, .ref (gg_o g 0)), (1, .int x1), (2, .int x2), (3, .int x3), (4, .int x4), (5, .int x5)] → HH wd_C g s S H locs → (f_X5_visits_J79  S x1 x2 x3 x4 x5 y0).bind (it_K (f_X5_visits_L28  S x1 x2) n28 aft28) = some q → W p l e rm_X5_visits s m args below meth c H locs 0 0 (MQ below (qc_i wd_C g S q) args s 0 0 (aw g)) (F0 m 79 ls [.int y0]) := by
          intro ls H locs x3 x4 x5 y0 hl hw hf
          unfold f_X5_visits_J79 at hf
          refine lv_istore hx hb dX5_visits_79 hl (by decide) (lv' := [(6, .int y0), (0, .ref (gg_o g 0)), (1, .int x1), (2, .int x2), (3, .int x3), (4, .int x4), (5, .int x5)]) rfl (fun ls hl => ?_)
          refine lv_iload_n hx hb dX5_visits_81 rfl (lv_at hl 3 rfl) ?_
          refine lv_iconst (v := -1) hx hb dX5_visits_82 (by decide) ?_
          refine lv_icmp_ne hx hb dX5_visits_83 (tgt := 94) rfl (fun hc7 => ?_) (fun hc7 => ?_)
          · replace hf := h_neg hc7 hf
            refine lv_iload hx hb dX5_visits_94 (lv_at hl 6 rfl) ?_
            refine lv_iload_n hx hb dX5_visits_96 rfl (lv_at hl 3 rfl) ?_
            refine lv_icmp_ne hx hb dX5_visits_97 (tgt := 103) rfl (fun hc8 => ?_) (fun hc8 => ?_)
            · replace hf := h_neg hc8 hf
              refine lv_iinc hx hb dX5_visits_103 hl (k := 5) rfl (congrArg (HAdd.hAdd _) (show Int32.ofInt (1) = 1 by decide)) (by decide) (lv' := [(4, .int (x4 + 1)), (6, .int y0), (0, .ref (gg_o g 0)), (1, .int x1), (2, .int x2), (3, .int x3), (5, .int x5)]) rfl (fun ls hl => ?_)
              refine lv_goto hx hb dX5_visits_106 (tgt := 28) rfl ?_
              exact ih28 _ _ _ (x3, (x4 + 1)) (lv_sub hl [2, 3, 4, 5, 0] rfl) hw hf
            replace hf := h_pos hc8 hf
            refine lv_iinc hx hb dX5_visits_100 hl (k := 4) rfl (congrArg (HAdd.hAdd _) (show Int32.ofInt (1) = 1 by decide)) (by decide) (lv' := [(3, .int (x3 + 1)), (6, .int y0), (0, .ref (gg_o g 0)), (1, .int x1), (2, .int x2), (4, .int x4), (5, .int x5)]) rfl (fun ls hl => ?_)
            refine lv_iinc hx hb dX5_visits_103 hl (k := 5) rfl (congrArg (HAdd.hAdd _) (show Int32.ofInt (1) = 1 by decide)) (by decide) (lv' := [(4, .int (x4 + 1)), (3, .int (x3 + 1)), (6, .int y0), (0, .ref (gg_o g 0)), (1, .int x1), (2, .int x2), (5, .int x5)]) rfl (fun ls hl => ?_)
            refine lv_goto hx hb dX5_visits_106 (tgt := 28) rfl ?_
            exact ih28 _ _ _ ((x3 + 1), (x4 + 1)) (lv_sub hl [3, 4, 5, 1, 0] rfl) hw hf
          replace hf := h_pos hc7 hf
          refine lv_iload hx hb dX5_visits_86 (lv_at hl 0 rfl) ?_
          refine lv_if_eq hx hb dX5_visits_88 (tgt := 103) rfl (fun hc9 => ?_) (fun hc9 => ?_)
          · replace hf := h_pos hc9 hf
            refine lv_iinc hx hb dX5_visits_103 hl (k := 5) rfl (congrArg (HAdd.hAdd _) (show Int32.ofInt (1) = 1 by decide)) (by decide) (lv' := [(4, .int (x4 + 1)), (6, .int y0), (0, .ref (gg_o g 0)), (1, .int x1), (2, .int x2), (3, .int x3), (5, .int x5)]) rfl (fun ls hl => ?_)
            refine lv_goto hx hb dX5_visits_106 (tgt := 28) rfl ?_
            exact ih28 _ _ _ (x3, (x4 + 1)) (lv_sub hl [2, 3, 4, 5, 0] rfl) hw hf
          replace hf := h_neg hc9 hf
          refine lv_goto hx hb dX5_visits_91 (tgt := 100) rfl ?_
          refine lv_iinc hx hb dX5_visits_100 hl (k := 4) rfl (congrArg (HAdd.hAdd _) (show Int32.ofInt (1) = 1 by decide)) (by decide) (lv' := [(3, .int (x3 + 1)), (6, .int y0), (0, .ref (gg_o g 0)), (1, .int x1), (2, .int x2), (4, .int x4), (5, .int x5)]) rfl (fun ls hl => ?_)
          refine lv_iinc hx hb dX5_visits_103 hl (k := 5) rfl (congrArg (HAdd.hAdd _) (show Int32.ofInt (1) = 1 by decide)) (by decide) (lv' := [(4, .int (x4 + 1)), (3, .int (x3 + 1)), (6, .int y0), (0, .ref (gg_o g 0)), (1, .int x1), (2, .int x2), (5, .int x5)]) rfl (fun ls hl => ?_)
          refine lv_goto hx hb dX5_visits_106 (tgt := 28) rfl ?_
          exact ih28 _ _ _ ((x3 + 1), (x4 + 1)) (lv_sub hl [3, 4, 5, 1, 0] rfl) hw hf
        have J78 : ∀ (ls : Array Slot) (H : Heap) (locs : List Loc) (x3 : Int32) (x4 : Int32) (x5 : Int32), lv_has ls 7 [(0, .ref (gg_o g 0)), (1, .int x1), (2, .int x2), (3, .int x3), (4, .int x4), (5, .int x5)] → HH wd_C g s S H locs → (f_X5_visits_J78  S x1 x2 x3 x4 x5).bind (it_K (f_X5_visits_L28  S x1 x2) n28 aft28) = some q → W p l e rm_X5_visits s m args below meth c H locs 0 0 (MQ below (qc_i wd_C g S q) args s 0 0 (aw g)) (F0 m 78 ls []) := by
          intro ls H locs x3 x4 x5 hl hw hf
          unfold f_X5_visits_J78 at hf
          refine lv_iconst (v := 0) hx hb dX5_visits_78 (by decide) ?_
          exact J79 _ _ _ x3 x4 x5 (0 : Int32) (lv_sub hl [0, 1, 2, 3, 4, 5] rfl) hw hf
        refine lv_iload hx hb dX5_visits_28 (lv_at hl 4 rfl) ?_
        refine lv_aload_n hx hb dX5_visits_30 rfl (lv_at hl 0 rfl) ?_
        refine gf_X5_39 cx hw hL.1 dX5_visits_31 ?_
        refine gf_X5_147 cx hw (hL.2.2.2.1 0 (by decide)) dX5_visits_34 ?_
        refine lv_icmp_gt hx hb dX5_visits_37 (tgt := 109) rfl (fun hc4 => ?_) (fun hc4 => ?_)
        · replace hf := h_pos hc4 hf
          refine lv_iload_n hx hb dX5_visits_109 rfl (lv_at hl 3 rfl) ?_
          replace hf := hR28 z28.1 hf
          exact r_iret cx hw hr hlk hf dX5_visits_110
        replace hf := h_neg hc4 hf
        refine lv_aload_n hx hb dX5_visits_40 rfl (lv_at hl 0 rfl) ?_
        refine gf_X5_39 cx hw hL.1 dX5_visits_41 ?_
        refine lv_iload_n hx hb dX5_visits_44 rfl (lv_at hl 1 rfl) ?_
        refine lv_iload hx hb dX5_visits_45 (lv_at hl 4 rfl) ?_
        refine r_VN_i (As := [.int x1, .int z28.2]) (rest := []) cx hw hf (nw_at cx) (hL.2.2.2.1 0 (by decide)).2.1 (by rw [(hL.2.2.2.1 0 (by decide)).1]; rfl) lk_X5_116 (fun q5 hq => k_X0_roomOf l g hg 10 (hL.2.2.2.1 0 (by decide)) hL.2.2.2.2 S x1 z28.2 q5 hq) ⟨⟨rfl, rfl⟩, Nat.le_of_ble_eq_true rfl, Nat.le_of_ble_eq_true rfl⟩ rfl hl.1 rfl (Nat.le_of_ble_eq_true rfl) dX5_visits_47 ⟨Nat.zero_le _, Nat.zero_le _⟩ (fun q5 H locs hw hf => ?_)
        refine lv_istore hx hb dX5_visits_50 hl (by decide) (lv' := [(5, .int q5), (0, .ref (gg_o g 0)), (1, .int x1), (2, .int x2), (3, .int z28.1), (4, .int z28.2)]) rfl (fun ls hl => ?_)
        refine lv_iload hx hb dX5_visits_52 (lv_at hl 5 rfl) ?_
        refine lv_if_le hx hb dX5_visits_54 (tgt := 78) rfl (fun hc6 => ?_) (fun hc6 => ?_)
        · replace hf := h_pos hc6 hf
          exact J78 _ _ _ z28.1 z28.2 q5 (lv_sub hl [1, 2, 3, 4, 5, 0] rfl) hw hf
        replace hf := h_neg hc6 hf
        refine lv_iload hx hb dX5_visits_57 (lv_at hl 0 rfl) ?_
        refine lv_aload_n hx hb dX5_visits_59 rfl (lv_at hl 1 rfl) ?_
        refine gf_X5_39 cx hw hL.1 dX5_visits_60 ?_
        refine lv_iload_n hx hb dX5_visits_63 rfl (lv_at hl 2 rfl) ?_
        refine lv_iload hx hb dX5_visits_64 (lv_at hl 5 rfl) ?_
        refine lv_iconst (v := 1) hx hb dX5_visits_66 (by decide) ?_
        refine lv_isub hx hb dX5_visits_67 ?_
        refine r_VN_i (As := [.int x1, .int (z28.2 - (1 : Int32))]) (rest := [.int q5]) cx hw hf (nw_at cx) (hL.2.2.2.1 0 (by decide)).2.1 (by rw [(hL.2.2.2.1 0 (by decide)).1]; rfl) lk_X5_116 (fun q10 hq => k_X0_roomOf l g hg 10 (hL.2.2.2.1 0 (by decide)) hL.2.2.2.2 S x1 (z28.2 - (1 : Int32)) q10 hq) ⟨⟨rfl, rfl⟩, Nat.le_of_ble_eq_true rfl, Nat.le_of_ble_eq_true rfl⟩ rfl hl.1 rfl (Nat.le_of_ble_eq_true rfl) dX5_visits_68 ⟨Nat.zero_le _, Nat.zero_le _⟩ (fun q10 H locs hw hf => ?_)
        refine lv_icmp_eq hx hb dX5_visits_71 (tgt := 78) rfl (fun hc11 => ?_) (fun hc11 => ?_)
        · replace hf := h_pos hc11 hf
          exact J78 _ _ _ z28.1 z28.2 q5 (lv_sub hl [1, 2, 3, 4, 5, 0] rfl) hw hf
        replace hf := h_neg hc11 hf
        refine lv_iconst (v := 1) hx hb dX5_visits_74 (by decide) ?_
        refine lv_goto hx hb dX5_visits_75 (tgt := 79) rfl ?_
        exact J79 _ _ _ z28.1 z28.2 q5 (1 : Int32) (lv_sub hl [1, 2, 3, 4, 5, 0] rfl) hw hf
    exact L28 x1 x2 some (fun v h => h) FU _ _ _ ((0 : Int32), (0 : Int32)) (lv_sub hl [2, 3, 4, 1, 0] rfl) hw hf
  refine lv_aload_n hx hb dX5_visits_0 rfl (lv_at hl 0 rfl) ?_
  refine lv_iload_n hx hb dX5_visits_1 rfl (lv_at hl 1 rfl) ?_
  refine r_V_i (As := [.int x1]) (rest := []) cx hw hf hL.1.2.1 (by rw [hL.1.1]; rfl) lk_X5_105 (fun q1 hq => k_X5_isMan l g hg  hL S x1 q1 hq) ⟨⟨rfl, rfl⟩, Nat.le_of_ble_eq_true rfl, Nat.le_of_ble_eq_true rfl⟩ rfl hl.1 rfl (Nat.le_of_ble_eq_true rfl) dX5_visits_2 ⟨Nat.zero_le _, Nat.zero_le _⟩ (fun q1 H locs hw hf => ?_)
  refine lv_if_eq hx hb dX5_visits_5 (tgt := 21) rfl (fun hc2 => ?_) (fun hc2 => ?_)
  · replace hf := h_pos hc2 hf
    refine lv_iconst (v := -1) hx hb dX5_visits_21 (by decide) ?_
    exact r_iret cx hw hr hlk hf dX5_visits_22
  replace hf := h_neg hc2 hf
  refine lv_iload_n hx hb dX5_visits_8 rfl (lv_at hl 2 rfl) ?_
  refine lv_iconst (v := -1) hx hb dX5_visits_9 (by decide) ?_
  refine lv_icmp_eq hx hb dX5_visits_10 (tgt := 23) rfl (fun hc3 => ?_) (fun hc3 => ?_)
  · replace hf := h_pos hc3 hf
    exact J23 _ _ _ x1 x2 (lv_sub hl [0, 1, 2] rfl) hw hf
  replace hf := h_neg hc3 hf
  refine lv_aload_n hx hb dX5_visits_13 rfl (lv_at hl 0 rfl) ?_
  refine lv_iload_n hx hb dX5_visits_14 rfl (lv_at hl 2 rfl) ?_
  refine r_V_i (As := [.int x2]) (rest := []) cx hw hf hL.1.2.1 (by rw [hL.1.1]; rfl) lk_X5_170 (fun q12 hq => k_X5_isRoom l g hg  hL S x2 q12 hq) ⟨⟨rfl, rfl⟩, Nat.le_of_ble_eq_true rfl, Nat.le_of_ble_eq_true rfl⟩ rfl hl.1 rfl (Nat.le_of_ble_eq_true rfl) dX5_visits_15 ⟨Nat.zero_le _, Nat.zero_le _⟩ (fun q12 H locs hw hf => ?_)
  refine lv_if_ne hx hb dX5_visits_18 (tgt := 23) rfl (fun hc13 => ?_) (fun hc13 => ?_)
  · replace hf := h_neg hc13 hf
    exact J23 _ _ _ x1 x2 (lv_sub hl [0, 1, 2] rfl) hw hf
  replace hf := h_pos hc13 hf
  refine lv_iconst (v := -1) hx hb dX5_visits_21 (by decide) ?_
  exact r_iret cx hw hr hlk hf dX5_visits_22
theorem dX5_aloneTimes_0 : decode cX5_aloneTimes 0 = .ok (.iconst 0, 1) := by decide +kernel
theorem dX5_aloneTimes_1 : decode cX5_aloneTimes 1 = .ok (.istore_n 3, 1) := by decide +kernel
theorem dX5_aloneTimes_2 : decode cX5_aloneTimes 2 = .ok (.iconst 0, 1) := by decide +kernel
theorem dX5_aloneTimes_3 : decode cX5_aloneTimes 3 = .ok (.istore 4, 2) := by decide +kernel
theorem dX5_aloneTimes_5 : decode cX5_aloneTimes 5 = .ok (.iconst 0, 1) := by decide +kernel
theorem dX5_aloneTimes_6 : decode cX5_aloneTimes 6 = .ok (.istore 5, 2) := by decide +kernel
theorem dX5_aloneTimes_8 : decode cX5_aloneTimes 8 = .ok (.iconst 0, 1) := by decide +kernel
theorem dX5_aloneTimes_9 : decode cX5_aloneTimes 9 = .ok (.istore 6, 2) := by decide +kernel
theorem dX5_aloneTimes_11 : decode cX5_aloneTimes 11 = .ok (.iload 6, 2) := by decide +kernel
theorem dX5_aloneTimes_13 : decode cX5_aloneTimes 13 = .ok (.aload_n 0, 1) := by decide +kernel
theorem dX5_aloneTimes_14 : decode cX5_aloneTimes 14 = .ok (.getfield 39, 3) := by decide +kernel
theorem dX5_aloneTimes_17 : decode cX5_aloneTimes 17 = .ok (.getfield 147, 3) := by decide +kernel
theorem dX5_aloneTimes_20 : decode cX5_aloneTimes 20 = .ok (.if_icmp .gt 78, 3) := by decide +kernel
theorem dX5_aloneTimes_23 : decode cX5_aloneTimes 23 = .ok (.aload_n 0, 1) := by decide +kernel
theorem dX5_aloneTimes_24 : decode cX5_aloneTimes 24 = .ok (.getfield 39, 3) := by decide +kernel
theorem dX5_aloneTimes_27 : decode cX5_aloneTimes 27 = .ok (.aload_n 0, 1) := by decide +kernel
theorem dX5_aloneTimes_28 : decode cX5_aloneTimes 28 = .ok (.getfield 39, 3) := by decide +kernel
theorem dX5_aloneTimes_31 : decode cX5_aloneTimes 31 = .ok (.iload_n 1, 1) := by decide +kernel
theorem dX5_aloneTimes_32 : decode cX5_aloneTimes 32 = .ok (.iload 6, 2) := by decide +kernel
theorem dX5_aloneTimes_34 : decode cX5_aloneTimes 34 = .ok (.invokevirtual 116, 3) := by decide +kernel
theorem dX5_aloneTimes_37 : decode cX5_aloneTimes 37 = .ok (.iload 6, 2) := by decide +kernel
theorem dX5_aloneTimes_39 : decode cX5_aloneTimes 39 = .ok (.invokevirtual 191, 3) := by decide +kernel
theorem dX5_aloneTimes_42 : decode cX5_aloneTimes 42 = .ok (.iconst 1, 1) := by decide +kernel
theorem dX5_aloneTimes_43 : decode cX5_aloneTimes 43 = .ok (.iload_n 1, 1) := by decide +kernel
theorem dX5_aloneTimes_44 : decode cX5_aloneTimes 44 = .ok (.ishl, 1) := by decide +kernel
theorem dX5_aloneTimes_45 : decode cX5_aloneTimes 45 = .ok (.if_icmp .ne 7, 3) := by decide +kernel
theorem dX5_aloneTimes_48 : decode cX5_aloneTimes 48 = .ok (.iconst 1, 1) := by decide +kernel
theorem dX5_aloneTimes_49 : decode cX5_aloneTimes 49 = .ok (.goto 4, 3) := by decide +kernel
theorem dX5_aloneTimes_52 : decode cX5_aloneTimes 52 = .ok (.iconst 0, 1) := by decide +kernel
theorem dX5_aloneTimes_53 : decode cX5_aloneTimes 53 = .ok (.istore 7, 2) := by decide +kernel
theorem dX5_aloneTimes_55 : decode cX5_aloneTimes 55 = .ok (.iload 7, 2) := by decide +kernel
theorem dX5_aloneTimes_57 : decode cX5_aloneTimes 57 = .ok (.ifCond .eq 10, 3) := by decide +kernel
theorem dX5_aloneTimes_60 : decode cX5_aloneTimes 60 = .ok (.iload 5, 2) := by decide +kernel
theorem dX5_aloneTimes_62 : decode cX5_aloneTimes 62 = .ok (.iconst 1, 1) := by decide +kernel
theorem dX5_aloneTimes_63 : decode cX5_aloneTimes 63 = .ok (.iadd, 1) := by decide +kernel
theorem dX5_aloneTimes_64 : decode cX5_aloneTimes 64 = .ok (.goto 4, 3) := by decide +kernel
theorem dX5_aloneTimes_67 : decode cX5_aloneTimes 67 = .ok (.iconst 0, 1) := by decide +kernel
theorem dX5_aloneTimes_68 : decode cX5_aloneTimes 68 = .ok (.istore 5, 2) := by decide +kernel
theorem dX5_aloneTimes_70 : decode cX5_aloneTimes 70 = .ok (.iload_n 3, 1) := by decide +kernel
theorem dX5_aloneTimes_71 : decode cX5_aloneTimes 71 = .ok (.iload 7, 2) := by decide +kernel
theorem dX5_aloneTimes_73 : decode cX5_aloneTimes 73 = .ok (.ifCond .eq 7, 3) := by decide +kernel
theorem dX5_aloneTimes_76 : decode cX5_aloneTimes 76 = .ok (.iconst 1, 1) := by decide +kernel
theorem dX5_aloneTimes_77 : decode cX5_aloneTimes 77 = .ok (.goto 4, 3) := by decide +kernel
theorem dX5_aloneTimes_80 : decode cX5_aloneTimes 80 = .ok (.iconst 0, 1) := by decide +kernel
theorem dX5_aloneTimes_81 : decode cX5_aloneTimes 81 = .ok (.iadd, 1) := by decide +kernel
theorem dX5_aloneTimes_82 : decode cX5_aloneTimes 82 = .ok (.istore_n 3, 1) := by decide +kernel
theorem dX5_aloneTimes_83 : decode cX5_aloneTimes 83 = .ok (.iload 4, 2) := by decide +kernel
theorem dX5_aloneTimes_85 : decode cX5_aloneTimes 85 = .ok (.iload 5, 2) := by decide +kernel
theorem dX5_aloneTimes_87 : decode cX5_aloneTimes 87 = .ok (.invokestatic 228, 3) := by decide +kernel
theorem dX5_aloneTimes_90 : decode cX5_aloneTimes 90 = .ok (.istore 4, 2) := by decide +kernel
theorem dX5_aloneTimes_92 : decode cX5_aloneTimes 92 = .ok (.iinc 6 1, 3) := by decide +kernel
theorem dX5_aloneTimes_95 : decode cX5_aloneTimes 95 = .ok (.goto (-84), 3) := by decide +kernel
theorem dX5_aloneTimes_98 : decode cX5_aloneTimes 98 = .ok (.iload_n 2, 1) := by decide +kernel
theorem dX5_aloneTimes_99 : decode cX5_aloneTimes 99 = .ok (.ifCond .eq 8, 3) := by decide +kernel
theorem dX5_aloneTimes_102 : decode cX5_aloneTimes 102 = .ok (.iload 4, 2) := by decide +kernel
theorem dX5_aloneTimes_104 : decode cX5_aloneTimes 104 = .ok (.goto 4, 3) := by decide +kernel
theorem dX5_aloneTimes_107 : decode cX5_aloneTimes 107 = .ok (.iload_n 3, 1) := by decide +kernel
theorem dX5_aloneTimes_108 : decode cX5_aloneTimes 108 = .ok (.ireturn, 1) := by decide +kernel
abbrev rm_X5_aloneTimes : Room := { frames := 2, cells := 0, slots := 0, locals := 45 }
def f_X5_aloneTimes_J81 (S : St) (x1 : Int32) (x2 : Int32) (x4 : Int32) (x5 : Int32) (x6 : Int32) (y0 : Int32) (y1 : Int32) : Option ((Int32 × Int32 × Int32 × Int32) ⊕ (Int32 × Int32)) :=
  some (.inl ((y1 + y0), (i_max x4 x5), x5, (x6 + 1)))
def f_X5_aloneTimes_J68 (S : St) (x1 : Int32) (x2 : Int32) (x3 : Int32) (x4 : Int32) (x6 : Int32) (x7 : Int32) (y0 : Int32) : Option ((Int32 × Int32 × Int32 × Int32) ⊕ (Int32 × Int32)) :=
  if x7 = 0 then (f_X5_aloneTimes_J81  S x1 x2 x4 y0 x6 (0 : Int32) x3) else (f_X5_aloneTimes_J81  S x1 x2 x4 y0 x6 (1 : Int32) x3)
def f_X5_aloneTimes_J53 (S : St) (x1 : Int32) (x2 : Int32) (x3 : Int32) (x4 : Int32) (x5 : Int32) (x6 : Int32) (y0 : Int32) : Option ((Int32 × Int32 × Int32 × Int32) ⊕ (Int32 × Int32)) :=
  if y0 = 0 then (f_X5_aloneTimes_J68  S x1 x2 x3 x4 x6 y0 (0 : Int32)) else (f_X5_aloneTimes_J68  S x1 x2 x3 x4 x6 y0 (x5 + (1 : Int32)))
def f_X5_aloneTimes_L11 (S : St) (x1 : Int32) (x2 : Int32) (z11 : Int32 × Int32 × Int32 × Int32) : Option ((Int32 × Int32 × Int32 × Int32) ⊕ (Int32 × Int32)) :=
  if (st_I S (ky 10 1)) < z11.2.2.2 then (some (.inr (z11.1, z11.2.1))) else ((f_X0_roomOf 10 S x1 z11.2.2.2).bind (fun (q2 : Int32) => (f_X0_menIn 10 S q2 z11.2.2.2).bind (fun (q3 : Int32) => if q3 = ((1 : Int32) <<< (x1 &&& 31)) then (f_X5_aloneTimes_J53  S x1 x2 z11.1 z11.2.1 z11.2.2.1 z11.2.2.2 (1 : Int32)) else (f_X5_aloneTimes_J53  S x1 x2 z11.1 z11.2.1 z11.2.2.1 z11.2.2.2 (0 : Int32)))))
def f_X5_aloneTimes (S : St) (x1 : Int32) (x2 : Int32) : Option (Int32) :=
  (iter (f_X5_aloneTimes_L11  S x1 x2) FU ((0 : Int32), (0 : Int32), (0 : Int32), (0 : Int32))).bind (fun (u10 : Int32 × Int32) => (fun (e7 : Int32) (e8 : Int32) => if x2 = 0 then (some e7) else (some e8)) u10.1 u10.2)
set_option maxRecDepth 100000 in
set_option maxHeartbeats 4000000 in
theorem k_X5_aloneTimes (l : Launch) (g : GG) (hg : gd wd_C g)  (hL : hAll g) (S : St) (x1 : Int32) (x2 : Int32) (q : Int32) (hf : f_X5_aloneTimes  S x1 x2 = some q) : Met l yX5_aloneTimes (Cond.code yX5_aloneTimes cX5_aloneTimes 8 (some .int) :: gw_tbl) rm_X5_aloneTimes (va_Pc [.ref (gg_o g 0), .int x1, .int x2] (wI wd_C g S)) (qc_i wd_C g S q) 0 0 (aw g) := by
  refine mt_start (own := RX5) hg (by decide) rfl (Nat.le_of_ble_eq_true rfl) (fun p e s m args below meth c ls H locs cx hw hr hlk hl => ?_)
  have hx := cx.1
  have hb := cx.2.1
  have hown := cx.2.2.2.1
  have hts := cx.2.2.2.2.1
  have hl : lv_has ls 8 [(0, .ref (gg_o g 0)), (1, .int x1), (2, .int x2)] := hl
  replace hf := h_top hf
  unfold f_X5_aloneTimes at hf
  refine lv_iconst (v := 0) hx hb dX5_aloneTimes_0 (by decide) ?_
  refine lv_istore_n hx hb dX5_aloneTimes_1 rfl hl (by decide) (lv' := [(3, .int (0 : Int32)), (0, .ref (gg_o g 0)), (1, .int x1), (2, .int x2)]) rfl (fun ls hl => ?_)
  refine lv_iconst (v := 0) hx hb dX5_aloneTimes_2 (by decide) ?_
  refine lv_istore hx hb dX5_aloneTimes_3 hl (by decide) (lv' := [(4, .int (0 : Int32)), (3, .int (0 : Int32)), (0, .ref (gg_o g 0)), (1, .int x1), (2, .int x2)]) rfl (fun ls hl => ?_)
  refine lv_iconst (v := 0) hx hb dX5_aloneTimes_5 (by decide) ?_
  refine lv_istore hx hb dX5_aloneTimes_6 hl (by decide) (lv' := [(5, .int (0 : Int32)), (4, .int (0 : Int32)), (3, .int (0 : Int32)), (0, .ref (gg_o g 0)), (1, .int x1), (2, .int x2)]) rfl (fun ls hl => ?_)
  refine lv_iconst (v := 0) hx hb dX5_aloneTimes_8 (by decide) ?_
  refine lv_istore hx hb dX5_aloneTimes_9 hl (by decide) (lv' := [(6, .int (0 : Int32)), (5, .int (0 : Int32)), (4, .int (0 : Int32)), (3, .int (0 : Int32)), (0, .ref (gg_o g 0)), (1, .int x1), (2, .int x2)]) rfl (fun ls hl => ?_)
  have L11 : ∀ (x1 : Int32) (x2 : Int32) (aft11 : (Int32 × Int32) → Option (Int32)), (∀ (ls : Array Slot) (H : Heap) (locs : List Loc) (e3 : Int32) (e4 : Int32), lv_has ls 8 [(2, .int x2), (3, .int e3), (4, .int e4)] → HH wd_C g s S H locs → aft11 (e3, e4) = some q → W p l e rm_X5_aloneTimes s m args below meth c H locs 0 0 (MQ below (qc_i wd_C g S q) args s 0 0 (aw g)) (F0 m 98 ls [])) → ∀ (n11 : Nat) (ls : Array Slot) (H : Heap) (locs : List Loc) (z11 : Int32 × Int32 × Int32 × Int32), lv_has ls 8 [(0, .ref (gg_o g 0)), (1, .int x1), (2, .int x2), (3, .int z11.1), (4, .int z11.2.1), (5, .int z11.2.2.1), (6, .int z11.2.2.2)] → HH wd_C g s S H locs → (iter (f_X5_aloneTimes_L11  S x1 x2) n11 z11).bind aft11 = some q → W p l e rm_X5_aloneTimes s m args below meth c H locs 0 0 (MQ below (qc_i wd_C g S q) args s 0 0 (aw g)) (F0 m 11 ls []) := by
    intro x1 x2 aft11 hX11 n11
    induction n11 with
    | zero => intro ls H locs z11 hl hw hf; exact h_iter0 hf
    | succ n11 ih11 =>
      intro ls H locs z11 hl hw hf
      replace hf := h_iter hf
      unfold f_X5_aloneTimes_L11 at hf
      have J81 : ∀ (ls : Array Slot) (H : Heap) (locs : List Loc) (x4 : Int32) (x5 : Int32) (x6 : Int32) (y0 : Int32) (y1 : Int32), lv_has ls 8 [(0, .ref (gg_o g 0)), (1, .int x1), (2, .int x2), (4, .int x4), (5, .int x5), (6, .int x6)] → HH wd_C g s S H locs → (f_X5_aloneTimes_J81  S x1 x2 x4 x5 x6 y0 y1).bind (it_K (f_X5_aloneTimes_L11  S x1 x2) n11 aft11) = some q → W p l e rm_X5_aloneTimes s m args below meth c H locs 0 0 (MQ below (qc_i wd_C g S q) args s 0 0 (aw g)) (F0 m 81 ls [.int y0, .int y1]) := by
        intro ls H locs x4 x5 x6 y0 y1 hl hw hf
        unfold f_X5_aloneTimes_J81 at hf
        refine lv_iadd hx hb dX5_aloneTimes_81 ?_
        refine lv_istore_n hx hb dX5_aloneTimes_82 rfl hl (by decide) (lv' := [(3, .int (y1 + y0)), (0, .ref (gg_o g 0)), (1, .int x1), (2, .int x2), (4, .int x4), (5, .int x5), (6, .int x6)]) rfl (fun ls hl => ?_)
        refine lv_iload hx hb dX5_aloneTimes_83 (lv_at hl 4 rfl) ?_
        refine lv_iload hx hb dX5_aloneTimes_85 (lv_at hl 5 rfl) ?_
        refine va_mmax hx hb (cx.2.2.1.trans hl.1.symm) hown (hts _ wd_916) (hts _ wd_85) (hts _ wd_7) (hts _ wd_86) (Nat.le_of_ble_eq_true rfl) (Nat.le_of_ble_eq_true rfl) (Nat.zero_le _) (Nat.zero_le _) dX5_aloneTimes_87 ?_
        refine lv_istore hx hb dX5_aloneTimes_90 hl (by decide) (lv' := [(4, .int (i_max x4 x5)), (3, .int (y1 + y0)), (0, .ref (gg_o g 0)), (1, .int x1), (2, .int x2), (5, .int x5), (6, .int x6)]) rfl (fun ls hl => ?_)
        refine lv_iinc hx hb dX5_aloneTimes_92 hl (k := 6) rfl (congrArg (HAdd.hAdd _) (show Int32.ofInt (1) = 1 by decide)) (by decide) (lv' := [(6, .int (x6 + 1)), (4, .int (i_max x4 x5)), (3, .int (y1 + y0)), (0, .ref (gg_o g 0)), (1, .int x1), (2, .int x2), (5, .int x5)]) rfl (fun ls hl => ?_)
        refine lv_goto hx hb dX5_aloneTimes_95 (tgt := 11) rfl ?_
        exact ih11 _ _ _ ((y1 + y0), (i_max x4 x5), x5, (x6 + 1)) (lv_sub hl [3, 4, 5, 2, 1, 6, 0] rfl) hw hf
      have J68 : ∀ (ls : Array Slot) (H : Heap) (locs : List Loc) (x3 : Int32) (x4 : Int32) (x6 : Int32) (x7 : Int32) (y0 : Int32), lv_has ls 8 [(0, .ref (gg_o g 0)), (1, .int x1), (2, .int x2), (3, .int x3), (4, .int x4), (6, .int x6), (7, .int x7)] → HH wd_C g s S H locs → (f_X5_aloneTimes_J68  S x1 x2 x3 x4 x6 x7 y0).bind (it_K (f_X5_aloneTimes_L11  S x1 x2) n11 aft11) = some q → W p l e rm_X5_aloneTimes s m args below meth c H locs 0 0 (MQ below (qc_i wd_C g S q) args s 0 0 (aw g)) (F0 m 68 ls [.int y0]) := by
        intro ls H locs x3 x4 x6 x7 y0 hl hw hf
        unfold f_X5_aloneTimes_J68 at hf
        refine lv_istore hx hb dX5_aloneTimes_68 hl (by decide) (lv' := [(5, .int y0), (0, .ref (gg_o g 0)), (1, .int x1), (2, .int x2), (3, .int x3), (4, .int x4), (6, .int x6), (7, .int x7)]) rfl (fun ls hl => ?_)
        refine lv_iload_n hx hb dX5_aloneTimes_70 rfl (lv_at hl 4 rfl) ?_
        refine lv_iload hx hb dX5_aloneTimes_71 (lv_at hl 7 rfl) ?_
        refine lv_if_eq hx hb dX5_aloneTimes_73 (tgt := 80) rfl (fun hc6 => ?_) (fun hc6 => ?_)
        · replace hf := h_pos hc6 hf
          refine lv_iconst (v := 0) hx hb dX5_aloneTimes_80 (by decide) ?_
          exact J81 _ _ _ x4 y0 x6 (0 : Int32) x3 (lv_sub hl [1, 2, 3, 5, 0, 6] rfl) hw hf
        replace hf := h_neg hc6 hf
        refine lv_iconst (v := 1) hx hb dX5_aloneTimes_76 (by decide) ?_
        refine lv_goto hx hb dX5_aloneTimes_77 (tgt := 81) rfl ?_
        exact J81 _ _ _ x4 y0 x6 (1 : Int32) x3 (lv_sub hl [1, 2, 3, 5, 0, 6] rfl) hw hf
      have J53 : ∀ (ls : Array Slot) (H : Heap) (locs : List Loc) (x3 : Int32) (x4 : Int32) (x5 : Int32) (x6 : Int32) (y0 : Int32), lv_has ls 8 [(0, .ref (gg_o g 0)), (1, .int x1), (2, .int x2), (3, .int x3), (4, .int x4), (5, .int x5), (6, .int x6)] → HH wd_C g s S H locs → (f_X5_aloneTimes_J53  S x1 x2 x3 x4 x5 x6 y0).bind (it_K (f_X5_aloneTimes_L11  S x1 x2) n11 aft11) = some q → W p l e rm_X5_aloneTimes s m args below meth c H locs 0 0 (MQ below (qc_i wd_C g S q) args s 0 0 (aw g)) (F0 m 53 ls [.int y0]) := by
        intro ls H locs x3 x4 x5 x6 y0 hl hw hf
        unfold f_X5_aloneTimes_J53 at hf
        refine lv_istore hx hb dX5_aloneTimes_53 hl (by decide) (lv' := [(7, .int y0), (0, .ref (gg_o g 0)), (1, .int x1), (2, .int x2), (3, .int x3), (4, .int x4), (5, .int x5), (6, .int x6)]) rfl (fun ls hl => ?_)
        refine lv_iload hx hb dX5_aloneTimes_55 (lv_at hl 0 rfl) ?_
        refine lv_if_eq hx hb dX5_aloneTimes_57 (tgt := 67) rfl (fun hc5 => ?_) (fun hc5 => ?_)
        · replace hf := h_pos hc5 hf
          refine lv_iconst (v := 0) hx hb dX5_aloneTimes_67 (by decide) ?_
          exact J68 _ _ _ x3 x4 x6 y0 (0 : Int32) (lv_sub hl [1, 2, 3, 4, 5, 7, 0] rfl) hw hf
        replace hf := h_neg hc5 hf
        refine lv_iload hx hb dX5_aloneTimes_60 (lv_at hl 6 rfl) ?_
        refine lv_iconst (v := 1) hx hb dX5_aloneTimes_62 (by decide) ?_
        refine lv_iadd hx hb dX5_aloneTimes_63 ?_
        refine lv_goto hx hb dX5_aloneTimes_64 (tgt := 68) rfl ?_
        exact J68 _ _ _ x3 x4 x6 y0 (x5 + (1 : Int32)) (lv_sub hl [1, 2, 3, 4, 5, 7, 0] rfl) hw hf
      refine lv_iload hx hb dX5_aloneTimes_11 (lv_at hl 6 rfl) ?_
      refine lv_aload_n hx hb dX5_aloneTimes_13 rfl (lv_at hl 0 rfl) ?_
      refine gf_X5_39 cx hw hL.1 dX5_aloneTimes_14 ?_
      refine gf_X5_147 cx hw (hL.2.2.2.1 0 (by decide)) dX5_aloneTimes_17 ?_
      refine lv_icmp_gt hx hb dX5_aloneTimes_20 (tgt := 98) rfl (fun hc1 => ?_) (fun hc1 => ?_)
      · replace hf := h_pos hc1 hf
        exact hX11 _ _ _ z11.1 z11.2.1 (lv_sub hl [2, 3, 4] rfl) hw hf
      replace hf := h_neg hc1 hf
      refine lv_aload_n hx hb dX5_aloneTimes_23 rfl (lv_at hl 0 rfl) ?_
      refine gf_X5_39 cx hw hL.1 dX5_aloneTimes_24 ?_
      refine lv_aload_n hx hb dX5_aloneTimes_27 rfl (lv_at hl 0 rfl) ?_
      refine gf_X5_39 cx hw hL.1 dX5_aloneTimes_28 ?_
      refine lv_iload_n hx hb dX5_aloneTimes_31 rfl (lv_at hl 1 rfl) ?_
      refine lv_iload hx hb dX5_aloneTimes_32 (lv_at hl 6 rfl) ?_
      refine r_VN_i (As := [.int x1, .int z11.2.2.2]) (rest := [.ref (gg_o g 10)]) cx hw hf (nw_at cx) (hL.2.2.2.1 0 (by decide)).2.1 (by rw [(hL.2.2.2.1 0 (by decide)).1]; rfl) lk_X5_116 (fun q2 hq => k_X0_roomOf l g hg 10 (hL.2.2.2.1 0 (by decide)) hL.2.2.2.2 S x1 z11.2.2.2 q2 hq) ⟨⟨rfl, rfl⟩, Nat.le_of_ble_eq_true rfl, Nat.le_of_ble_eq_true rfl⟩ rfl hl.1 rfl (Nat.le_of_ble_eq_true rfl) dX5_aloneTimes_34 ⟨Nat.zero_le _, Nat.zero_le _⟩ (fun q2 H locs hw hf => ?_)
      refine lv_iload hx hb dX5_aloneTimes_37 (lv_at hl 6 rfl) ?_
      refine r_VN_i (As := [.int q2, .int z11.2.2.2]) (rest := []) cx hw hf (nw_at cx) (hL.2.2.2.1 0 (by decide)).2.1 (by rw [(hL.2.2.2.1 0 (by decide)).1]; rfl) lk_X5_191 (fun q3 hq => k_X0_menIn l g hg 10 (hL.2.2.2.1 0 (by decide)) hL.2.2.2.2 S q2 z11.2.2.2 q3 hq) ⟨⟨rfl, rfl⟩, Nat.le_of_ble_eq_true rfl, Nat.le_of_ble_eq_true rfl⟩ rfl hl.1 rfl (Nat.le_of_ble_eq_true rfl) dX5_aloneTimes_39 ⟨Nat.zero_le _, Nat.zero_le _⟩ (fun q3 H locs hw hf => ?_)
      refine lv_iconst (v := 1) hx hb dX5_aloneTimes_42 (by decide) ?_
      refine lv_iload_n hx hb dX5_aloneTimes_43 rfl (lv_at hl 1 rfl) ?_
      refine lv_ishl hx hb dX5_aloneTimes_44 ?_
      refine lv_icmp_ne hx hb dX5_aloneTimes_45 (tgt := 52) rfl (fun hc4 => ?_) (fun hc4 => ?_)
      · replace hf := h_neg hc4 hf
        refine lv_iconst (v := 0) hx hb dX5_aloneTimes_52 (by decide) ?_
        exact J53 _ _ _ z11.1 z11.2.1 z11.2.2.1 z11.2.2.2 (0 : Int32) (lv_sub hl [0, 1, 2, 3, 4, 5, 6] rfl) hw hf
      replace hf := h_pos hc4 hf
      refine lv_iconst (v := 1) hx hb dX5_aloneTimes_48 (by decide) ?_
      refine lv_goto hx hb dX5_aloneTimes_49 (tgt := 53) rfl ?_
      exact J53 _ _ _ z11.1 z11.2.1 z11.2.2.1 z11.2.2.2 (1 : Int32) (lv_sub hl [0, 1, 2, 3, 4, 5, 6] rfl) hw hf
  refine L11 x1 x2 _ (fun ls H locs e7 e8 hl hw hf => ?_) FU _ _ _ ((0 : Int32), (0 : Int32), (0 : Int32), (0 : Int32)) (lv_sub hl [4, 5, 6, 3, 2, 1, 0] rfl) hw (h_assoc hf)
  try dsimp only at hf
  refine lv_iload_n hx hb dX5_aloneTimes_98 rfl (lv_at hl 0 rfl) ?_
  refine lv_if_eq hx hb dX5_aloneTimes_99 (tgt := 107) rfl (fun hc9 => ?_) (fun hc9 => ?_)
  · replace hf := h_pos hc9 hf
    refine lv_iload_n hx hb dX5_aloneTimes_107 rfl (lv_at hl 1 rfl) ?_
    exact r_iret cx hw hr hlk hf dX5_aloneTimes_108
  replace hf := h_neg hc9 hf
  refine lv_iload hx hb dX5_aloneTimes_102 (lv_at hl 2 rfl) ?_
  refine lv_goto hx hb dX5_aloneTimes_104 (tgt := 108) rfl ?_
  exact r_iret cx hw hr hlk hf dX5_aloneTimes_108
theorem dX5_alone_0 : decode cX5_alone 0 = .ok (.aload_n 0, 1) := by decide +kernel
theorem dX5_alone_1 : decode cX5_alone 1 = .ok (.iload_n 1, 1) := by decide +kernel
theorem dX5_alone_2 : decode cX5_alone 2 = .ok (.invokevirtual 105, 3) := by decide +kernel
theorem dX5_alone_5 : decode cX5_alone 5 = .ok (.ifCond .ne 5, 3) := by decide +kernel
theorem dX5_alone_8 : decode cX5_alone 8 = .ok (.iconst (-1), 1) := by decide +kernel
theorem dX5_alone_9 : decode cX5_alone 9 = .ok (.ireturn, 1) := by decide +kernel
theorem dX5_alone_10 : decode cX5_alone 10 = .ok (.aload_n 0, 1) := by decide +kernel
theorem dX5_alone_11 : decode cX5_alone 11 = .ok (.iload_n 1, 1) := by decide +kernel
theorem dX5_alone_12 : decode cX5_alone 12 = .ok (.iload_n 2, 1) := by decide +kernel
theorem dX5_alone_13 : decode cX5_alone 13 = .ok (.invokevirtual 224, 3) := by decide +kernel
theorem dX5_alone_16 : decode cX5_alone 16 = .ok (.ireturn, 1) := by decide +kernel
abbrev rm_X5_alone : Room := { frames := 3, cells := 0, slots := 0, locals := 72 }
def f_X5_alone (S : St) (x1 : Int32) (x2 : Int32) : Option (Int32) :=
  (f_X5_isMan  S x1).bind (fun (q1 : Int32) => if q1 = 0 then (some (-1 : Int32)) else ((f_X5_aloneTimes  S x1 x2).bind (fun (q3 : Int32) => some q3)))
set_option maxRecDepth 100000 in
set_option maxHeartbeats 4000000 in
theorem k_X5_alone (l : Launch) (g : GG) (hg : gd wd_C g)  (hL : hAll g) (S : St) (x1 : Int32) (x2 : Int32) (q : Int32) (hf : f_X5_alone  S x1 x2 = some q) : Met l yX5_alone (Cond.code yX5_alone cX5_alone 3 (some .int) :: gw_tbl) rm_X5_alone (va_Pc [.ref (gg_o g 0), .int x1, .int x2] (wI wd_C g S)) (qc_i wd_C g S q) 0 0 (aw g) := by
  refine mt_start (own := RX5) hg (by decide) rfl (Nat.le_of_ble_eq_true rfl) (fun p e s m args below meth c ls H locs cx hw hr hlk hl => ?_)
  have hx := cx.1
  have hb := cx.2.1
  have hown := cx.2.2.2.1
  have hts := cx.2.2.2.2.1
  have hl : lv_has ls 3 [(0, .ref (gg_o g 0)), (1, .int x1), (2, .int x2)] := hl
  replace hf := h_top hf
  unfold f_X5_alone at hf
  refine lv_aload_n hx hb dX5_alone_0 rfl (lv_at hl 0 rfl) ?_
  refine lv_iload_n hx hb dX5_alone_1 rfl (lv_at hl 1 rfl) ?_
  refine r_V_i (As := [.int x1]) (rest := []) cx hw hf hL.1.2.1 (by rw [hL.1.1]; rfl) lk_X5_105 (fun q1 hq => k_X5_isMan l g hg  hL S x1 q1 hq) ⟨⟨rfl, rfl⟩, Nat.le_of_ble_eq_true rfl, Nat.le_of_ble_eq_true rfl⟩ rfl hl.1 rfl (Nat.le_of_ble_eq_true rfl) dX5_alone_2 ⟨Nat.zero_le _, Nat.zero_le _⟩ (fun q1 H locs hw hf => ?_)
  refine lv_if_ne hx hb dX5_alone_5 (tgt := 10) rfl (fun hc2 => ?_) (fun hc2 => ?_)
  · replace hf := h_neg hc2 hf
    refine lv_aload_n hx hb dX5_alone_10 rfl (lv_at hl 0 rfl) ?_
    refine lv_iload_n hx hb dX5_alone_11 rfl (lv_at hl 1 rfl) ?_
    refine lv_iload_n hx hb dX5_alone_12 rfl (lv_at hl 2 rfl) ?_
    refine r_V_i (As := [.int x1, .int x2]) (rest := []) cx hw hf hL.1.2.1 (by rw [hL.1.1]; rfl) lk_X5_224 (fun q3 hq => k_X5_aloneTimes l g hg  hL S x1 x2 q3 hq) ⟨⟨rfl, rfl⟩, Nat.le_of_ble_eq_true rfl, Nat.le_of_ble_eq_true rfl⟩ rfl hl.1 rfl (Nat.le_of_ble_eq_true rfl) dX5_alone_13 ⟨Nat.zero_le _, Nat.zero_le _⟩ (fun q3 H locs hw hf => ?_)
    exact r_iret cx hw hr hlk hf dX5_alone_16
  replace hf := h_pos hc2 hf
  refine lv_iconst (v := -1) hx hb dX5_alone_8 (by decide) ?_
  exact r_iret cx hw hr hlk hf dX5_alone_9
theorem dX5_lonely_0 : decode cX5_lonely 0 = .ok (.bipush (-2), 2) := by decide +kernel
theorem dX5_lonely_2 : decode cX5_lonely 2 = .ok (.istore_n 1, 1) := by decide +kernel
theorem dX5_lonely_3 : decode cX5_lonely 3 = .ok (.iconst (-1), 1) := by decide +kernel
theorem dX5_lonely_4 : decode cX5_lonely 4 = .ok (.istore_n 2, 1) := by decide +kernel
theorem dX5_lonely_5 : decode cX5_lonely 5 = .ok (.iconst 0, 1) := by decide +kernel
theorem dX5_lonely_6 : decode cX5_lonely 6 = .ok (.istore_n 3, 1) := by decide +kernel
theorem dX5_lonely_7 : decode cX5_lonely 7 = .ok (.iload_n 3, 1) := by decide +kernel
theorem dX5_lonely_8 : decode cX5_lonely 8 = .ok (.aload_n 0, 1) := by decide +kernel
theorem dX5_lonely_9 : decode cX5_lonely 9 = .ok (.getfield 27, 3) := by decide +kernel
theorem dX5_lonely_12 : decode cX5_lonely 12 = .ok (.getfield 231, 3) := by decide +kernel
theorem dX5_lonely_15 : decode cX5_lonely 15 = .ok (.if_icmp .ge 28, 3) := by decide +kernel
theorem dX5_lonely_18 : decode cX5_lonely 18 = .ok (.aload_n 0, 1) := by decide +kernel
theorem dX5_lonely_19 : decode cX5_lonely 19 = .ok (.iload_n 3, 1) := by decide +kernel
theorem dX5_lonely_20 : decode cX5_lonely 20 = .ok (.iconst 0, 1) := by decide +kernel
theorem dX5_lonely_21 : decode cX5_lonely 21 = .ok (.invokevirtual 224, 3) := by decide +kernel
theorem dX5_lonely_24 : decode cX5_lonely 24 = .ok (.istore 4, 2) := by decide +kernel
theorem dX5_lonely_26 : decode cX5_lonely 26 = .ok (.iload 4, 2) := by decide +kernel
theorem dX5_lonely_28 : decode cX5_lonely 28 = .ok (.iload_n 2, 1) := by decide +kernel
theorem dX5_lonely_29 : decode cX5_lonely 29 = .ok (.if_icmp .le 8, 3) := by decide +kernel
theorem dX5_lonely_32 : decode cX5_lonely 32 = .ok (.iload 4, 2) := by decide +kernel
theorem dX5_lonely_34 : decode cX5_lonely 34 = .ok (.istore_n 2, 1) := by decide +kernel
theorem dX5_lonely_35 : decode cX5_lonely 35 = .ok (.iload_n 3, 1) := by decide +kernel
theorem dX5_lonely_36 : decode cX5_lonely 36 = .ok (.istore_n 1, 1) := by decide +kernel
theorem dX5_lonely_37 : decode cX5_lonely 37 = .ok (.iinc 3 1, 3) := by decide +kernel
theorem dX5_lonely_40 : decode cX5_lonely 40 = .ok (.goto (-33), 3) := by decide +kernel
theorem dX5_lonely_43 : decode cX5_lonely 43 = .ok (.iload_n 1, 1) := by decide +kernel
theorem dX5_lonely_44 : decode cX5_lonely 44 = .ok (.ireturn, 1) := by decide +kernel
abbrev rm_X5_lonely : Room := { frames := 3, cells := 0, slots := 0, locals := 72 }
def f_X5_lonely_L7 (S : St)  (z7 : Int32 × Int32 × Int32) : Option ((Int32 × Int32 × Int32) ⊕ (Int32)) :=
  chk (isT (st_P S (ky 0 4))) (if (st_I S (ky (st_P S (ky 0 4)) 2)) ≤ z7.2.2 then (some (.inr z7.1)) else ((f_X5_aloneTimes  S z7.2.2 (0 : Int32)).bind (fun (q3 : Int32) => if q3 ≤ z7.2.1 then (some (.inl (z7.1, z7.2.1, (z7.2.2 + 1)))) else (some (.inl (z7.2.2, q3, (z7.2.2 + 1)))))))
def f_X5_lonely (S : St)  : Option (Int32) :=
  iter (f_X5_lonely_L7  S ) FU ((-2 : Int32), (-1 : Int32), (0 : Int32))
set_option maxRecDepth 100000 in
set_option maxHeartbeats 4000000 in
theorem k_X5_lonely (l : Launch) (g : GG) (hg : gd wd_C g)  (hL : hAll g) (S : St)  (q : Int32) (hf : f_X5_lonely  S  = some q) : Met l yX5_lonely (Cond.code yX5_lonely cX5_lonely 5 (some .int) :: gw_tbl) rm_X5_lonely (va_Pc [.ref (gg_o g 0)] (wI wd_C g S)) (qc_i wd_C g S q) 0 0 (aw g) := by
  refine mt_start (own := RX5) hg (by decide) rfl (Nat.le_of_ble_eq_true rfl) (fun p e s m args below meth c ls H locs cx hw hr hlk hl => ?_)
  have hx := cx.1
  have hb := cx.2.1
  have hown := cx.2.2.2.1
  have hts := cx.2.2.2.2.1
  have hl : lv_has ls 5 [(0, .ref (gg_o g 0))] := hl
  replace hf := h_top hf
  unfold f_X5_lonely at hf
  refine lv_bipush (v := -2) hx hb dX5_lonely_0 (by decide) ?_
  refine lv_istore_n hx hb dX5_lonely_2 rfl hl (by decide) (lv' := [(1, .int (-2 : Int32)), (0, .ref (gg_o g 0))]) rfl (fun ls hl => ?_)
  refine lv_iconst (v := -1) hx hb dX5_lonely_3 (by decide) ?_
  refine lv_istore_n hx hb dX5_lonely_4 rfl hl (by decide) (lv' := [(2, .int (-1 : Int32)), (1, .int (-2 : Int32)), (0, .ref (gg_o g 0))]) rfl (fun ls hl => ?_)
  refine lv_iconst (v := 0) hx hb dX5_lonely_5 (by decide) ?_
  refine lv_istore_n hx hb dX5_lonely_6 rfl hl (by decide) (lv' := [(3, .int (0 : Int32)), (2, .int (-1 : Int32)), (1, .int (-2 : Int32)), (0, .ref (gg_o g 0))]) rfl (fun ls hl => ?_)
  have L7 : ∀  (aft7 : Int32 → Option (Int32)), (∀ v : Int32, aft7 v = some q → (some v : Option (Int32)).bind some = some q) → ∀ (n7 : Nat) (ls : Array Slot) (H : Heap) (locs : List Loc) (z7 : Int32 × Int32 × Int32), lv_has ls 5 [(0, .ref (gg_o g 0)), (1, .int z7.1), (2, .int z7.2.1), (3, .int z7.2.2)] → HH wd_C g s S H locs → (iter (f_X5_lonely_L7  S ) n7 z7).bind aft7 = some q → W p l e rm_X5_lonely s m args below meth c H locs 0 0 (MQ below (qc_i wd_C g S q) args s 0 0 (aw g)) (F0 m 7 ls []) := by
    intro aft7 hR7 n7
    induction n7 with
    | zero => intro ls H locs z7 hl hw hf; exact h_iter0 hf
    | succ n7 ih7 =>
      intro ls H locs z7 hl hw hf
      replace hf := h_iter hf
      unfold f_X5_lonely_L7 at hf
      refine lv_iload_n hx hb dX5_lonely_7 rfl (lv_at hl 3 rfl) ?_
      refine lv_aload_n hx hb dX5_lonely_8 rfl (lv_at hl 0 rfl) ?_
      obtain ⟨hc1, hf⟩ := h_chk hf
      refine gf_X5_27 cx hw hL.1 dX5_lonely_9 ?_
      refine gf_X5_231 cx hw ((allT_at hL.2.2.2.2 hc1).1) dX5_lonely_12 ?_
      refine lv_icmp_ge hx hb dX5_lonely_15 (tgt := 43) rfl (fun hc2 => ?_) (fun hc2 => ?_)
      · replace hf := h_pos hc2 hf
        refine lv_iload_n hx hb dX5_lonely_43 rfl (lv_at hl 1 rfl) ?_
        replace hf := hR7 z7.1 hf
        exact r_iret cx hw hr hlk hf dX5_lonely_44
      replace hf := h_neg hc2 hf
      refine lv_aload_n hx hb dX5_lonely_18 rfl (lv_at hl 0 rfl) ?_
      refine lv_iload_n hx hb dX5_lonely_19 rfl (lv_at hl 3 rfl) ?_
      refine lv_iconst (v := 0) hx hb dX5_lonely_20 (by decide) ?_
      refine r_V_i (As := [.int z7.2.2, .int (0 : Int32)]) (rest := []) cx hw hf hL.1.2.1 (by rw [hL.1.1]; rfl) lk_X5_224 (fun q3 hq => k_X5_aloneTimes l g hg  hL S z7.2.2 (0 : Int32) q3 hq) ⟨⟨rfl, rfl⟩, Nat.le_of_ble_eq_true rfl, Nat.le_of_ble_eq_true rfl⟩ rfl hl.1 rfl (Nat.le_of_ble_eq_true rfl) dX5_lonely_21 ⟨Nat.zero_le _, Nat.zero_le _⟩ (fun q3 H locs hw hf => ?_)
      refine lv_istore hx hb dX5_lonely_24 hl (by decide) (lv' := [(4, .int q3), (0, .ref (gg_o g 0)), (1, .int z7.1), (2, .int z7.2.1), (3, .int z7.2.2)]) rfl (fun ls hl => ?_)
      refine lv_iload hx hb dX5_lonely_26 (lv_at hl 0 rfl) ?_
      refine lv_iload_n hx hb dX5_lonely_28 rfl (lv_at hl 3 rfl) ?_
      refine lv_icmp_le hx hb dX5_lonely_29 (tgt := 37) rfl (fun hc4 => ?_) (fun hc4 => ?_)
      · replace hf := h_pos hc4 hf
        refine lv_iinc hx hb dX5_lonely_37 hl (k := 4) rfl (congrArg (HAdd.hAdd _) (show Int32.ofInt (1) = 1 by decide)) (by decide) (lv' := [(3, .int (z7.2.2 + 1)), (4, .int q3), (0, .ref (gg_o g 0)), (1, .int z7.1), (2, .int z7.2.1)]) rfl (fun ls hl => ?_)
        refine lv_goto hx hb dX5_lonely_40 (tgt := 7) rfl ?_
        exact ih7 _ _ _ (z7.1, z7.2.1, (z7.2.2 + 1)) (lv_sub hl [2, 3, 4, 0] rfl) hw hf
      replace hf := h_neg hc4 hf
      refine lv_iload hx hb dX5_lonely_32 (lv_at hl 0 rfl) ?_
      refine lv_istore_n hx hb dX5_lonely_34 rfl hl (by decide) (lv' := [(2, .int q3), (4, .int q3), (0, .ref (gg_o g 0)), (1, .int z7.1), (3, .int z7.2.2)]) rfl (fun ls hl => ?_)
      refine lv_iload_n hx hb dX5_lonely_35 rfl (lv_at hl 4 rfl) ?_
      refine lv_istore_n hx hb dX5_lonely_36 rfl hl (by decide) (lv' := [(1, .int z7.2.2), (2, .int q3), (4, .int q3), (0, .ref (gg_o g 0)), (3, .int z7.2.2)]) rfl (fun ls hl => ?_)
      refine lv_iinc hx hb dX5_lonely_37 hl (k := 4) rfl (congrArg (HAdd.hAdd _) (show Int32.ofInt (1) = 1 by decide)) (by decide) (lv' := [(3, .int (z7.2.2 + 1)), (1, .int z7.2.2), (2, .int q3), (4, .int q3), (0, .ref (gg_o g 0))]) rfl (fun ls hl => ?_)
      refine lv_goto hx hb dX5_lonely_40 (tgt := 7) rfl ?_
      exact ih7 _ _ _ (z7.2.2, q3, (z7.2.2 + 1)) (lv_sub hl [4, 1, 2, 0] rfl) hw hf
  exact L7 some (fun v h => h) FU _ _ _ ((-2 : Int32), (-1 : Int32), (0 : Int32)) (lv_sub hl [3, 2, 1, 0] rfl) hw hf
theorem dX5_together_0 : decode cX5_together 0 = .ok (.aload_n 0, 1) := by decide +kernel
theorem dX5_together_1 : decode cX5_together 1 = .ok (.iload_n 1, 1) := by decide +kernel
theorem dX5_together_2 : decode cX5_together 2 = .ok (.invokevirtual 105, 3) := by decide +kernel
theorem dX5_together_5 : decode cX5_together 5 = .ok (.ifCond .eq 24, 3) := by decide +kernel
theorem dX5_together_8 : decode cX5_together 8 = .ok (.aload_n 0, 1) := by decide +kernel
theorem dX5_together_9 : decode cX5_together 9 = .ok (.iload_n 2, 1) := by decide +kernel
theorem dX5_together_10 : decode cX5_together 10 = .ok (.invokevirtual 105, 3) := by decide +kernel
theorem dX5_together_13 : decode cX5_together 13 = .ok (.ifCond .eq 16, 3) := by decide +kernel
theorem dX5_together_16 : decode cX5_together 16 = .ok (.iload_n 1, 1) := by decide +kernel
theorem dX5_together_17 : decode cX5_together 17 = .ok (.iload_n 2, 1) := by decide +kernel
theorem dX5_together_18 : decode cX5_together 18 = .ok (.if_icmp .eq 11, 3) := by decide +kernel
theorem dX5_together_21 : decode cX5_together 21 = .ok (.iload_n 3, 1) := by decide +kernel
theorem dX5_together_22 : decode cX5_together 22 = .ok (.iconst 2, 1) := by decide +kernel
theorem dX5_together_23 : decode cX5_together 23 = .ok (.invokestatic 112, 3) := by decide +kernel
theorem dX5_together_26 : decode cX5_together 26 = .ok (.ifCond .ne 5, 3) := by decide +kernel
theorem dX5_together_29 : decode cX5_together 29 = .ok (.iconst (-1), 1) := by decide +kernel
theorem dX5_together_30 : decode cX5_together 30 = .ok (.ireturn, 1) := by decide +kernel
theorem dX5_together_31 : decode cX5_together 31 = .ok (.iconst 0, 1) := by decide +kernel
theorem dX5_together_32 : decode cX5_together 32 = .ok (.istore 4, 2) := by decide +kernel
theorem dX5_together_34 : decode cX5_together 34 = .ok (.bipush (-2), 2) := by decide +kernel
theorem dX5_together_36 : decode cX5_together 36 = .ok (.istore 5, 2) := by decide +kernel
theorem dX5_together_38 : decode cX5_together 38 = .ok (.iconst 0, 1) := by decide +kernel
theorem dX5_together_39 : decode cX5_together 39 = .ok (.istore 6, 2) := by decide +kernel
theorem dX5_together_41 : decode cX5_together 41 = .ok (.iload 6, 2) := by decide +kernel
theorem dX5_together_43 : decode cX5_together 43 = .ok (.aload_n 0, 1) := by decide +kernel
theorem dX5_together_44 : decode cX5_together 44 = .ok (.getfield 39, 3) := by decide +kernel
theorem dX5_together_47 : decode cX5_together 47 = .ok (.getfield 147, 3) := by decide +kernel
theorem dX5_together_50 : decode cX5_together 50 = .ok (.if_icmp .gt 39, 3) := by decide +kernel
theorem dX5_together_53 : decode cX5_together 53 = .ok (.aload_n 0, 1) := by decide +kernel
theorem dX5_together_54 : decode cX5_together 54 = .ok (.getfield 39, 3) := by decide +kernel
theorem dX5_together_57 : decode cX5_together 57 = .ok (.iload_n 1, 1) := by decide +kernel
theorem dX5_together_58 : decode cX5_together 58 = .ok (.iload 6, 2) := by decide +kernel
theorem dX5_together_60 : decode cX5_together 60 = .ok (.invokevirtual 116, 3) := by decide +kernel
theorem dX5_together_63 : decode cX5_together 63 = .ok (.aload_n 0, 1) := by decide +kernel
theorem dX5_together_64 : decode cX5_together 64 = .ok (.getfield 39, 3) := by decide +kernel
theorem dX5_together_67 : decode cX5_together 67 = .ok (.iload_n 2, 1) := by decide +kernel
theorem dX5_together_68 : decode cX5_together 68 = .ok (.iload 6, 2) := by decide +kernel
theorem dX5_together_70 : decode cX5_together 70 = .ok (.invokevirtual 116, 3) := by decide +kernel
theorem dX5_together_73 : decode cX5_together 73 = .ok (.if_icmp .ne 10, 3) := by decide +kernel
theorem dX5_together_76 : decode cX5_together 76 = .ok (.iinc 4 1, 3) := by decide +kernel
theorem dX5_together_79 : decode cX5_together 79 = .ok (.iload 6, 2) := by decide +kernel
theorem dX5_together_81 : decode cX5_together 81 = .ok (.istore 5, 2) := by decide +kernel
theorem dX5_together_83 : decode cX5_together 83 = .ok (.iinc 6 1, 3) := by decide +kernel
theorem dX5_together_86 : decode cX5_together 86 = .ok (.goto (-45), 3) := by decide +kernel
theorem dX5_together_89 : decode cX5_together 89 = .ok (.iload_n 3, 1) := by decide +kernel
theorem dX5_together_90 : decode cX5_together 90 = .ok (.ifCond .ne 8, 3) := by decide +kernel
theorem dX5_together_93 : decode cX5_together 93 = .ok (.iload 4, 2) := by decide +kernel
theorem dX5_together_95 : decode cX5_together 95 = .ok (.goto 5, 3) := by decide +kernel
theorem dX5_together_98 : decode cX5_together 98 = .ok (.iload 5, 2) := by decide +kernel
theorem dX5_together_100 : decode cX5_together 100 = .ok (.ireturn, 1) := by decide +kernel
abbrev rm_X5_together : Room := { frames := 2, cells := 0, slots := 0, locals := 43 }
def f_X5_together_L41 (S : St) (x1 : Int32) (x2 : Int32) (x3 : Int32) (z41 : Int32 × Int32 × Int32) : Option ((Int32 × Int32 × Int32) ⊕ (Int32 × Int32)) :=
  if (st_I S (ky 10 1)) < z41.2.2 then (some (.inr (z41.1, z41.2.1))) else ((f_X0_roomOf 10 S x1 z41.2.2).bind (fun (q9 : Int32) => (f_X0_roomOf 10 S x2 z41.2.2).bind (fun (q10 : Int32) => if q9 = q10 then (some (.inl ((z41.1 + 1), z41.2.2, (z41.2.2 + 1)))) else (some (.inl (z41.1, z41.2.1, (z41.2.2 + 1)))))))
def f_X5_together (S : St) (x1 : Int32) (x2 : Int32) (x3 : Int32) : Option (Int32) :=
  (f_X5_isMan  S x1).bind (fun (q1 : Int32) => if q1 = 0 then (some (-1 : Int32)) else ((f_X5_isMan  S x2).bind (fun (q3 : Int32) => if q3 = 0 then (some (-1 : Int32)) else (if x1 = x2 then (some (-1 : Int32)) else ((f_X5_within   x3 (2 : Int32)).bind (fun (q6 : Int32) => if q6 = 0 then (some (-1 : Int32)) else ((iter (f_X5_together_L41  S x1 x2 x3) FU ((0 : Int32), (-2 : Int32), (0 : Int32))).bind (fun (u15 : Int32 × Int32) => (fun (e12 : Int32) (e13 : Int32) => if x3 = 0 then (some e12) else (some e13)) u15.1 u15.2))))))))
set_option maxRecDepth 100000 in
set_option maxHeartbeats 4000000 in
theorem k_X5_together (l : Launch) (g : GG) (hg : gd wd_C g)  (hL : hAll g) (S : St) (x1 : Int32) (x2 : Int32) (x3 : Int32) (q : Int32) (hf : f_X5_together  S x1 x2 x3 = some q) : Met l yX5_together (Cond.code yX5_together cX5_together 7 (some .int) :: gw_tbl) rm_X5_together (va_Pc [.ref (gg_o g 0), .int x1, .int x2, .int x3] (wI wd_C g S)) (qc_i wd_C g S q) 0 0 (aw g) := by
  refine mt_start (own := RX5) hg (by decide) rfl (Nat.le_of_ble_eq_true rfl) (fun p e s m args below meth c ls H locs cx hw hr hlk hl => ?_)
  have hx := cx.1
  have hb := cx.2.1
  have hown := cx.2.2.2.1
  have hts := cx.2.2.2.2.1
  have hl : lv_has ls 7 [(0, .ref (gg_o g 0)), (1, .int x1), (2, .int x2), (3, .int x3)] := hl
  replace hf := h_top hf
  unfold f_X5_together at hf
  refine lv_aload_n hx hb dX5_together_0 rfl (lv_at hl 0 rfl) ?_
  refine lv_iload_n hx hb dX5_together_1 rfl (lv_at hl 1 rfl) ?_
  refine r_V_i (As := [.int x1]) (rest := []) cx hw hf hL.1.2.1 (by rw [hL.1.1]; rfl) lk_X5_105 (fun q1 hq => k_X5_isMan l g hg  hL S x1 q1 hq) ⟨⟨rfl, rfl⟩, Nat.le_of_ble_eq_true rfl, Nat.le_of_ble_eq_true rfl⟩ rfl hl.1 rfl (Nat.le_of_ble_eq_true rfl) dX5_together_2 ⟨Nat.zero_le _, Nat.zero_le _⟩ (fun q1 H locs hw hf => ?_)
  refine lv_if_eq hx hb dX5_together_5 (tgt := 29) rfl (fun hc2 => ?_) (fun hc2 => ?_)
  · replace hf := h_pos hc2 hf
    refine lv_iconst (v := -1) hx hb dX5_together_29 (by decide) ?_
    exact r_iret cx hw hr hlk hf dX5_together_30
  replace hf := h_neg hc2 hf
  refine lv_aload_n hx hb dX5_together_8 rfl (lv_at hl 0 rfl) ?_
  refine lv_iload_n hx hb dX5_together_9 rfl (lv_at hl 2 rfl) ?_
  refine r_V_i (As := [.int x2]) (rest := []) cx hw hf hL.1.2.1 (by rw [hL.1.1]; rfl) lk_X5_105 (fun q3 hq => k_X5_isMan l g hg  hL S x2 q3 hq) ⟨⟨rfl, rfl⟩, Nat.le_of_ble_eq_true rfl, Nat.le_of_ble_eq_true rfl⟩ rfl hl.1 rfl (Nat.le_of_ble_eq_true rfl) dX5_together_10 ⟨Nat.zero_le _, Nat.zero_le _⟩ (fun q3 H locs hw hf => ?_)
  refine lv_if_eq hx hb dX5_together_13 (tgt := 29) rfl (fun hc4 => ?_) (fun hc4 => ?_)
  · replace hf := h_pos hc4 hf
    refine lv_iconst (v := -1) hx hb dX5_together_29 (by decide) ?_
    exact r_iret cx hw hr hlk hf dX5_together_30
  replace hf := h_neg hc4 hf
  refine lv_iload_n hx hb dX5_together_16 rfl (lv_at hl 1 rfl) ?_
  refine lv_iload_n hx hb dX5_together_17 rfl (lv_at hl 2 rfl) ?_
  refine lv_icmp_eq hx hb dX5_together_18 (tgt := 29) rfl (fun hc5 => ?_) (fun hc5 => ?_)
  · replace hf := h_pos hc5 hf
    refine lv_iconst (v := -1) hx hb dX5_together_29 (by decide) ?_
    exact r_iret cx hw hr hlk hf dX5_together_30
  replace hf := h_neg hc5 hf
  refine lv_iload_n hx hb dX5_together_21 rfl (lv_at hl 3 rfl) ?_
  refine lv_iconst (v := 2) hx hb dX5_together_22 (by decide) ?_
  refine r_S_i (As := [.int x3, .int (2 : Int32)]) (rest := []) cx hw hf lk_X5_112 (fun q6 hq => k_X5_within l g hg   S x3 (2 : Int32) q6 hq) ⟨⟨rfl, rfl⟩, Nat.le_of_ble_eq_true rfl, Nat.le_of_ble_eq_true rfl⟩ rfl hl.1 rfl (Nat.le_of_ble_eq_true rfl) dX5_together_23 ⟨Nat.zero_le _, Nat.zero_le _⟩ (fun q6 H locs hw hf => ?_)
  refine lv_if_ne hx hb dX5_together_26 (tgt := 31) rfl (fun hc7 => ?_) (fun hc7 => ?_)
  · replace hf := h_neg hc7 hf
    refine lv_iconst (v := 0) hx hb dX5_together_31 (by decide) ?_
    refine lv_istore hx hb dX5_together_32 hl (by decide) (lv' := [(4, .int (0 : Int32)), (0, .ref (gg_o g 0)), (1, .int x1), (2, .int x2), (3, .int x3)]) rfl (fun ls hl => ?_)
    refine lv_bipush (v := -2) hx hb dX5_together_34 (by decide) ?_
    refine lv_istore hx hb dX5_together_36 hl (by decide) (lv' := [(5, .int (-2 : Int32)), (4, .int (0 : Int32)), (0, .ref (gg_o g 0)), (1, .int x1), (2, .int x2), (3, .int x3)]) rfl (fun ls hl => ?_)
    refine lv_iconst (v := 0) hx hb dX5_together_38 (by decide) ?_
    refine lv_istore hx hb dX5_together_39 hl (by decide) (lv' := [(6, .int (0 : Int32)), (5, .int (-2 : Int32)), (4, .int (0 : Int32)), (0, .ref (gg_o g 0)), (1, .int x1), (2, .int x2), (3, .int x3)]) rfl (fun ls hl => ?_)
    have L41 : ∀ (x1 : Int32) (x2 : Int32) (x3 : Int32) (aft41 : (Int32 × Int32) → Option (Int32)), (∀ (ls : Array Slot) (H : Heap) (locs : List Loc) (e4 : Int32) (e5 : Int32), lv_has ls 7 [(3, .int x3), (4, .int e4), (5, .int e5)] → HH wd_C g s S H locs → aft41 (e4, e5) = some q → W p l e rm_X5_together s m args below meth c H locs 0 0 (MQ below (qc_i wd_C g S q) args s 0 0 (aw g)) (F0 m 89 ls [])) → ∀ (n41 : Nat) (ls : Array Slot) (H : Heap) (locs : List Loc) (z41 : Int32 × Int32 × Int32), lv_has ls 7 [(0, .ref (gg_o g 0)), (1, .int x1), (2, .int x2), (3, .int x3), (4, .int z41.1), (5, .int z41.2.1), (6, .int z41.2.2)] → HH wd_C g s S H locs → (iter (f_X5_together_L41  S x1 x2 x3) n41 z41).bind aft41 = some q → W p l e rm_X5_together s m args below meth c H locs 0 0 (MQ below (qc_i wd_C g S q) args s 0 0 (aw g)) (F0 m 41 ls []) := by
      intro x1 x2 x3 aft41 hX41 n41
      induction n41 with
      | zero => intro ls H locs z41 hl hw hf; exact h_iter0 hf
      | succ n41 ih41 =>
        intro ls H locs z41 hl hw hf
        replace hf := h_iter hf
        unfold f_X5_together_L41 at hf
        refine lv_iload hx hb dX5_together_41 (lv_at hl 6 rfl) ?_
        refine lv_aload_n hx hb dX5_together_43 rfl (lv_at hl 0 rfl) ?_
        refine gf_X5_39 cx hw hL.1 dX5_together_44 ?_
        refine gf_X5_147 cx hw (hL.2.2.2.1 0 (by decide)) dX5_together_47 ?_
        refine lv_icmp_gt hx hb dX5_together_50 (tgt := 89) rfl (fun hc8 => ?_) (fun hc8 => ?_)
        · replace hf := h_pos hc8 hf
          exact hX41 _ _ _ z41.1 z41.2.1 (lv_sub hl [3, 4, 5] rfl) hw hf
        replace hf := h_neg hc8 hf
        refine lv_aload_n hx hb dX5_together_53 rfl (lv_at hl 0 rfl) ?_
        refine gf_X5_39 cx hw hL.1 dX5_together_54 ?_
        refine lv_iload_n hx hb dX5_together_57 rfl (lv_at hl 1 rfl) ?_
        refine lv_iload hx hb dX5_together_58 (lv_at hl 6 rfl) ?_
        refine r_VN_i (As := [.int x1, .int z41.2.2]) (rest := []) cx hw hf (nw_at cx) (hL.2.2.2.1 0 (by decide)).2.1 (by rw [(hL.2.2.2.1 0 (by decide)).1]; rfl) lk_X5_116 (fun q9 hq => k_X0_roomOf l g hg 10 (hL.2.2.2.1 0 (by decide)) hL.2.2.2.2 S x1 z41.2.2 q9 hq) ⟨⟨rfl, rfl⟩, Nat.le_of_ble_eq_true rfl, Nat.le_of_ble_eq_true rfl⟩ rfl hl.1 rfl (Nat.le_of_ble_eq_true rfl) dX5_together_60 ⟨Nat.zero_le _, Nat.zero_le _⟩ (fun q9 H locs hw hf => ?_)
        refine lv_aload_n hx hb dX5_together_63 rfl (lv_at hl 0 rfl) ?_
        refine gf_X5_39 cx hw hL.1 dX5_together_64 ?_
        refine lv_iload_n hx hb dX5_together_67 rfl (lv_at hl 2 rfl) ?_
        refine lv_iload hx hb dX5_together_68 (lv_at hl 6 rfl) ?_
        refine r_VN_i (As := [.int x2, .int z41.2.2]) (rest := [.int q9]) cx hw hf (nw_at cx) (hL.2.2.2.1 0 (by decide)).2.1 (by rw [(hL.2.2.2.1 0 (by decide)).1]; rfl) lk_X5_116 (fun q10 hq => k_X0_roomOf l g hg 10 (hL.2.2.2.1 0 (by decide)) hL.2.2.2.2 S x2 z41.2.2 q10 hq) ⟨⟨rfl, rfl⟩, Nat.le_of_ble_eq_true rfl, Nat.le_of_ble_eq_true rfl⟩ rfl hl.1 rfl (Nat.le_of_ble_eq_true rfl) dX5_together_70 ⟨Nat.zero_le _, Nat.zero_le _⟩ (fun q10 H locs hw hf => ?_)
        refine lv_icmp_ne hx hb dX5_together_73 (tgt := 83) rfl (fun hc11 => ?_) (fun hc11 => ?_)
        · replace hf := h_neg hc11 hf
          refine lv_iinc hx hb dX5_together_83 hl (k := 6) rfl (congrArg (HAdd.hAdd _) (show Int32.ofInt (1) = 1 by decide)) (by decide) (lv' := [(6, .int (z41.2.2 + 1)), (0, .ref (gg_o g 0)), (1, .int x1), (2, .int x2), (3, .int x3), (4, .int z41.1), (5, .int z41.2.1)]) rfl (fun ls hl => ?_)
          refine lv_goto hx hb dX5_together_86 (tgt := 41) rfl ?_
          exact ih41 _ _ _ (z41.1, z41.2.1, (z41.2.2 + 1)) (lv_sub hl [1, 2, 3, 4, 5, 6, 0] rfl) hw hf
        replace hf := h_pos hc11 hf
        refine lv_iinc hx hb dX5_together_76 hl (k := 4) rfl (congrArg (HAdd.hAdd _) (show Int32.ofInt (1) = 1 by decide)) (by decide) (lv' := [(4, .int (z41.1 + 1)), (0, .ref (gg_o g 0)), (1, .int x1), (2, .int x2), (3, .int x3), (5, .int z41.2.1), (6, .int z41.2.2)]) rfl (fun ls hl => ?_)
        refine lv_iload hx hb dX5_together_79 (lv_at hl 6 rfl) ?_
        refine lv_istore hx hb dX5_together_81 hl (by decide) (lv' := [(5, .int z41.2.2), (4, .int (z41.1 + 1)), (0, .ref (gg_o g 0)), (1, .int x1), (2, .int x2), (3, .int x3), (6, .int z41.2.2)]) rfl (fun ls hl => ?_)
        refine lv_iinc hx hb dX5_together_83 hl (k := 6) rfl (congrArg (HAdd.hAdd _) (show Int32.ofInt (1) = 1 by decide)) (by decide) (lv' := [(6, .int (z41.2.2 + 1)), (5, .int z41.2.2), (4, .int (z41.1 + 1)), (0, .ref (gg_o g 0)), (1, .int x1), (2, .int x2), (3, .int x3)]) rfl (fun ls hl => ?_)
        refine lv_goto hx hb dX5_together_86 (tgt := 41) rfl ?_
        exact ih41 _ _ _ ((z41.1 + 1), z41.2.2, (z41.2.2 + 1)) (lv_sub hl [3, 4, 5, 6, 2, 1, 0] rfl) hw hf
    refine L41 x1 x2 x3 _ (fun ls H locs e12 e13 hl hw hf => ?_) FU _ _ _ ((0 : Int32), (-2 : Int32), (0 : Int32)) (lv_sub hl [3, 4, 5, 6, 2, 1, 0] rfl) hw (h_assoc hf)
    try dsimp only at hf
    refine lv_iload_n hx hb dX5_together_89 rfl (lv_at hl 0 rfl) ?_
    refine lv_if_ne hx hb dX5_together_90 (tgt := 98) rfl (fun hc14 => ?_) (fun hc14 => ?_)
    · replace hf := h_neg hc14 hf
      refine lv_iload hx hb dX5_together_98 (lv_at hl 2 rfl) ?_
      exact r_iret cx hw hr hlk hf dX5_together_100
    replace hf := h_pos hc14 hf
    refine lv_iload hx hb dX5_together_93 (lv_at hl 1 rfl) ?_
    refine lv_goto hx hb dX5_together_95 (tgt := 100) rfl ?_
    exact r_iret cx hw hr hlk hf dX5_together_100
  replace hf := h_pos hc7 hf
  refine lv_iconst (v := -1) hx hb dX5_together_29 (by decide) ?_
  exact r_iret cx hw hr hlk hf dX5_together_30
theorem dX5_crowd_0 : decode cX5_crowd 0 = .ok (.aload_n 0, 1) := by decide +kernel
theorem dX5_crowd_1 : decode cX5_crowd 1 = .ok (.iload_n 1, 1) := by decide +kernel
theorem dX5_crowd_2 : decode cX5_crowd 2 = .ok (.invokevirtual 109, 3) := by decide +kernel
theorem dX5_crowd_5 : decode cX5_crowd 5 = .ok (.ifCond .eq 11, 3) := by decide +kernel
theorem dX5_crowd_8 : decode cX5_crowd 8 = .ok (.iload_n 2, 1) := by decide +kernel
theorem dX5_crowd_9 : decode cX5_crowd 9 = .ok (.iconst 2, 1) := by decide +kernel
theorem dX5_crowd_10 : decode cX5_crowd 10 = .ok (.invokestatic 112, 3) := by decide +kernel
theorem dX5_crowd_13 : decode cX5_crowd 13 = .ok (.ifCond .ne 5, 3) := by decide +kernel
theorem dX5_crowd_16 : decode cX5_crowd 16 = .ok (.iconst (-1), 1) := by decide +kernel
theorem dX5_crowd_17 : decode cX5_crowd 17 = .ok (.ireturn, 1) := by decide +kernel
theorem dX5_crowd_18 : decode cX5_crowd 18 = .ok (.bipush (-2), 2) := by decide +kernel
theorem dX5_crowd_20 : decode cX5_crowd 20 = .ok (.istore_n 3, 1) := by decide +kernel
theorem dX5_crowd_21 : decode cX5_crowd 21 = .ok (.bipush (-2), 2) := by decide +kernel
theorem dX5_crowd_23 : decode cX5_crowd 23 = .ok (.istore 4, 2) := by decide +kernel
theorem dX5_crowd_25 : decode cX5_crowd 25 = .ok (.iconst 0, 1) := by decide +kernel
theorem dX5_crowd_26 : decode cX5_crowd 26 = .ok (.istore 5, 2) := by decide +kernel
theorem dX5_crowd_28 : decode cX5_crowd 28 = .ok (.iload 5, 2) := by decide +kernel
theorem dX5_crowd_30 : decode cX5_crowd 30 = .ok (.aload_n 0, 1) := by decide +kernel
theorem dX5_crowd_31 : decode cX5_crowd 31 = .ok (.getfield 27, 3) := by decide +kernel
theorem dX5_crowd_34 : decode cX5_crowd 34 = .ok (.getfield 234, 3) := by decide +kernel
theorem dX5_crowd_37 : decode cX5_crowd 37 = .ok (.if_icmp .ge 38, 3) := by decide +kernel
theorem dX5_crowd_40 : decode cX5_crowd 40 = .ok (.aload_n 0, 1) := by decide +kernel
theorem dX5_crowd_41 : decode cX5_crowd 41 = .ok (.getfield 39, 3) := by decide +kernel
theorem dX5_crowd_44 : decode cX5_crowd 44 = .ok (.iload 5, 2) := by decide +kernel
theorem dX5_crowd_46 : decode cX5_crowd 46 = .ok (.iload_n 1, 1) := by decide +kernel
theorem dX5_crowd_47 : decode cX5_crowd 47 = .ok (.invokevirtual 191, 3) := by decide +kernel
theorem dX5_crowd_50 : decode cX5_crowd 50 = .ok (.invokestatic 237, 3) := by decide +kernel
theorem dX5_crowd_53 : decode cX5_crowd 53 = .ok (.istore 6, 2) := by decide +kernel
theorem dX5_crowd_55 : decode cX5_crowd 55 = .ok (.iload 6, 2) := by decide +kernel
theorem dX5_crowd_57 : decode cX5_crowd 57 = .ok (.iload 4, 2) := by decide +kernel
theorem dX5_crowd_59 : decode cX5_crowd 59 = .ok (.if_icmp .le 10, 3) := by decide +kernel
theorem dX5_crowd_62 : decode cX5_crowd 62 = .ok (.iload 6, 2) := by decide +kernel
theorem dX5_crowd_64 : decode cX5_crowd 64 = .ok (.istore 4, 2) := by decide +kernel
theorem dX5_crowd_66 : decode cX5_crowd 66 = .ok (.iload 5, 2) := by decide +kernel
theorem dX5_crowd_68 : decode cX5_crowd 68 = .ok (.istore_n 3, 1) := by decide +kernel
theorem dX5_crowd_69 : decode cX5_crowd 69 = .ok (.iinc 5 1, 3) := by decide +kernel
theorem dX5_crowd_72 : decode cX5_crowd 72 = .ok (.goto (-44), 3) := by decide +kernel
theorem dX5_crowd_75 : decode cX5_crowd 75 = .ok (.iload_n 2, 1) := by decide +kernel
theorem dX5_crowd_76 : decode cX5_crowd 76 = .ok (.ifCond .ne 7, 3) := by decide +kernel
theorem dX5_crowd_79 : decode cX5_crowd 79 = .ok (.iload_n 3, 1) := by decide +kernel
theorem dX5_crowd_80 : decode cX5_crowd 80 = .ok (.goto 5, 3) := by decide +kernel
theorem dX5_crowd_83 : decode cX5_crowd 83 = .ok (.iload 4, 2) := by decide +kernel
theorem dX5_crowd_85 : decode cX5_crowd 85 = .ok (.ireturn, 1) := by decide +kernel
abbrev rm_X5_crowd : Room := { frames := 2, cells := 0, slots := 0, locals := 45 }
def f_X5_crowd_L28 (S : St) (x1 : Int32) (x2 : Int32) (z28 : Int32 × Int32 × Int32) : Option ((Int32 × Int32 × Int32) ⊕ (Int32 × Int32)) :=
  chk (isT (st_P S (ky 0 4))) (if (st_I S (ky (st_P S (ky 0 4)) 0)) ≤ z28.2.2 then (some (.inr (z28.1, z28.2.1))) else ((f_X0_menIn 10 S z28.2.2 x1).bind (fun (q7 : Int32) => (f_J6_bitCount_0f7a4   q7).bind (fun (q8 : Int32) => if q8 ≤ z28.2.1 then (some (.inl (z28.1, z28.2.1, (z28.2.2 + 1)))) else (some (.inl (z28.2.2, q8, (z28.2.2 + 1))))))))
def f_X5_crowd (S : St) (x1 : Int32) (x2 : Int32) : Option (Int32) :=
  (f_X5_isPast  S x1).bind (fun (q1 : Int32) => if q1 = 0 then (some (-1 : Int32)) else ((f_X5_within   x2 (2 : Int32)).bind (fun (q3 : Int32) => if q3 = 0 then (some (-1 : Int32)) else ((iter (f_X5_crowd_L28  S x1 x2) FU ((-2 : Int32), (-2 : Int32), (0 : Int32))).bind (fun (u13 : Int32 × Int32) => (fun (e10 : Int32) (e11 : Int32) => if x2 = 0 then (some e10) else (some e11)) u13.1 u13.2)))))
set_option maxRecDepth 100000 in
set_option maxHeartbeats 4000000 in
theorem k_X5_crowd (l : Launch) (g : GG) (hg : gd wd_C g)  (hL : hAll g) (S : St) (x1 : Int32) (x2 : Int32) (q : Int32) (hf : f_X5_crowd  S x1 x2 = some q) : Met l yX5_crowd (Cond.code yX5_crowd cX5_crowd 7 (some .int) :: gw_tbl) rm_X5_crowd (va_Pc [.ref (gg_o g 0), .int x1, .int x2] (wI wd_C g S)) (qc_i wd_C g S q) 0 0 (aw g) := by
  refine mt_start (own := RX5) hg (by decide) rfl (Nat.le_of_ble_eq_true rfl) (fun p e s m args below meth c ls H locs cx hw hr hlk hl => ?_)
  have hx := cx.1
  have hb := cx.2.1
  have hown := cx.2.2.2.1
  have hts := cx.2.2.2.2.1
  have hl : lv_has ls 7 [(0, .ref (gg_o g 0)), (1, .int x1), (2, .int x2)] := hl
  replace hf := h_top hf
  unfold f_X5_crowd at hf
  refine lv_aload_n hx hb dX5_crowd_0 rfl (lv_at hl 0 rfl) ?_
  refine lv_iload_n hx hb dX5_crowd_1 rfl (lv_at hl 1 rfl) ?_
  refine r_V_i (As := [.int x1]) (rest := []) cx hw hf hL.1.2.1 (by rw [hL.1.1]; rfl) lk_X5_109 (fun q1 hq => k_X5_isPast l g hg  hL S x1 q1 hq) ⟨⟨rfl, rfl⟩, Nat.le_of_ble_eq_true rfl, Nat.le_of_ble_eq_true rfl⟩ rfl hl.1 rfl (Nat.le_of_ble_eq_true rfl) dX5_crowd_2 ⟨Nat.zero_le _, Nat.zero_le _⟩ (fun q1 H locs hw hf => ?_)
  refine lv_if_eq hx hb dX5_crowd_5 (tgt := 16) rfl (fun hc2 => ?_) (fun hc2 => ?_)
  · replace hf := h_pos hc2 hf
    refine lv_iconst (v := -1) hx hb dX5_crowd_16 (by decide) ?_
    exact r_iret cx hw hr hlk hf dX5_crowd_17
  replace hf := h_neg hc2 hf
  refine lv_iload_n hx hb dX5_crowd_8 rfl (lv_at hl 2 rfl) ?_
  refine lv_iconst (v := 2) hx hb dX5_crowd_9 (by decide) ?_
  refine r_S_i (As := [.int x2, .int (2 : Int32)]) (rest := []) cx hw hf lk_X5_112 (fun q3 hq => k_X5_within l g hg   S x2 (2 : Int32) q3 hq) ⟨⟨rfl, rfl⟩, Nat.le_of_ble_eq_true rfl, Nat.le_of_ble_eq_true rfl⟩ rfl hl.1 rfl (Nat.le_of_ble_eq_true rfl) dX5_crowd_10 ⟨Nat.zero_le _, Nat.zero_le _⟩ (fun q3 H locs hw hf => ?_)
  refine lv_if_ne hx hb dX5_crowd_13 (tgt := 18) rfl (fun hc4 => ?_) (fun hc4 => ?_)
  · replace hf := h_neg hc4 hf
    refine lv_bipush (v := -2) hx hb dX5_crowd_18 (by decide) ?_
    refine lv_istore_n hx hb dX5_crowd_20 rfl hl (by decide) (lv' := [(3, .int (-2 : Int32)), (0, .ref (gg_o g 0)), (1, .int x1), (2, .int x2)]) rfl (fun ls hl => ?_)
    refine lv_bipush (v := -2) hx hb dX5_crowd_21 (by decide) ?_
    refine lv_istore hx hb dX5_crowd_23 hl (by decide) (lv' := [(4, .int (-2 : Int32)), (3, .int (-2 : Int32)), (0, .ref (gg_o g 0)), (1, .int x1), (2, .int x2)]) rfl (fun ls hl => ?_)
    refine lv_iconst (v := 0) hx hb dX5_crowd_25 (by decide) ?_
    refine lv_istore hx hb dX5_crowd_26 hl (by decide) (lv' := [(5, .int (0 : Int32)), (4, .int (-2 : Int32)), (3, .int (-2 : Int32)), (0, .ref (gg_o g 0)), (1, .int x1), (2, .int x2)]) rfl (fun ls hl => ?_)
    have L28 : ∀ (x1 : Int32) (x2 : Int32) (aft28 : (Int32 × Int32) → Option (Int32)), (∀ (ls : Array Slot) (H : Heap) (locs : List Loc) (e3 : Int32) (e4 : Int32), lv_has ls 7 [(2, .int x2), (3, .int e3), (4, .int e4)] → HH wd_C g s S H locs → aft28 (e3, e4) = some q → W p l e rm_X5_crowd s m args below meth c H locs 0 0 (MQ below (qc_i wd_C g S q) args s 0 0 (aw g)) (F0 m 75 ls [])) → ∀ (n28 : Nat) (ls : Array Slot) (H : Heap) (locs : List Loc) (z28 : Int32 × Int32 × Int32), lv_has ls 7 [(0, .ref (gg_o g 0)), (1, .int x1), (2, .int x2), (3, .int z28.1), (4, .int z28.2.1), (5, .int z28.2.2)] → HH wd_C g s S H locs → (iter (f_X5_crowd_L28  S x1 x2) n28 z28).bind aft28 = some q → W p l e rm_X5_crowd s m args below meth c H locs 0 0 (MQ below (qc_i wd_C g S q) args s 0 0 (aw g)) (F0 m 28 ls []) := by
      intro x1 x2 aft28 hX28 n28
      induction n28 with
      | zero => intro ls H locs z28 hl hw hf; exact h_iter0 hf
      | succ n28 ih28 =>
        intro ls H locs z28 hl hw hf
        replace hf := h_iter hf
        unfold f_X5_crowd_L28 at hf
        refine lv_iload hx hb dX5_crowd_28 (lv_at hl 5 rfl) ?_
        refine lv_aload_n hx hb dX5_crowd_30 rfl (lv_at hl 0 rfl) ?_
        obtain ⟨hc5, hf⟩ := h_chk hf
        refine gf_X5_27 cx hw hL.1 dX5_crowd_31 ?_
        refine gf_X5_234 cx hw ((allT_at hL.2.2.2.2 hc5).1) dX5_crowd_34 ?_
        refine lv_icmp_ge hx hb dX5_crowd_37 (tgt := 75) rfl (fun hc6 => ?_) (fun hc6 => ?_)
        · replace hf := h_pos hc6 hf
          exact hX28 _ _ _ z28.1 z28.2.1 (lv_sub hl [2, 3, 4] rfl) hw hf
        replace hf := h_neg hc6 hf
        refine lv_aload_n hx hb dX5_crowd_40 rfl (lv_at hl 0 rfl) ?_
        refine gf_X5_39 cx hw hL.1 dX5_crowd_41 ?_
        refine lv_iload hx hb dX5_crowd_44 (lv_at hl 5 rfl) ?_
        refine lv_iload_n hx hb dX5_crowd_46 rfl (lv_at hl 1 rfl) ?_
        refine r_VN_i (As := [.int z28.2.2, .int x1]) (rest := []) cx hw hf (nw_at cx) (hL.2.2.2.1 0 (by decide)).2.1 (by rw [(hL.2.2.2.1 0 (by decide)).1]; rfl) lk_X5_191 (fun q7 hq => k_X0_menIn l g hg 10 (hL.2.2.2.1 0 (by decide)) hL.2.2.2.2 S z28.2.2 x1 q7 hq) ⟨⟨rfl, rfl⟩, Nat.le_of_ble_eq_true rfl, Nat.le_of_ble_eq_true rfl⟩ rfl hl.1 rfl (Nat.le_of_ble_eq_true rfl) dX5_crowd_47 ⟨Nat.zero_le _, Nat.zero_le _⟩ (fun q7 H locs hw hf => ?_)
        refine r_S_i (As := [.int q7]) (rest := []) cx hw hf lk_X5_237 (fun q8 hq => k_J6_bitCount_0f7a4 l wd_C g hg   S q7 q8 hq) ⟨⟨rfl, rfl⟩, Nat.le_of_ble_eq_true rfl, Nat.le_of_ble_eq_true rfl⟩ rfl hl.1 rfl (Nat.le_of_ble_eq_true rfl) dX5_crowd_50 ⟨Nat.zero_le _, Nat.zero_le _⟩ (fun q8 H locs hw hf => ?_)
        refine lv_istore hx hb dX5_crowd_53 hl (by decide) (lv' := [(6, .int q8), (0, .ref (gg_o g 0)), (1, .int x1), (2, .int x2), (3, .int z28.1), (4, .int z28.2.1), (5, .int z28.2.2)]) rfl (fun ls hl => ?_)
        refine lv_iload hx hb dX5_crowd_55 (lv_at hl 0 rfl) ?_
        refine lv_iload hx hb dX5_crowd_57 (lv_at hl 5 rfl) ?_
        refine lv_icmp_le hx hb dX5_crowd_59 (tgt := 69) rfl (fun hc9 => ?_) (fun hc9 => ?_)
        · replace hf := h_pos hc9 hf
          refine lv_iinc hx hb dX5_crowd_69 hl (k := 6) rfl (congrArg (HAdd.hAdd _) (show Int32.ofInt (1) = 1 by decide)) (by decide) (lv' := [(5, .int (z28.2.2 + 1)), (6, .int q8), (0, .ref (gg_o g 0)), (1, .int x1), (2, .int x2), (3, .int z28.1), (4, .int z28.2.1)]) rfl (fun ls hl => ?_)
          refine lv_goto hx hb dX5_crowd_72 (tgt := 28) rfl ?_
          exact ih28 _ _ _ (z28.1, z28.2.1, (z28.2.2 + 1)) (lv_sub hl [2, 3, 4, 5, 6, 0] rfl) hw hf
        replace hf := h_neg hc9 hf
        refine lv_iload hx hb dX5_crowd_62 (lv_at hl 0 rfl) ?_
        refine lv_istore hx hb dX5_crowd_64 hl (by decide) (lv' := [(4, .int q8), (6, .int q8), (0, .ref (gg_o g 0)), (1, .int x1), (2, .int x2), (3, .int z28.1), (5, .int z28.2.2)]) rfl (fun ls hl => ?_)
        refine lv_iload hx hb dX5_crowd_66 (lv_at hl 6 rfl) ?_
        refine lv_istore_n hx hb dX5_crowd_68 rfl hl (by decide) (lv' := [(3, .int z28.2.2), (4, .int q8), (6, .int q8), (0, .ref (gg_o g 0)), (1, .int x1), (2, .int x2), (5, .int z28.2.2)]) rfl (fun ls hl => ?_)
        refine lv_iinc hx hb dX5_crowd_69 hl (k := 6) rfl (congrArg (HAdd.hAdd _) (show Int32.ofInt (1) = 1 by decide)) (by decide) (lv' := [(5, .int (z28.2.2 + 1)), (3, .int z28.2.2), (4, .int q8), (6, .int q8), (0, .ref (gg_o g 0)), (1, .int x1), (2, .int x2)]) rfl (fun ls hl => ?_)
        refine lv_goto hx hb dX5_crowd_72 (tgt := 28) rfl ?_
        exact ih28 _ _ _ (z28.2.2, q8, (z28.2.2 + 1)) (lv_sub hl [4, 5, 6, 1, 2, 0] rfl) hw hf
    refine L28 x1 x2 _ (fun ls H locs e10 e11 hl hw hf => ?_) FU _ _ _ ((-2 : Int32), (-2 : Int32), (0 : Int32)) (lv_sub hl [3, 4, 5, 2, 1, 0] rfl) hw (h_assoc hf)
    try dsimp only at hf
    refine lv_iload_n hx hb dX5_crowd_75 rfl (lv_at hl 0 rfl) ?_
    refine lv_if_ne hx hb dX5_crowd_76 (tgt := 83) rfl (fun hc12 => ?_) (fun hc12 => ?_)
    · replace hf := h_neg hc12 hf
      refine lv_iload hx hb dX5_crowd_83 (lv_at hl 2 rfl) ?_
      exact r_iret cx hw hr hlk hf dX5_crowd_85
    replace hf := h_pos hc12 hf
    refine lv_iload_n hx hb dX5_crowd_79 rfl (lv_at hl 1 rfl) ?_
    refine lv_goto hx hb dX5_crowd_80 (tgt := 85) rfl ?_
    exact r_iret cx hw hr hlk hf dX5_crowd_85
  replace hf := h_pos hc4 hf
  refine lv_iconst (v := -1) hx hb dX5_crowd_16 (by decide) ?_
  exact r_iret cx hw hr hlk hf dX5_crowd_17
theorem dX5_rankFor_0 : decode cX5_rankFor 0 = .ok (.aload_n 0, 1) := by decide +kernel
theorem dX5_rankFor_1 : decode cX5_rankFor 1 = .ok (.iload_n 1, 1) := by decide +kernel
theorem dX5_rankFor_2 : decode cX5_rankFor 2 = .ok (.invokevirtual 123, 3) := by decide +kernel
theorem dX5_rankFor_5 : decode cX5_rankFor 5 = .ok (.ifCond .eq 11, 3) := by decide +kernel
theorem dX5_rankFor_8 : decode cX5_rankFor 8 = .ok (.aload_n 0, 1) := by decide +kernel
theorem dX5_rankFor_9 : decode cX5_rankFor 9 = .ok (.iload_n 2, 1) := by decide +kernel
theorem dX5_rankFor_10 : decode cX5_rankFor 10 = .ok (.invokevirtual 109, 3) := by decide +kernel
theorem dX5_rankFor_13 : decode cX5_rankFor 13 = .ok (.ifCond .ne 5, 3) := by decide +kernel
theorem dX5_rankFor_16 : decode cX5_rankFor 16 = .ok (.iconst (-1), 1) := by decide +kernel
theorem dX5_rankFor_17 : decode cX5_rankFor 17 = .ok (.ireturn, 1) := by decide +kernel
theorem dX5_rankFor_18 : decode cX5_rankFor 18 = .ok (.aload_n 0, 1) := by decide +kernel
theorem dX5_rankFor_19 : decode cX5_rankFor 19 = .ok (.getfield 39, 3) := by decide +kernel
theorem dX5_rankFor_22 : decode cX5_rankFor 22 = .ok (.getfield 147, 3) := by decide +kernel
theorem dX5_rankFor_25 : decode cX5_rankFor 25 = .ok (.istore_n 3, 1) := by decide +kernel
theorem dX5_rankFor_26 : decode cX5_rankFor 26 = .ok (.aload_n 0, 1) := by decide +kernel
theorem dX5_rankFor_27 : decode cX5_rankFor 27 = .ok (.getfield 39, 3) := by decide +kernel
theorem dX5_rankFor_30 : decode cX5_rankFor 30 = .ok (.iload_n 1, 1) := by decide +kernel
theorem dX5_rankFor_31 : decode cX5_rankFor 31 = .ok (.iload_n 3, 1) := by decide +kernel
theorem dX5_rankFor_32 : decode cX5_rankFor 32 = .ok (.invokevirtual 135, 3) := by decide +kernel
theorem dX5_rankFor_35 : decode cX5_rankFor 35 = .ok (.ifCond .ne 27, 3) := by decide +kernel
theorem dX5_rankFor_38 : decode cX5_rankFor 38 = .ok (.aload_n 0, 1) := by decide +kernel
theorem dX5_rankFor_39 : decode cX5_rankFor 39 = .ok (.getfield 39, 3) := by decide +kernel
theorem dX5_rankFor_42 : decode cX5_rankFor 42 = .ok (.iload_n 1, 1) := by decide +kernel
theorem dX5_rankFor_43 : decode cX5_rankFor 43 = .ok (.iload_n 3, 1) := by decide +kernel
theorem dX5_rankFor_44 : decode cX5_rankFor 44 = .ok (.invokevirtual 132, 3) := by decide +kernel
theorem dX5_rankFor_47 : decode cX5_rankFor 47 = .ok (.ifCond .ne 15, 3) := by decide +kernel
theorem dX5_rankFor_50 : decode cX5_rankFor 50 = .ok (.aload_n 0, 1) := by decide +kernel
theorem dX5_rankFor_51 : decode cX5_rankFor 51 = .ok (.getfield 39, 3) := by decide +kernel
theorem dX5_rankFor_54 : decode cX5_rankFor 54 = .ok (.iload_n 1, 1) := by decide +kernel
theorem dX5_rankFor_55 : decode cX5_rankFor 55 = .ok (.iload_n 2, 1) := by decide +kernel
theorem dX5_rankFor_56 : decode cX5_rankFor 56 = .ok (.invokevirtual 132, 3) := by decide +kernel
theorem dX5_rankFor_59 : decode cX5_rankFor 59 = .ok (.ifCond .eq 6, 3) := by decide +kernel
theorem dX5_rankFor_62 : decode cX5_rankFor 62 = .ok (.bipush (-2), 2) := by decide +kernel
theorem dX5_rankFor_64 : decode cX5_rankFor 64 = .ok (.ireturn, 1) := by decide +kernel
theorem dX5_rankFor_65 : decode cX5_rankFor 65 = .ok (.iconst 0, 1) := by decide +kernel
theorem dX5_rankFor_66 : decode cX5_rankFor 66 = .ok (.istore 4, 2) := by decide +kernel
theorem dX5_rankFor_68 : decode cX5_rankFor 68 = .ok (.iload 4, 2) := by decide +kernel
theorem dX5_rankFor_70 : decode cX5_rankFor 70 = .ok (.bipush 20, 2) := by decide +kernel
theorem dX5_rankFor_72 : decode cX5_rankFor 72 = .ok (.if_icmp .gt 28, 3) := by decide +kernel
theorem dX5_rankFor_75 : decode cX5_rankFor 75 = .ok (.iload_n 3, 1) := by decide +kernel
theorem dX5_rankFor_76 : decode cX5_rankFor 76 = .ok (.aload_n 0, 1) := by decide +kernel
theorem dX5_rankFor_77 : decode cX5_rankFor 77 = .ok (.getfield 39, 3) := by decide +kernel
theorem dX5_rankFor_80 : decode cX5_rankFor 80 = .ok (.iload_n 1, 1) := by decide +kernel
theorem dX5_rankFor_81 : decode cX5_rankFor 81 = .ok (.iload 4, 2) := by decide +kernel
theorem dX5_rankFor_83 : decode cX5_rankFor 83 = .ok (.invokevirtual 243, 3) := by decide +kernel
theorem dX5_rankFor_86 : decode cX5_rankFor 86 = .ok (.isub, 1) := by decide +kernel
theorem dX5_rankFor_87 : decode cX5_rankFor 87 = .ok (.iload_n 2, 1) := by decide +kernel
theorem dX5_rankFor_88 : decode cX5_rankFor 88 = .ok (.if_icmp .ne 6, 3) := by decide +kernel
theorem dX5_rankFor_91 : decode cX5_rankFor 91 = .ok (.iload 4, 2) := by decide +kernel
theorem dX5_rankFor_93 : decode cX5_rankFor 93 = .ok (.ireturn, 1) := by decide +kernel
theorem dX5_rankFor_94 : decode cX5_rankFor 94 = .ok (.iinc 4 1, 3) := by decide +kernel
theorem dX5_rankFor_97 : decode cX5_rankFor 97 = .ok (.goto (-29), 3) := by decide +kernel
theorem dX5_rankFor_100 : decode cX5_rankFor 100 = .ok (.bipush (-2), 2) := by decide +kernel
theorem dX5_rankFor_102 : decode cX5_rankFor 102 = .ok (.ireturn, 1) := by decide +kernel
abbrev rm_X5_rankFor : Room := { frames := 3, cells := 0, slots := 0, locals := 82 }
def f_X5_rankFor_L68 (x1 : Int32) (x2 : Int32) (x3 : Int32) (z68 : Int32 × St) : Option ((Int32 × St) ⊕ (Int32 × St)) :=
  if (20 : Int32) < z68.1 then (some (.inr ((-2 : Int32), z68.2))) else ((f_X0_lateWith 10 z68.2 x1 z68.1).bind (fun (q12 : Int32 × St) => if (x3 - q12.1) = x2 then (some (.inr (z68.1, q12.2))) else (some (.inl ((z68.1 + 1), q12.2)))))
def f_X5_rankFor (S : St) (x1 : Int32) (x2 : Int32) : Option (Int32 × St) :=
  (f_X5_isMirror  S x1).bind (fun (q1 : Int32) => if q1 = 0 then (some ((-1 : Int32), S)) else ((f_X5_isPast  S x2).bind (fun (q3 : Int32) => if q3 = 0 then (some ((-1 : Int32), S)) else ((f_X0_isBroken 10 S x1 (st_I S (ky 10 1))).bind (fun (q5 : Int32) => if q5 = 0 then ((f_X0_isTurned 10 S x1 (st_I S (ky 10 1))).bind (fun (q7 : Int32) => if q7 = 0 then ((f_X0_isTurned 10 S x1 x2).bind (fun (q9 : Int32) => if q9 = 0 then (iter (f_X5_rankFor_L68   x1 x2 (st_I S (ky 10 1))) FU ((0 : Int32), S)) else (some ((-2 : Int32), S)))) else (some ((-2 : Int32), S)))) else (some ((-2 : Int32), S)))))))
set_option maxRecDepth 100000 in
set_option maxHeartbeats 4000000 in
theorem k_X5_rankFor (l : Launch) (g : GG) (hg : gd wd_C g)  (hL : hAll g) (S : St) (x1 : Int32) (x2 : Int32) (q : Int32 × St) (hf : f_X5_rankFor  S x1 x2 = some q) : Met l yX5_rankFor (Cond.code yX5_rankFor cX5_rankFor 5 (some .int) :: gw_tbl) rm_X5_rankFor (va_Pc [.ref (gg_o g 0), .int x1, .int x2] (wI wd_C g S)) (qc_w wd_C g q) 0 0 (aw g) := by
  refine mt_start (own := RX5) hg (by decide) rfl (Nat.le_of_ble_eq_true rfl) (fun p e s m args below meth c ls H locs cx hw hr hlk hl => ?_)
  have hx := cx.1
  have hb := cx.2.1
  have hown := cx.2.2.2.1
  have hts := cx.2.2.2.2.1
  have hl : lv_has ls 5 [(0, .ref (gg_o g 0)), (1, .int x1), (2, .int x2)] := hl
  replace hf := h_top hf
  unfold f_X5_rankFor at hf
  refine lv_aload_n hx hb dX5_rankFor_0 rfl (lv_at hl 0 rfl) ?_
  refine lv_iload_n hx hb dX5_rankFor_1 rfl (lv_at hl 1 rfl) ?_
  refine r_V_i (As := [.int x1]) (rest := []) cx hw hf hL.1.2.1 (by rw [hL.1.1]; rfl) lk_X5_123 (fun q1 hq => k_X5_isMirror l g hg  hL S x1 q1 hq) ⟨⟨rfl, rfl⟩, Nat.le_of_ble_eq_true rfl, Nat.le_of_ble_eq_true rfl⟩ rfl hl.1 rfl (Nat.le_of_ble_eq_true rfl) dX5_rankFor_2 ⟨Nat.zero_le _, Nat.zero_le _⟩ (fun q1 H locs hw hf => ?_)
  refine lv_if_eq hx hb dX5_rankFor_5 (tgt := 16) rfl (fun hc2 => ?_) (fun hc2 => ?_)
  · replace hf := h_pos hc2 hf
    refine lv_iconst (v := -1) hx hb dX5_rankFor_16 (by decide) ?_
    exact r_iretw cx hw hr hlk hf dX5_rankFor_17
  replace hf := h_neg hc2 hf
  refine lv_aload_n hx hb dX5_rankFor_8 rfl (lv_at hl 0 rfl) ?_
  refine lv_iload_n hx hb dX5_rankFor_9 rfl (lv_at hl 2 rfl) ?_
  refine r_V_i (As := [.int x2]) (rest := []) cx hw hf hL.1.2.1 (by rw [hL.1.1]; rfl) lk_X5_109 (fun q3 hq => k_X5_isPast l g hg  hL S x2 q3 hq) ⟨⟨rfl, rfl⟩, Nat.le_of_ble_eq_true rfl, Nat.le_of_ble_eq_true rfl⟩ rfl hl.1 rfl (Nat.le_of_ble_eq_true rfl) dX5_rankFor_10 ⟨Nat.zero_le _, Nat.zero_le _⟩ (fun q3 H locs hw hf => ?_)
  refine lv_if_ne hx hb dX5_rankFor_13 (tgt := 18) rfl (fun hc4 => ?_) (fun hc4 => ?_)
  · replace hf := h_neg hc4 hf
    refine lv_aload_n hx hb dX5_rankFor_18 rfl (lv_at hl 0 rfl) ?_
    refine gf_X5_39 cx hw hL.1 dX5_rankFor_19 ?_
    refine gf_X5_147 cx hw (hL.2.2.2.1 0 (by decide)) dX5_rankFor_22 ?_
    refine lv_istore_n hx hb dX5_rankFor_25 rfl hl (by decide) (lv' := [(3, .int (st_I S (ky 10 1))), (0, .ref (gg_o g 0)), (1, .int x1), (2, .int x2)]) rfl (fun ls hl => ?_)
    refine lv_aload_n hx hb dX5_rankFor_26 rfl (lv_at hl 1 rfl) ?_
    refine gf_X5_39 cx hw hL.1 dX5_rankFor_27 ?_
    refine lv_iload_n hx hb dX5_rankFor_30 rfl (lv_at hl 2 rfl) ?_
    refine lv_iload_n hx hb dX5_rankFor_31 rfl (lv_at hl 0 rfl) ?_
    refine r_VN_i (As := [.int x1, .int (st_I S (ky 10 1))]) (rest := []) cx hw hf (nw_at cx) (hL.2.2.2.1 0 (by decide)).2.1 (by rw [(hL.2.2.2.1 0 (by decide)).1]; rfl) lk_X5_135 (fun q5 hq => k_X0_isBroken l g hg 10 (hL.2.2.2.1 0 (by decide)) hL.2.2.2.2 S x1 (st_I S (ky 10 1)) q5 hq) ⟨⟨rfl, rfl⟩, Nat.le_of_ble_eq_true rfl, Nat.le_of_ble_eq_true rfl⟩ rfl hl.1 rfl (Nat.le_of_ble_eq_true rfl) dX5_rankFor_32 ⟨Nat.zero_le _, Nat.zero_le _⟩ (fun q5 H locs hw hf => ?_)
    refine lv_if_ne hx hb dX5_rankFor_35 (tgt := 62) rfl (fun hc6 => ?_) (fun hc6 => ?_)
    · replace hf := h_neg hc6 hf
      refine lv_bipush (v := -2) hx hb dX5_rankFor_62 (by decide) ?_
      exact r_iretw cx hw hr hlk hf dX5_rankFor_64
    replace hf := h_pos hc6 hf
    refine lv_aload_n hx hb dX5_rankFor_38 rfl (lv_at hl 1 rfl) ?_
    refine gf_X5_39 cx hw hL.1 dX5_rankFor_39 ?_
    refine lv_iload_n hx hb dX5_rankFor_42 rfl (lv_at hl 2 rfl) ?_
    refine lv_iload_n hx hb dX5_rankFor_43 rfl (lv_at hl 0 rfl) ?_
    refine r_VN_i (As := [.int x1, .int (st_I S (ky 10 1))]) (rest := []) cx hw hf (nw_at cx) (hL.2.2.2.1 0 (by decide)).2.1 (by rw [(hL.2.2.2.1 0 (by decide)).1]; rfl) lk_X5_132 (fun q7 hq => k_X0_isTurned l g hg 10 (hL.2.2.2.1 0 (by decide)) hL.2.2.2.2 S x1 (st_I S (ky 10 1)) q7 hq) ⟨⟨rfl, rfl⟩, Nat.le_of_ble_eq_true rfl, Nat.le_of_ble_eq_true rfl⟩ rfl hl.1 rfl (Nat.le_of_ble_eq_true rfl) dX5_rankFor_44 ⟨Nat.zero_le _, Nat.zero_le _⟩ (fun q7 H locs hw hf => ?_)
    refine lv_if_ne hx hb dX5_rankFor_47 (tgt := 62) rfl (fun hc8 => ?_) (fun hc8 => ?_)
    · replace hf := h_neg hc8 hf
      refine lv_bipush (v := -2) hx hb dX5_rankFor_62 (by decide) ?_
      exact r_iretw cx hw hr hlk hf dX5_rankFor_64
    replace hf := h_pos hc8 hf
    refine lv_aload_n hx hb dX5_rankFor_50 rfl (lv_at hl 1 rfl) ?_
    refine gf_X5_39 cx hw hL.1 dX5_rankFor_51 ?_
    refine lv_iload_n hx hb dX5_rankFor_54 rfl (lv_at hl 2 rfl) ?_
    refine lv_iload_n hx hb dX5_rankFor_55 rfl (lv_at hl 3 rfl) ?_
    refine r_VN_i (As := [.int x1, .int x2]) (rest := []) cx hw hf (nw_at cx) (hL.2.2.2.1 0 (by decide)).2.1 (by rw [(hL.2.2.2.1 0 (by decide)).1]; rfl) lk_X5_132 (fun q9 hq => k_X0_isTurned l g hg 10 (hL.2.2.2.1 0 (by decide)) hL.2.2.2.2 S x1 x2 q9 hq) ⟨⟨rfl, rfl⟩, Nat.le_of_ble_eq_true rfl, Nat.le_of_ble_eq_true rfl⟩ rfl hl.1 rfl (Nat.le_of_ble_eq_true rfl) dX5_rankFor_56 ⟨Nat.zero_le _, Nat.zero_le _⟩ (fun q9 H locs hw hf => ?_)
    refine lv_if_eq hx hb dX5_rankFor_59 (tgt := 65) rfl (fun hc10 => ?_) (fun hc10 => ?_)
    · replace hf := h_pos hc10 hf
      refine lv_iconst (v := 0) hx hb dX5_rankFor_65 (by decide) ?_
      refine lv_istore hx hb dX5_rankFor_66 hl (by decide) (lv' := [(4, .int (0 : Int32)), (3, .int (st_I S (ky 10 1))), (0, .ref (gg_o g 0)), (1, .int x1), (2, .int x2)]) rfl (fun ls hl => ?_)
      have L68 : ∀ (x1 : Int32) (x2 : Int32) (x3 : Int32) (aft68 : (Int32 × St) → Option (Int32 × St)), (∀ v : Int32 × St, aft68 v = some q → (some v : Option (Int32 × St)).bind some = some q) → ∀ (n68 : Nat) (ls : Array Slot) (H : Heap) (locs : List Loc) (z68 : Int32 × St), lv_has ls 5 [(0, .ref (gg_o g 0)), (1, .int x1), (2, .int x2), (3, .int x3), (4, .int z68.1)] → HH wd_C g s z68.2 H locs → (iter (f_X5_rankFor_L68   x1 x2 x3) n68 z68).bind aft68 = some q → W p l e rm_X5_rankFor s m args below meth c H locs 0 0 (MQ below (qc_w wd_C g q) args s 0 0 (aw g)) (F0 m 68 ls []) := by
        intro x1 x2 x3 aft68 hR68 n68
        induction n68 with
        | zero => intro ls H locs z68 hl hw hf; exact h_iter0 hf
        | succ n68 ih68 =>
          intro ls H locs z68 hl hw hf
          replace hf := h_iter hf
          unfold f_X5_rankFor_L68 at hf
          refine lv_iload hx hb dX5_rankFor_68 (lv_at hl 4 rfl) ?_
          refine lv_bipush (v := 20) hx hb dX5_rankFor_70 (by decide) ?_
          refine lv_icmp_gt hx hb dX5_rankFor_72 (tgt := 100) rfl (fun hc11 => ?_) (fun hc11 => ?_)
          · replace hf := h_pos hc11 hf
            refine lv_bipush (v := -2) hx hb dX5_rankFor_100 (by decide) ?_
            replace hf := hR68 ((-2 : Int32), z68.2) hf
            exact r_iretw cx hw hr hlk hf dX5_rankFor_102
          replace hf := h_neg hc11 hf
          refine lv_iload_n hx hb dX5_rankFor_75 rfl (lv_at hl 3 rfl) ?_
          refine lv_aload_n hx hb dX5_rankFor_76 rfl (lv_at hl 0 rfl) ?_
          refine gf_X5_39 cx hw hL.1 dX5_rankFor_77 ?_
          refine lv_iload_n hx hb dX5_rankFor_80 rfl (lv_at hl 1 rfl) ?_
          refine lv_iload hx hb dX5_rankFor_81 (lv_at hl 4 rfl) ?_
          refine r_VN_w (As := [.int x1, .int z68.1]) (rest := [.int x3]) cx hw hf (nw_at cx) (hL.2.2.2.1 0 (by decide)).2.1 (by rw [(hL.2.2.2.1 0 (by decide)).1]; rfl) lk_X5_243 (fun q12 hq => k_X0_lateWith l g hg 10 (hL.2.2.2.1 0 (by decide)) hL.2.2.2.2 z68.2 x1 z68.1 q12 hq) ⟨⟨rfl, rfl⟩, Nat.le_of_ble_eq_true rfl, Nat.le_of_ble_eq_true rfl⟩ rfl hl.1 rfl (Nat.le_of_ble_eq_true rfl) dX5_rankFor_83 ⟨Nat.zero_le _, Nat.zero_le _⟩ (fun q12 H locs hw hf => ?_)
          refine lv_isub hx hb dX5_rankFor_86 ?_
          refine lv_iload_n hx hb dX5_rankFor_87 rfl (lv_at hl 2 rfl) ?_
          refine lv_icmp_ne hx hb dX5_rankFor_88 (tgt := 94) rfl (fun hc13 => ?_) (fun hc13 => ?_)
          · replace hf := h_neg hc13 hf
            refine lv_iinc hx hb dX5_rankFor_94 hl (k := 4) rfl (congrArg (HAdd.hAdd _) (show Int32.ofInt (1) = 1 by decide)) (by decide) (lv' := [(4, .int (z68.1 + 1)), (0, .ref (gg_o g 0)), (1, .int x1), (2, .int x2), (3, .int x3)]) rfl (fun ls hl => ?_)
            refine lv_goto hx hb dX5_rankFor_97 (tgt := 68) rfl ?_
            exact ih68 _ _ _ ((z68.1 + 1), q12.2) (lv_sub hl [1, 2, 3, 4, 0] rfl) hw hf
          replace hf := h_pos hc13 hf
          refine lv_iload hx hb dX5_rankFor_91 (lv_at hl 4 rfl) ?_
          replace hf := hR68 (z68.1, q12.2) hf
          exact r_iretw cx hw hr hlk hf dX5_rankFor_93
      exact L68 x1 x2 (st_I S (ky 10 1)) some (fun v h => h) FU _ _ _ ((0 : Int32), S) (lv_sub hl [2, 3, 4, 1, 0] rfl) hw hf
    replace hf := h_neg hc10 hf
    refine lv_bipush (v := -2) hx hb dX5_rankFor_62 (by decide) ?_
    exact r_iretw cx hw hr hlk hf dX5_rankFor_64
  replace hf := h_pos hc4 hf
  refine lv_iconst (v := -1) hx hb dX5_rankFor_16 (by decide) ?_
  exact r_iretw cx hw hr hlk hf dX5_rankFor_17
theorem dX5_jolt_0 : decode cX5_jolt 0 = .ok (.aload_n 0, 1) := by decide +kernel
theorem dX5_jolt_1 : decode cX5_jolt 1 = .ok (.iload_n 1, 1) := by decide +kernel
theorem dX5_jolt_2 : decode cX5_jolt 2 = .ok (.invokevirtual 105, 3) := by decide +kernel
theorem dX5_jolt_5 : decode cX5_jolt 5 = .ok (.ifCond .eq 18, 3) := by decide +kernel
theorem dX5_jolt_8 : decode cX5_jolt 8 = .ok (.iload_n 2, 1) := by decide +kernel
theorem dX5_jolt_9 : decode cX5_jolt 9 = .ok (.invokestatic 164, 3) := by decide +kernel
theorem dX5_jolt_12 : decode cX5_jolt 12 = .ok (.ifCond .eq 11, 3) := by decide +kernel
theorem dX5_jolt_15 : decode cX5_jolt 15 = .ok (.iload_n 3, 1) := by decide +kernel
theorem dX5_jolt_16 : decode cX5_jolt 16 = .ok (.iconst 3, 1) := by decide +kernel
theorem dX5_jolt_17 : decode cX5_jolt 17 = .ok (.invokestatic 112, 3) := by decide +kernel
theorem dX5_jolt_20 : decode cX5_jolt 20 = .ok (.ifCond .ne 7, 3) := by decide +kernel
theorem dX5_jolt_23 : decode cX5_jolt 23 = .ok (.sipush (-1000), 3) := by decide +kernel
theorem dX5_jolt_26 : decode cX5_jolt 26 = .ok (.ireturn, 1) := by decide +kernel
theorem dX5_jolt_27 : decode cX5_jolt 27 = .ok (.aload_n 0, 1) := by decide +kernel
theorem dX5_jolt_28 : decode cX5_jolt 28 = .ok (.getfield 39, 3) := by decide +kernel
theorem dX5_jolt_31 : decode cX5_jolt 31 = .ok (.getfield 147, 3) := by decide +kernel
theorem dX5_jolt_34 : decode cX5_jolt 34 = .ok (.istore 4, 2) := by decide +kernel
theorem dX5_jolt_36 : decode cX5_jolt 36 = .ok (.sipush (-1000), 3) := by decide +kernel
theorem dX5_jolt_39 : decode cX5_jolt 39 = .ok (.istore 5, 2) := by decide +kernel
theorem dX5_jolt_41 : decode cX5_jolt 41 = .ok (.iconst 0, 1) := by decide +kernel
theorem dX5_jolt_42 : decode cX5_jolt 42 = .ok (.istore 6, 2) := by decide +kernel
theorem dX5_jolt_44 : decode cX5_jolt 44 = .ok (.iconst 0, 1) := by decide +kernel
theorem dX5_jolt_45 : decode cX5_jolt 45 = .ok (.istore 7, 2) := by decide +kernel
theorem dX5_jolt_47 : decode cX5_jolt 47 = .ok (.iconst 0, 1) := by decide +kernel
theorem dX5_jolt_48 : decode cX5_jolt 48 = .ok (.istore 8, 2) := by decide +kernel
theorem dX5_jolt_50 : decode cX5_jolt 50 = .ok (.iload 8, 2) := by decide +kernel
theorem dX5_jolt_52 : decode cX5_jolt 52 = .ok (.aload_n 0, 1) := by decide +kernel
theorem dX5_jolt_53 : decode cX5_jolt 53 = .ok (.getfield 27, 3) := by decide +kernel
theorem dX5_jolt_56 : decode cX5_jolt 56 = .ok (.getfield 206, 3) := by decide +kernel
theorem dX5_jolt_59 : decode cX5_jolt 59 = .ok (.if_icmp .ge 92, 3) := by decide +kernel
theorem dX5_jolt_62 : decode cX5_jolt 62 = .ok (.aload_n 0, 1) := by decide +kernel
theorem dX5_jolt_63 : decode cX5_jolt 63 = .ok (.getfield 27, 3) := by decide +kernel
theorem dX5_jolt_66 : decode cX5_jolt 66 = .ok (.iload 8, 2) := by decide +kernel
theorem dX5_jolt_68 : decode cX5_jolt 68 = .ok (.invokevirtual 246, 3) := by decide +kernel
theorem dX5_jolt_71 : decode cX5_jolt 71 = .ok (.iload_n 1, 1) := by decide +kernel
theorem dX5_jolt_72 : decode cX5_jolt 72 = .ok (.if_icmp .ne 73, 3) := by decide +kernel
theorem dX5_jolt_75 : decode cX5_jolt 75 = .ok (.aload_n 0, 1) := by decide +kernel
theorem dX5_jolt_76 : decode cX5_jolt 76 = .ok (.getfield 39, 3) := by decide +kernel
theorem dX5_jolt_79 : decode cX5_jolt 79 = .ok (.iload 8, 2) := by decide +kernel
theorem dX5_jolt_81 : decode cX5_jolt 81 = .ok (.iload 4, 2) := by decide +kernel
theorem dX5_jolt_83 : decode cX5_jolt 83 = .ok (.invokevirtual 135, 3) := by decide +kernel
theorem dX5_jolt_86 : decode cX5_jolt 86 = .ok (.ifCond .ne 59, 3) := by decide +kernel
theorem dX5_jolt_89 : decode cX5_jolt 89 = .ok (.aload_n 0, 1) := by decide +kernel
theorem dX5_jolt_90 : decode cX5_jolt 90 = .ok (.getfield 39, 3) := by decide +kernel
theorem dX5_jolt_93 : decode cX5_jolt 93 = .ok (.iload 8, 2) := by decide +kernel
theorem dX5_jolt_95 : decode cX5_jolt 95 = .ok (.iload_n 2, 1) := by decide +kernel
theorem dX5_jolt_96 : decode cX5_jolt 96 = .ok (.invokevirtual 243, 3) := by decide +kernel
theorem dX5_jolt_99 : decode cX5_jolt 99 = .ok (.aload_n 0, 1) := by decide +kernel
theorem dX5_jolt_100 : decode cX5_jolt 100 = .ok (.getfield 39, 3) := by decide +kernel
theorem dX5_jolt_103 : decode cX5_jolt 103 = .ok (.iload 8, 2) := by decide +kernel
theorem dX5_jolt_105 : decode cX5_jolt 105 = .ok (.iload 4, 2) := by decide +kernel
theorem dX5_jolt_107 : decode cX5_jolt 107 = .ok (.invokevirtual 129, 3) := by decide +kernel
theorem dX5_jolt_110 : decode cX5_jolt 110 = .ok (.isub, 1) := by decide +kernel
theorem dX5_jolt_111 : decode cX5_jolt 111 = .ok (.istore 9, 2) := by decide +kernel
theorem dX5_jolt_113 : decode cX5_jolt 113 = .ok (.iload 5, 2) := by decide +kernel
theorem dX5_jolt_115 : decode cX5_jolt 115 = .ok (.iload 9, 2) := by decide +kernel
theorem dX5_jolt_117 : decode cX5_jolt 117 = .ok (.invokestatic 228, 3) := by decide +kernel
theorem dX5_jolt_120 : decode cX5_jolt 120 = .ok (.istore 5, 2) := by decide +kernel
theorem dX5_jolt_122 : decode cX5_jolt 122 = .ok (.iload 6, 2) := by decide +kernel
theorem dX5_jolt_124 : decode cX5_jolt 124 = .ok (.iload 9, 2) := by decide +kernel
theorem dX5_jolt_126 : decode cX5_jolt 126 = .ok (.iconst 0, 1) := by decide +kernel
theorem dX5_jolt_127 : decode cX5_jolt 127 = .ok (.invokestatic 228, 3) := by decide +kernel
theorem dX5_jolt_130 : decode cX5_jolt 130 = .ok (.iadd, 1) := by decide +kernel
theorem dX5_jolt_131 : decode cX5_jolt 131 = .ok (.istore 6, 2) := by decide +kernel
theorem dX5_jolt_133 : decode cX5_jolt 133 = .ok (.iload 7, 2) := by decide +kernel
theorem dX5_jolt_135 : decode cX5_jolt 135 = .ok (.iload 9, 2) := by decide +kernel
theorem dX5_jolt_137 : decode cX5_jolt 137 = .ok (.ineg, 1) := by decide +kernel
theorem dX5_jolt_138 : decode cX5_jolt 138 = .ok (.iconst 0, 1) := by decide +kernel
theorem dX5_jolt_139 : decode cX5_jolt 139 = .ok (.invokestatic 228, 3) := by decide +kernel
theorem dX5_jolt_142 : decode cX5_jolt 142 = .ok (.iadd, 1) := by decide +kernel
theorem dX5_jolt_143 : decode cX5_jolt 143 = .ok (.istore 7, 2) := by decide +kernel
theorem dX5_jolt_145 : decode cX5_jolt 145 = .ok (.iinc 8 1, 3) := by decide +kernel
theorem dX5_jolt_148 : decode cX5_jolt 148 = .ok (.goto (-98), 3) := by decide +kernel
theorem dX5_jolt_151 : decode cX5_jolt 151 = .ok (.iload 5, 2) := by decide +kernel
theorem dX5_jolt_153 : decode cX5_jolt 153 = .ok (.sipush (-1000), 3) := by decide +kernel
theorem dX5_jolt_156 : decode cX5_jolt 156 = .ok (.if_icmp .ne 7, 3) := by decide +kernel
theorem dX5_jolt_159 : decode cX5_jolt 159 = .ok (.iconst 0, 1) := by decide +kernel
theorem dX5_jolt_160 : decode cX5_jolt 160 = .ok (.goto 5, 3) := by decide +kernel
theorem dX5_jolt_163 : decode cX5_jolt 163 = .ok (.iload 5, 2) := by decide +kernel
theorem dX5_jolt_165 : decode cX5_jolt 165 = .ok (.istore 5, 2) := by decide +kernel
theorem dX5_jolt_167 : decode cX5_jolt 167 = .ok (.iload_n 3, 1) := by decide +kernel
theorem dX5_jolt_168 : decode cX5_jolt 168 = .ok (.ifCond .ne 8, 3) := by decide +kernel
theorem dX5_jolt_171 : decode cX5_jolt 171 = .ok (.iload 5, 2) := by decide +kernel
theorem dX5_jolt_173 : decode cX5_jolt 173 = .ok (.goto 15, 3) := by decide +kernel
theorem dX5_jolt_176 : decode cX5_jolt 176 = .ok (.iload_n 3, 1) := by decide +kernel
theorem dX5_jolt_177 : decode cX5_jolt 177 = .ok (.iconst 1, 1) := by decide +kernel
theorem dX5_jolt_178 : decode cX5_jolt 178 = .ok (.if_icmp .ne 8, 3) := by decide +kernel
theorem dX5_jolt_181 : decode cX5_jolt 181 = .ok (.iload 6, 2) := by decide +kernel
theorem dX5_jolt_183 : decode cX5_jolt 183 = .ok (.goto 5, 3) := by decide +kernel
theorem dX5_jolt_186 : decode cX5_jolt 186 = .ok (.iload 7, 2) := by decide +kernel
theorem dX5_jolt_188 : decode cX5_jolt 188 = .ok (.ireturn, 1) := by decide +kernel
abbrev rm_X5_jolt : Room := { frames := 3, cells := 0, slots := 0, locals := 82 }
def f_X5_jolt_L50 (x1 : Int32) (x2 : Int32) (x3 : Int32) (x4 : Int32) (z50 : Int32 × Int32 × Int32 × Int32 × St) : Option ((Int32 × Int32 × Int32 × Int32 × St) ⊕ (Int32 × Int32 × Int32 × St)) :=
  chk (isT (st_P z50.2.2.2.2 (ky 0 4))) (if (st_I z50.2.2.2.2 (ky (st_P z50.2.2.2.2 (ky 0 4)) 3)) ≤ z50.2.2.2.1 then (some (.inr (z50.1, z50.2.1, z50.2.2.1, z50.2.2.2.2))) else (chk (isT (st_P z50.2.2.2.2 (ky 0 4))) ((f_X4_ownerOf (st_P z50.2.2.2.2 (ky 0 4)) z50.2.2.2.2 z50.2.2.2.1).bind (fun (q10 : Int32) => if q10 = x1 then ((f_X0_isBroken 10 z50.2.2.2.2 z50.2.2.2.1 x4).bind (fun (q12 : Int32) => if q12 = 0 then ((f_X0_lateWith 10 z50.2.2.2.2 z50.2.2.2.1 x2).bind (fun (q14 : Int32 × St) => (f_X0_lateOf 10 q14.2 z50.2.2.2.1 x4).bind (fun (q15 : Int32) => lt_v (z50.2.1 + (i_max (q14.1 - q15) (0 : Int32))) (fun (u16 : Int32) => lt_v (z50.2.2.1 + (i_max (-(q14.1 - q15)) (0 : Int32))) (fun (u17 : Int32) => some (.inl ((i_max z50.1 (q14.1 - q15)), u16, u17, (z50.2.2.2.1 + 1), q14.2))))))) else (some (.inl (z50.1, z50.2.1, z50.2.2.1, (z50.2.2.2.1 + 1), z50.2.2.2.2))))) else (some (.inl (z50.1, z50.2.1, z50.2.2.1, (z50.2.2.2.1 + 1), z50.2.2.2.2)))))))
def f_X5_jolt_J165 (S : St) (x3 : Int32) (x6 : Int32) (x7 : Int32) (y0 : Int32) : Option (Int32 × St) :=
  if x3 = 0 then (some (y0, S)) else (if x3 = (1 : Int32) then (some (x6, S)) else (some (x7, S)))
def f_X5_jolt (S : St) (x1 : Int32) (x2 : Int32) (x3 : Int32) : Option (Int32 × St) :=
  (f_X5_isMan  S x1).bind (fun (q1 : Int32) => if q1 = 0 then (some ((-1000 : Int32), S)) else ((f_X5_isRank   x2).bind (fun (q3 : Int32) => if q3 = 0 then (some ((-1000 : Int32), S)) else ((f_X5_within   x3 (3 : Int32)).bind (fun (q5 : Int32) => if q5 = 0 then (some ((-1000 : Int32), S)) else ((iter (f_X5_jolt_L50   x1 x2 x3 (st_I S (ky 10 1))) FU ((-1000 : Int32), (0 : Int32), (0 : Int32), (0 : Int32), S)).bind (fun (u25 : Int32 × Int32 × Int32 × St) => (fun (e18 : Int32) (e19 : Int32) (e20 : Int32) (S21 : St) => if e18 = (-1000 : Int32) then (f_X5_jolt_J165  S21 x3 e19 e20 (0 : Int32)) else (f_X5_jolt_J165  S21 x3 e19 e20 e18)) u25.1 u25.2.1 u25.2.2.1 u25.2.2.2)))))))
set_option maxRecDepth 100000 in
set_option maxHeartbeats 4000000 in
theorem k_X5_jolt (l : Launch) (g : GG) (hg : gd wd_C g)  (hL : hAll g) (S : St) (x1 : Int32) (x2 : Int32) (x3 : Int32) (q : Int32 × St) (hf : f_X5_jolt  S x1 x2 x3 = some q) : Met l yX5_jolt (Cond.code yX5_jolt cX5_jolt 10 (some .int) :: gw_tbl) rm_X5_jolt (va_Pc [.ref (gg_o g 0), .int x1, .int x2, .int x3] (wI wd_C g S)) (qc_w wd_C g q) 0 0 (aw g) := by
  refine mt_start (own := RX5) hg (by decide) rfl (Nat.le_of_ble_eq_true rfl) (fun p e s m args below meth c ls H locs cx hw hr hlk hl => ?_)
  have hx := cx.1
  have hb := cx.2.1
  have hown := cx.2.2.2.1
  have hts := cx.2.2.2.2.1
  have hl : lv_has ls 10 [(0, .ref (gg_o g 0)), (1, .int x1), (2, .int x2), (3, .int x3)] := hl
  replace hf := h_top hf
  unfold f_X5_jolt at hf
  have J165 : ∀ (ls : Array Slot) (H : Heap) (locs : List Loc) (S : St) (x3 : Int32) (x6 : Int32) (x7 : Int32) (y0 : Int32), lv_has ls 10 [(3, .int x3), (6, .int x6), (7, .int x7)] → HH wd_C g s S H locs → (f_X5_jolt_J165  S x3 x6 x7 y0).bind some = some q → W p l e rm_X5_jolt s m args below meth c H locs 0 0 (MQ below (qc_w wd_C g q) args s 0 0 (aw g)) (F0 m 165 ls [.int y0]) := by
    intro ls H locs S x3 x6 x7 y0 hl hw hf
    unfold f_X5_jolt_J165 at hf
    refine lv_istore hx hb dX5_jolt_165 hl (by decide) (lv' := [(5, .int y0), (3, .int x3), (6, .int x6), (7, .int x7)]) rfl (fun ls hl => ?_)
    refine lv_iload_n hx hb dX5_jolt_167 rfl (lv_at hl 1 rfl) ?_
    refine lv_if_ne hx hb dX5_jolt_168 (tgt := 176) rfl (fun hc23 => ?_) (fun hc23 => ?_)
    · replace hf := h_neg hc23 hf
      refine lv_iload_n hx hb dX5_jolt_176 rfl (lv_at hl 1 rfl) ?_
      refine lv_iconst (v := 1) hx hb dX5_jolt_177 (by decide) ?_
      refine lv_icmp_ne hx hb dX5_jolt_178 (tgt := 186) rfl (fun hc24 => ?_) (fun hc24 => ?_)
      · replace hf := h_neg hc24 hf
        refine lv_iload hx hb dX5_jolt_186 (lv_at hl 3 rfl) ?_
        exact r_iretw cx hw hr hlk hf dX5_jolt_188
      replace hf := h_pos hc24 hf
      refine lv_iload hx hb dX5_jolt_181 (lv_at hl 2 rfl) ?_
      refine lv_goto hx hb dX5_jolt_183 (tgt := 188) rfl ?_
      exact r_iretw cx hw hr hlk hf dX5_jolt_188
    replace hf := h_pos hc23 hf
    refine lv_iload hx hb dX5_jolt_171 (lv_at hl 0 rfl) ?_
    refine lv_goto hx hb dX5_jolt_173 (tgt := 188) rfl ?_
    exact r_iretw cx hw hr hlk hf dX5_jolt_188
  refine lv_aload_n hx hb dX5_jolt_0 rfl (lv_at hl 0 rfl) ?_
  refine lv_iload_n hx hb dX5_jolt_1 rfl (lv_at hl 1 rfl) ?_
  refine r_V_i (As := [.int x1]) (rest := []) cx hw hf hL.1.2.1 (by rw [hL.1.1]; rfl) lk_X5_105 (fun q1 hq => k_X5_isMan l g hg  hL S x1 q1 hq) ⟨⟨rfl, rfl⟩, Nat.le_of_ble_eq_true rfl, Nat.le_of_ble_eq_true rfl⟩ rfl hl.1 rfl (Nat.le_of_ble_eq_true rfl) dX5_jolt_2 ⟨Nat.zero_le _, Nat.zero_le _⟩ (fun q1 H locs hw hf => ?_)
  refine lv_if_eq hx hb dX5_jolt_5 (tgt := 23) rfl (fun hc2 => ?_) (fun hc2 => ?_)
  · replace hf := h_pos hc2 hf
    refine lv_sipush (v := -1000) hx hb dX5_jolt_23 (by decide) ?_
    exact r_iretw cx hw hr hlk hf dX5_jolt_26
  replace hf := h_neg hc2 hf
  refine lv_iload_n hx hb dX5_jolt_8 rfl (lv_at hl 2 rfl) ?_
  refine r_S_i (As := [.int x2]) (rest := []) cx hw hf lk_X5_164 (fun q3 hq => k_X5_isRank l g hg   S x2 q3 hq) ⟨⟨rfl, rfl⟩, Nat.le_of_ble_eq_true rfl, Nat.le_of_ble_eq_true rfl⟩ rfl hl.1 rfl (Nat.le_of_ble_eq_true rfl) dX5_jolt_9 ⟨Nat.zero_le _, Nat.zero_le _⟩ (fun q3 H locs hw hf => ?_)
  refine lv_if_eq hx hb dX5_jolt_12 (tgt := 23) rfl (fun hc4 => ?_) (fun hc4 => ?_)
  · replace hf := h_pos hc4 hf
    refine lv_sipush (v := -1000) hx hb dX5_jolt_23 (by decide) ?_
    exact r_iretw cx hw hr hlk hf dX5_jolt_26
  replace hf := h_neg hc4 hf
  refine lv_iload_n hx hb dX5_jolt_15 rfl (lv_at hl 3 rfl) ?_
  refine lv_iconst (v := 3) hx hb dX5_jolt_16 (by decide) ?_
  refine r_S_i (As := [.int x3, .int (3 : Int32)]) (rest := []) cx hw hf lk_X5_112 (fun q5 hq => k_X5_within l g hg   S x3 (3 : Int32) q5 hq) ⟨⟨rfl, rfl⟩, Nat.le_of_ble_eq_true rfl, Nat.le_of_ble_eq_true rfl⟩ rfl hl.1 rfl (Nat.le_of_ble_eq_true rfl) dX5_jolt_17 ⟨Nat.zero_le _, Nat.zero_le _⟩ (fun q5 H locs hw hf => ?_)
  refine lv_if_ne hx hb dX5_jolt_20 (tgt := 27) rfl (fun hc6 => ?_) (fun hc6 => ?_)
  · replace hf := h_neg hc6 hf
    refine lv_aload_n hx hb dX5_jolt_27 rfl (lv_at hl 0 rfl) ?_
    refine gf_X5_39 cx hw hL.1 dX5_jolt_28 ?_
    refine gf_X5_147 cx hw (hL.2.2.2.1 0 (by decide)) dX5_jolt_31 ?_
    refine lv_istore hx hb dX5_jolt_34 hl (by decide) (lv' := [(4, .int (st_I S (ky 10 1))), (0, .ref (gg_o g 0)), (1, .int x1), (2, .int x2), (3, .int x3)]) rfl (fun ls hl => ?_)
    refine lv_sipush (v := -1000) hx hb dX5_jolt_36 (by decide) ?_
    refine lv_istore hx hb dX5_jolt_39 hl (by decide) (lv' := [(5, .int (-1000 : Int32)), (4, .int (st_I S (ky 10 1))), (0, .ref (gg_o g 0)), (1, .int x1), (2, .int x2), (3, .int x3)]) rfl (fun ls hl => ?_)
    refine lv_iconst (v := 0) hx hb dX5_jolt_41 (by decide) ?_
    refine lv_istore hx hb dX5_jolt_42 hl (by decide) (lv' := [(6, .int (0 : Int32)), (5, .int (-1000 : Int32)), (4, .int (st_I S (ky 10 1))), (0, .ref (gg_o g 0)), (1, .int x1), (2, .int x2), (3, .int x3)]) rfl (fun ls hl => ?_)
    refine lv_iconst (v := 0) hx hb dX5_jolt_44 (by decide) ?_
    refine lv_istore hx hb dX5_jolt_45 hl (by decide) (lv' := [(7, .int (0 : Int32)), (6, .int (0 : Int32)), (5, .int (-1000 : Int32)), (4, .int (st_I S (ky 10 1))), (0, .ref (gg_o g 0)), (1, .int x1), (2, .int x2), (3, .int x3)]) rfl (fun ls hl => ?_)
    refine lv_iconst (v := 0) hx hb dX5_jolt_47 (by decide) ?_
    refine lv_istore hx hb dX5_jolt_48 hl (by decide) (lv' := [(8, .int (0 : Int32)), (7, .int (0 : Int32)), (6, .int (0 : Int32)), (5, .int (-1000 : Int32)), (4, .int (st_I S (ky 10 1))), (0, .ref (gg_o g 0)), (1, .int x1), (2, .int x2), (3, .int x3)]) rfl (fun ls hl => ?_)
    have L50 : ∀ (x1 : Int32) (x2 : Int32) (x3 : Int32) (x4 : Int32) (aft50 : (Int32 × Int32 × Int32 × St) → Option (Int32 × St)), (∀ (ls : Array Slot) (H : Heap) (locs : List Loc) (e5 : Int32) (e6 : Int32) (e7 : Int32) (S1 : St), lv_has ls 10 [(3, .int x3), (5, .int e5), (6, .int e6), (7, .int e7)] → HH wd_C g s S1 H locs → aft50 (e5, e6, e7, S1) = some q → W p l e rm_X5_jolt s m args below meth c H locs 0 0 (MQ below (qc_w wd_C g q) args s 0 0 (aw g)) (F0 m 151 ls [])) → ∀ (n50 : Nat) (ls : Array Slot) (H : Heap) (locs : List Loc) (z50 : Int32 × Int32 × Int32 × Int32 × St), lv_has ls 10 [(0, .ref (gg_o g 0)), (1, .int x1), (2, .int x2), (3, .int x3), (4, .int x4), (5, .int z50.1), (6, .int z50.2.1), (7, .int z50.2.2.1), (8, .int z50.2.2.2.1)] → HH wd_C g s z50.2.2.2.2 H locs → (iter (f_X5_jolt_L50   x1 x2 x3 x4) n50 z50).bind aft50 = some q → W p l e rm_X5_jolt s m args below meth c H locs 0 0 (MQ below (qc_w wd_C g q) args s 0 0 (aw g)) (F0 m 50 ls []) := by
      intro x1 x2 x3 x4 aft50 hX50 n50
      induction n50 with
      | zero => intro ls H locs z50 hl hw hf; exact h_iter0 hf
      | succ n50 ih50 =>
        intro ls H locs z50 hl hw hf
        replace hf := h_iter hf
        unfold f_X5_jolt_L50 at hf
        refine lv_iload hx hb dX5_jolt_50 (lv_at hl 8 rfl) ?_
        refine lv_aload_n hx hb dX5_jolt_52 rfl (lv_at hl 0 rfl) ?_
        obtain ⟨hc7, hf⟩ := h_chk hf
        refine gf_X5_27 cx hw hL.1 dX5_jolt_53 ?_
        refine gf_X5_206 cx hw ((allT_at hL.2.2.2.2 hc7).1) dX5_jolt_56 ?_
        refine lv_icmp_ge hx hb dX5_jolt_59 (tgt := 151) rfl (fun hc8 => ?_) (fun hc8 => ?_)
        · replace hf := h_pos hc8 hf
          exact hX50 _ _ _ z50.1 z50.2.1 z50.2.2.1 z50.2.2.2.2 (lv_sub hl [3, 5, 6, 7] rfl) hw hf
        replace hf := h_neg hc8 hf
        refine lv_aload_n hx hb dX5_jolt_62 rfl (lv_at hl 0 rfl) ?_
        obtain ⟨hc9, hf⟩ := h_chk hf
        refine gf_X5_27 cx hw hL.1 dX5_jolt_63 ?_
        refine lv_iload hx hb dX5_jolt_66 (lv_at hl 8 rfl) ?_
        refine r_VN_i (As := [.int z50.2.2.2.1]) (rest := []) cx hw hf (nw_at cx) ((allT_at hL.2.2.2.2 hc9).1).2.1 (by rw [((allT_at hL.2.2.2.2 hc9).1).1]; rfl) lk_X5_246 (fun q10 hq => k_X4_ownerOf l g hg (st_P z50.2.2.2.2 (ky 0 4)) (allT_at hL.2.2.2.2 hc9) z50.2.2.2.2 z50.2.2.2.1 q10 hq) ⟨⟨rfl, rfl⟩, Nat.le_of_ble_eq_true rfl, Nat.le_of_ble_eq_true rfl⟩ rfl hl.1 rfl (Nat.le_of_ble_eq_true rfl) dX5_jolt_68 ⟨Nat.zero_le _, Nat.zero_le _⟩ (fun q10 H locs hw hf => ?_)
        refine lv_iload_n hx hb dX5_jolt_71 rfl (lv_at hl 1 rfl) ?_
        refine lv_icmp_ne hx hb dX5_jolt_72 (tgt := 145) rfl (fun hc11 => ?_) (fun hc11 => ?_)
        · replace hf := h_neg hc11 hf
          refine lv_iinc hx hb dX5_jolt_145 hl (k := 8) rfl (congrArg (HAdd.hAdd _) (show Int32.ofInt (1) = 1 by decide)) (by decide) (lv' := [(8, .int (z50.2.2.2.1 + 1)), (0, .ref (gg_o g 0)), (1, .int x1), (2, .int x2), (3, .int x3), (4, .int x4), (5, .int z50.1), (6, .int z50.2.1), (7, .int z50.2.2.1)]) rfl (fun ls hl => ?_)
          refine lv_goto hx hb dX5_jolt_148 (tgt := 50) rfl ?_
          exact ih50 _ _ _ (z50.1, z50.2.1, z50.2.2.1, (z50.2.2.2.1 + 1), z50.2.2.2.2) (lv_sub hl [1, 2, 3, 4, 5, 6, 7, 8, 0] rfl) hw hf
        replace hf := h_pos hc11 hf
        refine lv_aload_n hx hb dX5_jolt_75 rfl (lv_at hl 0 rfl) ?_
        refine gf_X5_39 cx hw hL.1 dX5_jolt_76 ?_
        refine lv_iload hx hb dX5_jolt_79 (lv_at hl 8 rfl) ?_
        refine lv_iload hx hb dX5_jolt_81 (lv_at hl 4 rfl) ?_
        refine r_VN_i (As := [.int z50.2.2.2.1, .int x4]) (rest := []) cx hw hf (nw_at cx) (hL.2.2.2.1 0 (by decide)).2.1 (by rw [(hL.2.2.2.1 0 (by decide)).1]; rfl) lk_X5_135 (fun q12 hq => k_X0_isBroken l g hg 10 (hL.2.2.2.1 0 (by decide)) hL.2.2.2.2 z50.2.2.2.2 z50.2.2.2.1 x4 q12 hq) ⟨⟨rfl, rfl⟩, Nat.le_of_ble_eq_true rfl, Nat.le_of_ble_eq_true rfl⟩ rfl hl.1 rfl (Nat.le_of_ble_eq_true rfl) dX5_jolt_83 ⟨Nat.zero_le _, Nat.zero_le _⟩ (fun q12 H locs hw hf => ?_)
        refine lv_if_ne hx hb dX5_jolt_86 (tgt := 145) rfl (fun hc13 => ?_) (fun hc13 => ?_)
        · replace hf := h_neg hc13 hf
          refine lv_iinc hx hb dX5_jolt_145 hl (k := 8) rfl (congrArg (HAdd.hAdd _) (show Int32.ofInt (1) = 1 by decide)) (by decide) (lv' := [(8, .int (z50.2.2.2.1 + 1)), (0, .ref (gg_o g 0)), (1, .int x1), (2, .int x2), (3, .int x3), (4, .int x4), (5, .int z50.1), (6, .int z50.2.1), (7, .int z50.2.2.1)]) rfl (fun ls hl => ?_)
          refine lv_goto hx hb dX5_jolt_148 (tgt := 50) rfl ?_
          exact ih50 _ _ _ (z50.1, z50.2.1, z50.2.2.1, (z50.2.2.2.1 + 1), z50.2.2.2.2) (lv_sub hl [1, 2, 3, 4, 5, 6, 7, 8, 0] rfl) hw hf
        replace hf := h_pos hc13 hf
        refine lv_aload_n hx hb dX5_jolt_89 rfl (lv_at hl 0 rfl) ?_
        refine gf_X5_39 cx hw hL.1 dX5_jolt_90 ?_
        refine lv_iload hx hb dX5_jolt_93 (lv_at hl 8 rfl) ?_
        refine lv_iload_n hx hb dX5_jolt_95 rfl (lv_at hl 2 rfl) ?_
        refine r_VN_w (As := [.int z50.2.2.2.1, .int x2]) (rest := []) cx hw hf (nw_at cx) (hL.2.2.2.1 0 (by decide)).2.1 (by rw [(hL.2.2.2.1 0 (by decide)).1]; rfl) lk_X5_243 (fun q14 hq => k_X0_lateWith l g hg 10 (hL.2.2.2.1 0 (by decide)) hL.2.2.2.2 z50.2.2.2.2 z50.2.2.2.1 x2 q14 hq) ⟨⟨rfl, rfl⟩, Nat.le_of_ble_eq_true rfl, Nat.le_of_ble_eq_true rfl⟩ rfl hl.1 rfl (Nat.le_of_ble_eq_true rfl) dX5_jolt_96 ⟨Nat.zero_le _, Nat.zero_le _⟩ (fun q14 H locs hw hf => ?_)
        refine lv_aload_n hx hb dX5_jolt_99 rfl (lv_at hl 0 rfl) ?_
        refine gf_X5_39 cx hw hL.1 dX5_jolt_100 ?_
        refine lv_iload hx hb dX5_jolt_103 (lv_at hl 8 rfl) ?_
        refine lv_iload hx hb dX5_jolt_105 (lv_at hl 4 rfl) ?_
        refine r_VN_i (As := [.int z50.2.2.2.1, .int x4]) (rest := [.int q14.1]) cx hw hf (nw_at cx) (hL.2.2.2.1 0 (by decide)).2.1 (by rw [(hL.2.2.2.1 0 (by decide)).1]; rfl) lk_X5_129 (fun q15 hq => k_X0_lateOf l g hg 10 (hL.2.2.2.1 0 (by decide)) hL.2.2.2.2 q14.2 z50.2.2.2.1 x4 q15 hq) ⟨⟨rfl, rfl⟩, Nat.le_of_ble_eq_true rfl, Nat.le_of_ble_eq_true rfl⟩ rfl hl.1 rfl (Nat.le_of_ble_eq_true rfl) dX5_jolt_107 ⟨Nat.zero_le _, Nat.zero_le _⟩ (fun q15 H locs hw hf => ?_)
        refine lv_isub hx hb dX5_jolt_110 ?_
        refine lv_istore hx hb dX5_jolt_111 hl (by decide) (lv' := [(9, .int (q14.1 - q15)), (0, .ref (gg_o g 0)), (1, .int x1), (2, .int x2), (3, .int x3), (4, .int x4), (5, .int z50.1), (6, .int z50.2.1), (7, .int z50.2.2.1), (8, .int z50.2.2.2.1)]) rfl (fun ls hl => ?_)
        refine lv_iload hx hb dX5_jolt_113 (lv_at hl 6 rfl) ?_
        refine lv_iload hx hb dX5_jolt_115 (lv_at hl 0 rfl) ?_
        refine va_mmax hx hb (cx.2.2.1.trans hl.1.symm) hown (hts _ wd_916) (hts _ wd_85) (hts _ wd_7) (hts _ wd_86) (Nat.le_of_ble_eq_true rfl) (Nat.le_of_ble_eq_true rfl) (Nat.zero_le _) (Nat.zero_le _) dX5_jolt_117 ?_
        refine lv_istore hx hb dX5_jolt_120 hl (by decide) (lv' := [(5, .int (i_max z50.1 (q14.1 - q15))), (9, .int (q14.1 - q15)), (0, .ref (gg_o g 0)), (1, .int x1), (2, .int x2), (3, .int x3), (4, .int x4), (6, .int z50.2.1), (7, .int z50.2.2.1), (8, .int z50.2.2.2.1)]) rfl (fun ls hl => ?_)
        refine lv_iload hx hb dX5_jolt_122 (lv_at hl 7 rfl) ?_
        refine lv_iload hx hb dX5_jolt_124 (lv_at hl 1 rfl) ?_
        refine lv_iconst (v := 0) hx hb dX5_jolt_126 (by decide) ?_
        refine va_mmax hx hb (cx.2.2.1.trans hl.1.symm) hown (hts _ wd_916) (hts _ wd_85) (hts _ wd_7) (hts _ wd_86) (Nat.le_of_ble_eq_true rfl) (Nat.le_of_ble_eq_true rfl) (Nat.zero_le _) (Nat.zero_le _) dX5_jolt_127 ?_
        refine lv_iadd hx hb dX5_jolt_130 ?_
        refine r_leti hf (fun u16 hf => ?_)
        refine lv_istore hx hb dX5_jolt_131 hl (by decide) (lv' := [(6, .int u16), (5, .int (i_max z50.1 (q14.1 - q15))), (9, .int (q14.1 - q15)), (0, .ref (gg_o g 0)), (1, .int x1), (2, .int x2), (3, .int x3), (4, .int x4), (7, .int z50.2.2.1), (8, .int z50.2.2.2.1)]) rfl (fun ls hl => ?_)
        refine lv_iload hx hb dX5_jolt_133 (lv_at hl 8 rfl) ?_
        refine lv_iload hx hb dX5_jolt_135 (lv_at hl 2 rfl) ?_
        refine lv_ineg hx hb dX5_jolt_137 ?_
        refine lv_iconst (v := 0) hx hb dX5_jolt_138 (by decide) ?_
        refine va_mmax hx hb (cx.2.2.1.trans hl.1.symm) hown (hts _ wd_916) (hts _ wd_85) (hts _ wd_7) (hts _ wd_86) (Nat.le_of_ble_eq_true rfl) (Nat.le_of_ble_eq_true rfl) (Nat.zero_le _) (Nat.zero_le _) dX5_jolt_139 ?_
        refine lv_iadd hx hb dX5_jolt_142 ?_
        refine r_leti hf (fun u17 hf => ?_)
        refine lv_istore hx hb dX5_jolt_143 hl (by decide) (lv' := [(7, .int u17), (6, .int u16), (5, .int (i_max z50.1 (q14.1 - q15))), (9, .int (q14.1 - q15)), (0, .ref (gg_o g 0)), (1, .int x1), (2, .int x2), (3, .int x3), (4, .int x4), (8, .int z50.2.2.2.1)]) rfl (fun ls hl => ?_)
        refine lv_iinc hx hb dX5_jolt_145 hl (k := 9) rfl (congrArg (HAdd.hAdd _) (show Int32.ofInt (1) = 1 by decide)) (by decide) (lv' := [(8, .int (z50.2.2.2.1 + 1)), (7, .int u17), (6, .int u16), (5, .int (i_max z50.1 (q14.1 - q15))), (9, .int (q14.1 - q15)), (0, .ref (gg_o g 0)), (1, .int x1), (2, .int x2), (3, .int x3), (4, .int x4)]) rfl (fun ls hl => ?_)
        refine lv_goto hx hb dX5_jolt_148 (tgt := 50) rfl ?_
        exact ih50 _ _ _ ((i_max z50.1 (q14.1 - q15)), u16, u17, (z50.2.2.2.1 + 1), q14.2) (lv_sub hl [5, 6, 7, 8, 9, 3, 2, 1, 0] rfl) hw hf
    refine L50 x1 x2 x3 (st_I S (ky 10 1)) _ (fun ls H locs e18 e19 e20 S21 hl hw hf => ?_) FU _ _ _ ((-1000 : Int32), (0 : Int32), (0 : Int32), (0 : Int32), S) (lv_sub hl [5, 6, 7, 8, 4, 3, 2, 1, 0] rfl) hw (h_assoc hf)
    try dsimp only at hf
    refine lv_iload hx hb dX5_jolt_151 (lv_at hl 1 rfl) ?_
    refine lv_sipush (v := -1000) hx hb dX5_jolt_153 (by decide) ?_
    refine lv_icmp_ne hx hb dX5_jolt_156 (tgt := 163) rfl (fun hc22 => ?_) (fun hc22 => ?_)
    · replace hf := h_neg hc22 hf
      refine lv_iload hx hb dX5_jolt_163 (lv_at hl 1 rfl) ?_
      exact J165 _ _ _ S21 x3 e19 e20 e18 (lv_sub hl [0, 2, 3] rfl) hw hf
    replace hf := h_pos hc22 hf
    refine lv_iconst (v := 0) hx hb dX5_jolt_159 (by decide) ?_
    refine lv_goto hx hb dX5_jolt_160 (tgt := 165) rfl ?_
    exact J165 _ _ _ S21 x3 e19 e20 (0 : Int32) (lv_sub hl [0, 2, 3] rfl) hw hf
  replace hf := h_pos hc6 hf
  refine lv_sipush (v := -1000) hx hb dX5_jolt_23 (by decide) ?_
  exact r_iretw cx hw hr hlk hf dX5_jolt_26
theorem dX5_forecast_0 : decode cX5_forecast 0 = .ok (.aload_n 0, 1) := by decide +kernel
theorem dX5_forecast_1 : decode cX5_forecast 1 = .ok (.getfield 43, 3) := by decide +kernel
theorem dX5_forecast_4 : decode cX5_forecast 4 = .ok (.aload_n 0, 1) := by decide +kernel
theorem dX5_forecast_5 : decode cX5_forecast 5 = .ok (.getfield 39, 3) := by decide +kernel
theorem dX5_forecast_8 : decode cX5_forecast 8 = .ok (.invokevirtual 267, 3) := by decide +kernel
theorem dX5_forecast_11 : decode cX5_forecast 11 = .ok (.aload_n 0, 1) := by decide +kernel
theorem dX5_forecast_12 : decode cX5_forecast 12 = .ok (.getfield 43, 3) := by decide +kernel
theorem dX5_forecast_15 : decode cX5_forecast 15 = .ok (.iload_n 1, 1) := by decide +kernel
theorem dX5_forecast_16 : decode cX5_forecast 16 = .ok (.invokevirtual 154, 3) := by decide +kernel
theorem dX5_forecast_19 : decode cX5_forecast 19 = .ok (.return_, 1) := by decide +kernel
abbrev rm_X5_forecast : Room := { frames := 5, cells := 0, slots := 0, locals := 190 }
def f_X5_forecast (S : St) (x1 : Int32) : Option (St) :=
  (f_X0_copyOf 11 10 S ).bind (fun (q1 : St) => (f_X0_goTo 11 q1 x1).bind (fun (q2 : St) => some q2))
set_option maxRecDepth 100000 in
set_option maxHeartbeats 4000000 in
theorem k_X5_forecast (l : Launch) (g : GG) (hg : gd wd_C g)  (hL : hAll g) (S : St) (x1 : Int32) (q : St) (hf : f_X5_forecast  S x1 = some q) : Met l yX5_forecast (Cond.code yX5_forecast cX5_forecast 2 none :: gw_tbl) rm_X5_forecast (va_Pc [.ref (gg_o g 0), .int x1] (wI wd_C g S)) (qc_v wd_C g q) 0 0 (aw g) := by
  refine mt_start (own := RX5) hg (by decide) rfl (Nat.le_of_ble_eq_true rfl) (fun p e s m args below meth c ls H locs cx hw hr hlk hl => ?_)
  have hx := cx.1
  have hb := cx.2.1
  have hown := cx.2.2.2.1
  have hts := cx.2.2.2.2.1
  have hl : lv_has ls 2 [(0, .ref (gg_o g 0)), (1, .int x1)] := hl
  replace hf := h_top hf
  unfold f_X5_forecast at hf
  refine lv_aload_n hx hb dX5_forecast_0 rfl (lv_at hl 0 rfl) ?_
  refine gf_X5_43 cx hw hL.1 dX5_forecast_1 ?_
  refine lv_aload_n hx hb dX5_forecast_4 rfl (lv_at hl 0 rfl) ?_
  refine gf_X5_39 cx hw hL.1 dX5_forecast_5 ?_
  refine r_VN_v (As := [.ref (gg_o g 10)]) (rest := []) cx hw hf (nw_at cx) (hL.2.2.2.1 1 (by decide)).2.1 (by rw [(hL.2.2.2.1 1 (by decide)).1]; rfl) lk_X5_267 (fun q1 hq => k_X0_copyOf l g hg 11 10 (hL.2.2.2.1 1 (by decide)) hL.2.2.2.2 (hL.2.2.2.1 0 (by decide)) S  q1 hq) ⟨⟨rfl, rfl⟩, Nat.le_of_ble_eq_true rfl, Nat.le_of_ble_eq_true rfl⟩ rfl hl.1 rfl (Nat.le_of_ble_eq_true rfl) dX5_forecast_8 ⟨Nat.zero_le _, Nat.zero_le _⟩ (fun q1 H locs hw hf => ?_)
  refine lv_aload_n hx hb dX5_forecast_11 rfl (lv_at hl 0 rfl) ?_
  refine gf_X5_43 cx hw hL.1 dX5_forecast_12 ?_
  refine lv_iload_n hx hb dX5_forecast_15 rfl (lv_at hl 1 rfl) ?_
  refine r_VN_v (As := [.int x1]) (rest := []) cx hw hf (nw_at cx) (hL.2.2.2.1 1 (by decide)).2.1 (by rw [(hL.2.2.2.1 1 (by decide)).1]; rfl) lk_X5_154 (fun q2 hq => k_X0_goTo l g hg 11 (hL.2.2.2.1 1 (by decide)) hL.2.2.2.2 q1 x1 q2 hq) ⟨⟨rfl, rfl⟩, Nat.le_of_ble_eq_true rfl, Nat.le_of_ble_eq_true rfl⟩ rfl hl.1 rfl (Nat.le_of_ble_eq_true rfl) dX5_forecast_16 ⟨Nat.zero_le _, Nat.zero_le _⟩ (fun q2 H locs hw hf => ?_)
  exact r_vret cx hw hr hlk hf dX5_forecast_19
theorem dX5_showersOf_0 : decode cX5_showersOf 0 = .ok (.iconst 0, 1) := by decide +kernel
theorem dX5_showersOf_1 : decode cX5_showersOf 1 = .ok (.istore 4, 2) := by decide +kernel
theorem dX5_showersOf_3 : decode cX5_showersOf 3 = .ok (.iconst 0, 1) := by decide +kernel
theorem dX5_showersOf_4 : decode cX5_showersOf 4 = .ok (.istore 5, 2) := by decide +kernel
theorem dX5_showersOf_6 : decode cX5_showersOf 6 = .ok (.iload 5, 2) := by decide +kernel
theorem dX5_showersOf_8 : decode cX5_showersOf 8 = .ok (.aload_n 0, 1) := by decide +kernel
theorem dX5_showersOf_9 : decode cX5_showersOf 9 = .ok (.getfield 27, 3) := by decide +kernel
theorem dX5_showersOf_12 : decode cX5_showersOf 12 = .ok (.getfield 206, 3) := by decide +kernel
theorem dX5_showersOf_15 : decode cX5_showersOf 15 = .ok (.if_icmp .ge 46, 3) := by decide +kernel
theorem dX5_showersOf_18 : decode cX5_showersOf 18 = .ok (.aload_n 0, 1) := by decide +kernel
theorem dX5_showersOf_19 : decode cX5_showersOf 19 = .ok (.getfield 43, 3) := by decide +kernel
theorem dX5_showersOf_22 : decode cX5_showersOf 22 = .ok (.iload 5, 2) := by decide +kernel
theorem dX5_showersOf_24 : decode cX5_showersOf 24 = .ok (.iload_n 3, 1) := by decide +kernel
theorem dX5_showersOf_25 : decode cX5_showersOf 25 = .ok (.invokevirtual 138, 3) := by decide +kernel
theorem dX5_showersOf_28 : decode cX5_showersOf 28 = .ok (.iload_n 2, 1) := by decide +kernel
theorem dX5_showersOf_29 : decode cX5_showersOf 29 = .ok (.if_icmp .ne 26, 3) := by decide +kernel
theorem dX5_showersOf_32 : decode cX5_showersOf 32 = .ok (.aload_n 0, 1) := by decide +kernel
theorem dX5_showersOf_33 : decode cX5_showersOf 33 = .ok (.getfield 43, 3) := by decide +kernel
theorem dX5_showersOf_36 : decode cX5_showersOf 36 = .ok (.iload 5, 2) := by decide +kernel
theorem dX5_showersOf_38 : decode cX5_showersOf 38 = .ok (.iload_n 2, 1) := by decide +kernel
theorem dX5_showersOf_39 : decode cX5_showersOf 39 = .ok (.invokevirtual 126, 3) := by decide +kernel
theorem dX5_showersOf_42 : decode cX5_showersOf 42 = .ok (.iload_n 1, 1) := by decide +kernel
theorem dX5_showersOf_43 : decode cX5_showersOf 43 = .ok (.if_icmp .ne 12, 3) := by decide +kernel
theorem dX5_showersOf_46 : decode cX5_showersOf 46 = .ok (.iload 4, 2) := by decide +kernel
theorem dX5_showersOf_48 : decode cX5_showersOf 48 = .ok (.iconst 1, 1) := by decide +kernel
theorem dX5_showersOf_49 : decode cX5_showersOf 49 = .ok (.iload 5, 2) := by decide +kernel
theorem dX5_showersOf_51 : decode cX5_showersOf 51 = .ok (.ishl, 1) := by decide +kernel
theorem dX5_showersOf_52 : decode cX5_showersOf 52 = .ok (.ior, 1) := by decide +kernel
theorem dX5_showersOf_53 : decode cX5_showersOf 53 = .ok (.istore 4, 2) := by decide +kernel
theorem dX5_showersOf_55 : decode cX5_showersOf 55 = .ok (.iinc 5 1, 3) := by decide +kernel
theorem dX5_showersOf_58 : decode cX5_showersOf 58 = .ok (.goto (-52), 3) := by decide +kernel
theorem dX5_showersOf_61 : decode cX5_showersOf 61 = .ok (.iload 4, 2) := by decide +kernel
theorem dX5_showersOf_63 : decode cX5_showersOf 63 = .ok (.ireturn, 1) := by decide +kernel
abbrev rm_X5_showersOf : Room := { frames := 3, cells := 0, slots := 0, locals := 66 }
def f_X5_showersOf_L6 (S : St) (x1 : Int32) (x2 : Int32) (x3 : Int32) (z6 : Int32 × Int32) : Option ((Int32 × Int32) ⊕ (Int32)) :=
  chk (isT (st_P S (ky 0 4))) (if (st_I S (ky (st_P S (ky 0 4)) 3)) ≤ z6.2 then (some (.inr z6.1)) else ((f_X0_showing 11 S z6.2 x3).bind (fun (q3 : Int32) => if q3 = x2 then ((f_X0_hangOf 11 S z6.2 x2).bind (fun (q5 : Int32) => if q5 = x1 then (lt_v (z6.1 ||| ((1 : Int32) <<< (z6.2 &&& 31))) (fun (u7 : Int32) => some (.inl (u7, (z6.2 + 1))))) else (some (.inl (z6.1, (z6.2 + 1)))))) else (some (.inl (z6.1, (z6.2 + 1)))))))
def f_X5_showersOf (S : St) (x1 : Int32) (x2 : Int32) (x3 : Int32) : Option (Int32) :=
  iter (f_X5_showersOf_L6  S x1 x2 x3) FU ((0 : Int32), (0 : Int32))
set_option maxRecDepth 100000 in
set_option maxHeartbeats 4000000 in
theorem k_X5_showersOf (l : Launch) (g : GG) (hg : gd wd_C g)  (hL : hAll g) (S : St) (x1 : Int32) (x2 : Int32) (x3 : Int32) (q : Int32) (hf : f_X5_showersOf  S x1 x2 x3 = some q) : Met l yX5_showersOf (Cond.code yX5_showersOf cX5_showersOf 6 (some .int) :: gw_tbl) rm_X5_showersOf (va_Pc [.ref (gg_o g 0), .int x1, .int x2, .int x3] (wI wd_C g S)) (qc_i wd_C g S q) 0 0 (aw g) := by
  refine mt_start (own := RX5) hg (by decide) rfl (Nat.le_of_ble_eq_true rfl) (fun p e s m args below meth c ls H locs cx hw hr hlk hl => ?_)
  have hx := cx.1
  have hb := cx.2.1
  have hown := cx.2.2.2.1
  have hts := cx.2.2.2.2.1
  have hl : lv_has ls 6 [(0, .ref (gg_o g 0)), (1, .int x1), (2, .int x2), (3, .int x3)] := hl
  replace hf := h_top hf
  unfold f_X5_showersOf at hf
  refine lv_iconst (v := 0) hx hb dX5_showersOf_0 (by decide) ?_
  refine lv_istore hx hb dX5_showersOf_1 hl (by decide) (lv' := [(4, .int (0 : Int32)), (0, .ref (gg_o g 0)), (1, .int x1), (2, .int x2), (3, .int x3)]) rfl (fun ls hl => ?_)
  refine lv_iconst (v := 0) hx hb dX5_showersOf_3 (by decide) ?_
  refine lv_istore hx hb dX5_showersOf_4 hl (by decide) (lv' := [(5, .int (0 : Int32)), (4, .int (0 : Int32)), (0, .ref (gg_o g 0)), (1, .int x1), (2, .int x2), (3, .int x3)]) rfl (fun ls hl => ?_)
  have L6 : ∀ (x1 : Int32) (x2 : Int32) (x3 : Int32) (aft6 : Int32 → Option (Int32)), (∀ v : Int32, aft6 v = some q → (some v : Option (Int32)).bind some = some q) → ∀ (n6 : Nat) (ls : Array Slot) (H : Heap) (locs : List Loc) (z6 : Int32 × Int32), lv_has ls 6 [(0, .ref (gg_o g 0)), (1, .int x1), (2, .int x2), (3, .int x3), (4, .int z6.1), (5, .int z6.2)] → HH wd_C g s S H locs → (iter (f_X5_showersOf_L6  S x1 x2 x3) n6 z6).bind aft6 = some q → W p l e rm_X5_showersOf s m args below meth c H locs 0 0 (MQ below (qc_i wd_C g S q) args s 0 0 (aw g)) (F0 m 6 ls []) := by
    intro x1 x2 x3 aft6 hR6 n6
    induction n6 with
    | zero => intro ls H locs z6 hl hw hf; exact h_iter0 hf
    | succ n6 ih6 =>
      intro ls H locs z6 hl hw hf
      replace hf := h_iter hf
      unfold f_X5_showersOf_L6 at hf
      refine lv_iload hx hb dX5_showersOf_6 (lv_at hl 5 rfl) ?_
      refine lv_aload_n hx hb dX5_showersOf_8 rfl (lv_at hl 0 rfl) ?_
      obtain ⟨hc1, hf⟩ := h_chk hf
      refine gf_X5_27 cx hw hL.1 dX5_showersOf_9 ?_
      refine gf_X5_206 cx hw ((allT_at hL.2.2.2.2 hc1).1) dX5_showersOf_12 ?_
      refine lv_icmp_ge hx hb dX5_showersOf_15 (tgt := 61) rfl (fun hc2 => ?_) (fun hc2 => ?_)
      · replace hf := h_pos hc2 hf
        refine lv_iload hx hb dX5_showersOf_61 (lv_at hl 4 rfl) ?_
        replace hf := hR6 z6.1 hf
        exact r_iret cx hw hr hlk hf dX5_showersOf_63
      replace hf := h_neg hc2 hf
      refine lv_aload_n hx hb dX5_showersOf_18 rfl (lv_at hl 0 rfl) ?_
      refine gf_X5_43 cx hw hL.1 dX5_showersOf_19 ?_
      refine lv_iload hx hb dX5_showersOf_22 (lv_at hl 5 rfl) ?_
      refine lv_iload_n hx hb dX5_showersOf_24 rfl (lv_at hl 3 rfl) ?_
      refine r_VN_i (As := [.int z6.2, .int x3]) (rest := []) cx hw hf (nw_at cx) (hL.2.2.2.1 1 (by decide)).2.1 (by rw [(hL.2.2.2.1 1 (by decide)).1]; rfl) lk_X5_138 (fun q3 hq => k_X0_showing l g hg 11 (hL.2.2.2.1 1 (by decide)) hL.2.2.2.2 S z6.2 x3 q3 hq) ⟨⟨rfl, rfl⟩, Nat.le_of_ble_eq_true rfl, Nat.le_of_ble_eq_true rfl⟩ rfl hl.1 rfl (Nat.le_of_ble_eq_true rfl) dX5_showersOf_25 ⟨Nat.zero_le _, Nat.zero_le _⟩ (fun q3 H locs hw hf => ?_)
      refine lv_iload_n hx hb dX5_showersOf_28 rfl (lv_at hl 2 rfl) ?_
      refine lv_icmp_ne hx hb dX5_showersOf_29 (tgt := 55) rfl (fun hc4 => ?_) (fun hc4 => ?_)
      · replace hf := h_neg hc4 hf
        refine lv_iinc hx hb dX5_showersOf_55 hl (k := 5) rfl (congrArg (HAdd.hAdd _) (show Int32.ofInt (1) = 1 by decide)) (by decide) (lv' := [(5, .int (z6.2 + 1)), (0, .ref (gg_o g 0)), (1, .int x1), (2, .int x2), (3, .int x3), (4, .int z6.1)]) rfl (fun ls hl => ?_)
        refine lv_goto hx hb dX5_showersOf_58 (tgt := 6) rfl ?_
        exact ih6 _ _ _ (z6.1, (z6.2 + 1)) (lv_sub hl [1, 2, 3, 4, 5, 0] rfl) hw hf
      replace hf := h_pos hc4 hf
      refine lv_aload_n hx hb dX5_showersOf_32 rfl (lv_at hl 0 rfl) ?_
      refine gf_X5_43 cx hw hL.1 dX5_showersOf_33 ?_
      refine lv_iload hx hb dX5_showersOf_36 (lv_at hl 5 rfl) ?_
      refine lv_iload_n hx hb dX5_showersOf_38 rfl (lv_at hl 2 rfl) ?_
      refine r_VN_i (As := [.int z6.2, .int x2]) (rest := []) cx hw hf (nw_at cx) (hL.2.2.2.1 1 (by decide)).2.1 (by rw [(hL.2.2.2.1 1 (by decide)).1]; rfl) lk_X5_126 (fun q5 hq => k_X0_hangOf l g hg 11 (hL.2.2.2.1 1 (by decide)) hL.2.2.2.2 S z6.2 x2 q5 hq) ⟨⟨rfl, rfl⟩, Nat.le_of_ble_eq_true rfl, Nat.le_of_ble_eq_true rfl⟩ rfl hl.1 rfl (Nat.le_of_ble_eq_true rfl) dX5_showersOf_39 ⟨Nat.zero_le _, Nat.zero_le _⟩ (fun q5 H locs hw hf => ?_)
      refine lv_iload_n hx hb dX5_showersOf_42 rfl (lv_at hl 1 rfl) ?_
      refine lv_icmp_ne hx hb dX5_showersOf_43 (tgt := 55) rfl (fun hc6 => ?_) (fun hc6 => ?_)
      · replace hf := h_neg hc6 hf
        refine lv_iinc hx hb dX5_showersOf_55 hl (k := 5) rfl (congrArg (HAdd.hAdd _) (show Int32.ofInt (1) = 1 by decide)) (by decide) (lv' := [(5, .int (z6.2 + 1)), (0, .ref (gg_o g 0)), (1, .int x1), (2, .int x2), (3, .int x3), (4, .int z6.1)]) rfl (fun ls hl => ?_)
        refine lv_goto hx hb dX5_showersOf_58 (tgt := 6) rfl ?_
        exact ih6 _ _ _ (z6.1, (z6.2 + 1)) (lv_sub hl [1, 2, 3, 4, 5, 0] rfl) hw hf
      replace hf := h_pos hc6 hf
      refine lv_iload hx hb dX5_showersOf_46 (lv_at hl 4 rfl) ?_
      refine lv_iconst (v := 1) hx hb dX5_showersOf_48 (by decide) ?_
      refine lv_iload hx hb dX5_showersOf_49 (lv_at hl 5 rfl) ?_
      refine lv_ishl hx hb dX5_showersOf_51 ?_
      refine lv_ior hx hb dX5_showersOf_52 ?_
      refine r_leti hf (fun u7 hf => ?_)
      refine lv_istore hx hb dX5_showersOf_53 hl (by decide) (lv' := [(4, .int u7), (0, .ref (gg_o g 0)), (1, .int x1), (2, .int x2), (3, .int x3), (5, .int z6.2)]) rfl (fun ls hl => ?_)
      refine lv_iinc hx hb dX5_showersOf_55 hl (k := 5) rfl (congrArg (HAdd.hAdd _) (show Int32.ofInt (1) = 1 by decide)) (by decide) (lv' := [(5, .int (z6.2 + 1)), (4, .int u7), (0, .ref (gg_o g 0)), (1, .int x1), (2, .int x2), (3, .int x3)]) rfl (fun ls hl => ?_)
      refine lv_goto hx hb dX5_showersOf_58 (tgt := 6) rfl ?_
      exact ih6 _ _ _ (u7, (z6.2 + 1)) (lv_sub hl [2, 3, 4, 5, 1, 0] rfl) hw hf
  exact L6 x1 x2 x3 some (fun v h => h) FU _ _ _ ((0 : Int32), (0 : Int32)) (lv_sub hl [2, 3, 4, 5, 1, 0] rfl) hw hf
theorem dX5_still_0 : decode cX5_still 0 = .ok (.aload_n 0, 1) := by decide +kernel
theorem dX5_still_1 : decode cX5_still 1 = .ok (.iload_n 1, 1) := by decide +kernel
theorem dX5_still_2 : decode cX5_still 2 = .ok (.invokevirtual 170, 3) := by decide +kernel
theorem dX5_still_5 : decode cX5_still 5 = .ok (.ifCond .eq 11, 3) := by decide +kernel
theorem dX5_still_8 : decode cX5_still 8 = .ok (.aload_n 0, 1) := by decide +kernel
theorem dX5_still_9 : decode cX5_still 9 = .ok (.iload_n 2, 1) := by decide +kernel
theorem dX5_still_10 : decode cX5_still 10 = .ok (.invokevirtual 109, 3) := by decide +kernel
theorem dX5_still_13 : decode cX5_still 13 = .ok (.ifCond .ne 5, 3) := by decide +kernel
theorem dX5_still_16 : decode cX5_still 16 = .ok (.iconst (-1), 1) := by decide +kernel
theorem dX5_still_17 : decode cX5_still 17 = .ok (.ireturn, 1) := by decide +kernel
theorem dX5_still_18 : decode cX5_still 18 = .ok (.aload_n 0, 1) := by decide +kernel
theorem dX5_still_19 : decode cX5_still 19 = .ok (.sipush 299, 3) := by decide +kernel
theorem dX5_still_22 : decode cX5_still 22 = .ok (.invokevirtual 249, 3) := by decide +kernel
theorem dX5_still_25 : decode cX5_still 25 = .ok (.iconst 0, 1) := by decide +kernel
theorem dX5_still_26 : decode cX5_still 26 = .ok (.istore_n 3, 1) := by decide +kernel
theorem dX5_still_27 : decode cX5_still 27 = .ok (.aload_n 0, 1) := by decide +kernel
theorem dX5_still_28 : decode cX5_still 28 = .ok (.getfield 39, 3) := by decide +kernel
theorem dX5_still_31 : decode cX5_still 31 = .ok (.getfield 147, 3) := by decide +kernel
theorem dX5_still_34 : decode cX5_still 34 = .ok (.istore 4, 2) := by decide +kernel
theorem dX5_still_36 : decode cX5_still 36 = .ok (.iload 4, 2) := by decide +kernel
theorem dX5_still_38 : decode cX5_still 38 = .ok (.sipush 299, 3) := by decide +kernel
theorem dX5_still_41 : decode cX5_still 41 = .ok (.if_icmp .gt 20, 3) := by decide +kernel
theorem dX5_still_44 : decode cX5_still 44 = .ok (.iload_n 3, 1) := by decide +kernel
theorem dX5_still_45 : decode cX5_still 45 = .ok (.aload_n 0, 1) := by decide +kernel
theorem dX5_still_46 : decode cX5_still 46 = .ok (.iload_n 1, 1) := by decide +kernel
theorem dX5_still_47 : decode cX5_still 47 = .ok (.iload_n 2, 1) := by decide +kernel
theorem dX5_still_48 : decode cX5_still 48 = .ok (.iload 4, 2) := by decide +kernel
theorem dX5_still_50 : decode cX5_still 50 = .ok (.invokevirtual 252, 3) := by decide +kernel
theorem dX5_still_53 : decode cX5_still 53 = .ok (.ior, 1) := by decide +kernel
theorem dX5_still_54 : decode cX5_still 54 = .ok (.istore_n 3, 1) := by decide +kernel
theorem dX5_still_55 : decode cX5_still 55 = .ok (.iinc 4 1, 3) := by decide +kernel
theorem dX5_still_58 : decode cX5_still 58 = .ok (.goto (-22), 3) := by decide +kernel
theorem dX5_still_61 : decode cX5_still 61 = .ok (.iload_n 3, 1) := by decide +kernel
theorem dX5_still_62 : decode cX5_still 62 = .ok (.ireturn, 1) := by decide +kernel
abbrev rm_X5_still : Room := { frames := 6, cells := 0, slots := 0, locals := 211 }
def f_X5_still_L36 (S : St) (x1 : Int32) (x2 : Int32) (z36 : Int32 × Int32) : Option ((Int32 × Int32) ⊕ (Int32 × St)) :=
  if (299 : Int32) < z36.2 then (some (.inr (z36.1, S))) else ((f_X5_showersOf  S x1 x2 z36.2).bind (fun (q7 : Int32) => some (.inl ((z36.1 ||| q7), (z36.2 + 1)))))
def f_X5_still (S : St) (x1 : Int32) (x2 : Int32) : Option (Int32 × St) :=
  (f_X5_isRoom  S x1).bind (fun (q1 : Int32) => if q1 = 0 then (some ((-1 : Int32), S)) else ((f_X5_isPast  S x2).bind (fun (q3 : Int32) => if q3 = 0 then (some ((-1 : Int32), S)) else ((f_X5_forecast  S (299 : Int32)).bind (fun (q5 : St) => iter (f_X5_still_L36  q5 x1 x2) FU ((0 : Int32), (st_I q5 (ky 10 1))))))))
set_option maxRecDepth 100000 in
set_option maxHeartbeats 4000000 in
theorem k_X5_still (l : Launch) (g : GG) (hg : gd wd_C g)  (hL : hAll g) (S : St) (x1 : Int32) (x2 : Int32) (q : Int32 × St) (hf : f_X5_still  S x1 x2 = some q) : Met l yX5_still (Cond.code yX5_still cX5_still 5 (some .int) :: gw_tbl) rm_X5_still (va_Pc [.ref (gg_o g 0), .int x1, .int x2] (wI wd_C g S)) (qc_w wd_C g q) 0 0 (aw g) := by
  refine mt_start (own := RX5) hg (by decide) rfl (Nat.le_of_ble_eq_true rfl) (fun p e s m args below meth c ls H locs cx hw hr hlk hl => ?_)
  have hx := cx.1
  have hb := cx.2.1
  have hown := cx.2.2.2.1
  have hts := cx.2.2.2.2.1
  have hl : lv_has ls 5 [(0, .ref (gg_o g 0)), (1, .int x1), (2, .int x2)] := hl
  replace hf := h_top hf
  unfold f_X5_still at hf
  refine lv_aload_n hx hb dX5_still_0 rfl (lv_at hl 0 rfl) ?_
  refine lv_iload_n hx hb dX5_still_1 rfl (lv_at hl 1 rfl) ?_
  refine r_V_i (As := [.int x1]) (rest := []) cx hw hf hL.1.2.1 (by rw [hL.1.1]; rfl) lk_X5_170 (fun q1 hq => k_X5_isRoom l g hg  hL S x1 q1 hq) ⟨⟨rfl, rfl⟩, Nat.le_of_ble_eq_true rfl, Nat.le_of_ble_eq_true rfl⟩ rfl hl.1 rfl (Nat.le_of_ble_eq_true rfl) dX5_still_2 ⟨Nat.zero_le _, Nat.zero_le _⟩ (fun q1 H locs hw hf => ?_)
  refine lv_if_eq hx hb dX5_still_5 (tgt := 16) rfl (fun hc2 => ?_) (fun hc2 => ?_)
  · replace hf := h_pos hc2 hf
    refine lv_iconst (v := -1) hx hb dX5_still_16 (by decide) ?_
    exact r_iretw cx hw hr hlk hf dX5_still_17
  replace hf := h_neg hc2 hf
  refine lv_aload_n hx hb dX5_still_8 rfl (lv_at hl 0 rfl) ?_
  refine lv_iload_n hx hb dX5_still_9 rfl (lv_at hl 2 rfl) ?_
  refine r_V_i (As := [.int x2]) (rest := []) cx hw hf hL.1.2.1 (by rw [hL.1.1]; rfl) lk_X5_109 (fun q3 hq => k_X5_isPast l g hg  hL S x2 q3 hq) ⟨⟨rfl, rfl⟩, Nat.le_of_ble_eq_true rfl, Nat.le_of_ble_eq_true rfl⟩ rfl hl.1 rfl (Nat.le_of_ble_eq_true rfl) dX5_still_10 ⟨Nat.zero_le _, Nat.zero_le _⟩ (fun q3 H locs hw hf => ?_)
  refine lv_if_ne hx hb dX5_still_13 (tgt := 18) rfl (fun hc4 => ?_) (fun hc4 => ?_)
  · replace hf := h_neg hc4 hf
    refine lv_aload_n hx hb dX5_still_18 rfl (lv_at hl 0 rfl) ?_
    refine lv_sipush (v := 299) hx hb dX5_still_19 (by decide) ?_
    refine r_V_v (As := [.int (299 : Int32)]) (rest := []) cx hw hf hL.1.2.1 (by rw [hL.1.1]; rfl) lk_X5_249 (fun q5 hq => k_X5_forecast l g hg  hL S (299 : Int32) q5 hq) ⟨⟨rfl, rfl⟩, Nat.le_of_ble_eq_true rfl, Nat.le_of_ble_eq_true rfl⟩ rfl hl.1 rfl (Nat.le_of_ble_eq_true rfl) dX5_still_22 ⟨Nat.zero_le _, Nat.zero_le _⟩ (fun q5 H locs hw hf => ?_)
    refine lv_iconst (v := 0) hx hb dX5_still_25 (by decide) ?_
    refine lv_istore_n hx hb dX5_still_26 rfl hl (by decide) (lv' := [(3, .int (0 : Int32)), (0, .ref (gg_o g 0)), (1, .int x1), (2, .int x2)]) rfl (fun ls hl => ?_)
    refine lv_aload_n hx hb dX5_still_27 rfl (lv_at hl 1 rfl) ?_
    refine gf_X5_39 cx hw hL.1 dX5_still_28 ?_
    refine gf_X5_147 cx hw (hL.2.2.2.1 0 (by decide)) dX5_still_31 ?_
    refine lv_istore hx hb dX5_still_34 hl (by decide) (lv' := [(4, .int (st_I q5 (ky 10 1))), (3, .int (0 : Int32)), (0, .ref (gg_o g 0)), (1, .int x1), (2, .int x2)]) rfl (fun ls hl => ?_)
    have L36 : ∀ (S : St) (x1 : Int32) (x2 : Int32) (aft36 : (Int32 × St) → Option (Int32 × St)), (∀ v : Int32 × St, aft36 v = some q → (some v : Option (Int32 × St)).bind some = some q) → ∀ (n36 : Nat) (ls : Array Slot) (H : Heap) (locs : List Loc) (z36 : Int32 × Int32), lv_has ls 5 [(0, .ref (gg_o g 0)), (1, .int x1), (2, .int x2), (3, .int z36.1), (4, .int z36.2)] → HH wd_C g s S H locs → (iter (f_X5_still_L36  S x1 x2) n36 z36).bind aft36 = some q → W p l e rm_X5_still s m args below meth c H locs 0 0 (MQ below (qc_w wd_C g q) args s 0 0 (aw g)) (F0 m 36 ls []) := by
      intro S x1 x2 aft36 hR36 n36
      induction n36 with
      | zero => intro ls H locs z36 hl hw hf; exact h_iter0 hf
      | succ n36 ih36 =>
        intro ls H locs z36 hl hw hf
        replace hf := h_iter hf
        unfold f_X5_still_L36 at hf
        refine lv_iload hx hb dX5_still_36 (lv_at hl 4 rfl) ?_
        refine lv_sipush (v := 299) hx hb dX5_still_38 (by decide) ?_
        refine lv_icmp_gt hx hb dX5_still_41 (tgt := 61) rfl (fun hc6 => ?_) (fun hc6 => ?_)
        · replace hf := h_pos hc6 hf
          refine lv_iload_n hx hb dX5_still_61 rfl (lv_at hl 3 rfl) ?_
          replace hf := hR36 (z36.1, S) hf
          exact r_iretw cx hw hr hlk hf dX5_still_62
        replace hf := h_neg hc6 hf
        refine lv_iload_n hx hb dX5_still_44 rfl (lv_at hl 3 rfl) ?_
        refine lv_aload_n hx hb dX5_still_45 rfl (lv_at hl 0 rfl) ?_
        refine lv_iload_n hx hb dX5_still_46 rfl (lv_at hl 1 rfl) ?_
        refine lv_iload_n hx hb dX5_still_47 rfl (lv_at hl 2 rfl) ?_
        refine lv_iload hx hb dX5_still_48 (lv_at hl 4 rfl) ?_
        refine r_V_i (As := [.int x1, .int x2, .int z36.2]) (rest := [.int z36.1]) cx hw hf hL.1.2.1 (by rw [hL.1.1]; rfl) lk_X5_252 (fun q7 hq => k_X5_showersOf l g hg  hL S x1 x2 z36.2 q7 hq) ⟨⟨rfl, rfl⟩, Nat.le_of_ble_eq_true rfl, Nat.le_of_ble_eq_true rfl⟩ rfl hl.1 rfl (Nat.le_of_ble_eq_true rfl) dX5_still_50 ⟨Nat.zero_le _, Nat.zero_le _⟩ (fun q7 H locs hw hf => ?_)
        refine lv_ior hx hb dX5_still_53 ?_
        refine lv_istore_n hx hb dX5_still_54 rfl hl (by decide) (lv' := [(3, .int (z36.1 ||| q7)), (0, .ref (gg_o g 0)), (1, .int x1), (2, .int x2), (4, .int z36.2)]) rfl (fun ls hl => ?_)
        refine lv_iinc hx hb dX5_still_55 hl (k := 4) rfl (congrArg (HAdd.hAdd _) (show Int32.ofInt (1) = 1 by decide)) (by decide) (lv' := [(4, .int (z36.2 + 1)), (3, .int (z36.1 ||| q7)), (0, .ref (gg_o g 0)), (1, .int x1), (2, .int x2)]) rfl (fun ls hl => ?_)
        refine lv_goto hx hb dX5_still_58 (tgt := 36) rfl ?_
        exact ih36 _ _ _ ((z36.1 ||| q7), (z36.2 + 1)) (lv_sub hl [2, 3, 4, 1, 0] rfl) hw hf
    exact L36 q5 x1 x2 some (fun v h => h) FU _ _ _ ((0 : Int32), (st_I q5 (ky 10 1))) (lv_sub hl [2, 3, 4, 1, 0] rfl) hw hf
  replace hf := h_pos hc4 hf
  refine lv_iconst (v := -1) hx hb dX5_still_16 (by decide) ?_
  exact r_iretw cx hw hr hlk hf dX5_still_17
theorem dX5_firstOf_0 : decode cX5_firstOf 0 = .ok (.iconst 0, 1) := by decide +kernel
theorem dX5_firstOf_1 : decode cX5_firstOf 1 = .ok (.istore_n 1, 1) := by decide +kernel
theorem dX5_firstOf_2 : decode cX5_firstOf 2 = .ok (.iload_n 1, 1) := by decide +kernel
theorem dX5_firstOf_3 : decode cX5_firstOf 3 = .ok (.bipush 32, 2) := by decide +kernel
theorem dX5_firstOf_5 : decode cX5_firstOf 5 = .ok (.if_icmp .ge 19, 3) := by decide +kernel
theorem dX5_firstOf_8 : decode cX5_firstOf 8 = .ok (.iload_n 0, 1) := by decide +kernel
theorem dX5_firstOf_9 : decode cX5_firstOf 9 = .ok (.iload_n 1, 1) := by decide +kernel
theorem dX5_firstOf_10 : decode cX5_firstOf 10 = .ok (.invokestatic 203, 3) := by decide +kernel
theorem dX5_firstOf_13 : decode cX5_firstOf 13 = .ok (.ifCond .eq 5, 3) := by decide +kernel
theorem dX5_firstOf_16 : decode cX5_firstOf 16 = .ok (.iload_n 1, 1) := by decide +kernel
theorem dX5_firstOf_17 : decode cX5_firstOf 17 = .ok (.ireturn, 1) := by decide +kernel
theorem dX5_firstOf_18 : decode cX5_firstOf 18 = .ok (.iinc 1 1, 3) := by decide +kernel
theorem dX5_firstOf_21 : decode cX5_firstOf 21 = .ok (.goto (-19), 3) := by decide +kernel
theorem dX5_firstOf_24 : decode cX5_firstOf 24 = .ok (.iconst (-1), 1) := by decide +kernel
theorem dX5_firstOf_25 : decode cX5_firstOf 25 = .ok (.ireturn, 1) := by decide +kernel
abbrev rm_X5_firstOf : Room := { frames := 1, cells := 0, slots := 0, locals := 21 }
def f_X5_firstOf_L2 (x0 : Int32) (z2 : Int32) : Option ((Int32) ⊕ (Int32)) :=
  if (32 : Int32) ≤ z2 then (some (.inr (-1 : Int32))) else ((f_X5_has   x0 z2).bind (fun (q2 : Int32) => if q2 = 0 then (some (.inl (z2 + 1))) else (some (.inr z2))))
def f_X5_firstOf (x0 : Int32) : Option (Int32) :=
  iter (f_X5_firstOf_L2   x0) FU (0 : Int32)
set_option maxRecDepth 100000 in
set_option maxHeartbeats 4000000 in
theorem k_X5_firstOf (l : Launch) (g : GG) (hg : gd wd_C g)  (S : St) (x0 : Int32) (q : Int32) (hf : f_X5_firstOf   x0 = some q) : Met l yX5_firstOf (Cond.code yX5_firstOf cX5_firstOf 2 (some .int) :: gw_tbl) rm_X5_firstOf (va_Pc [.int x0] (wI wd_C g S)) (qc_i wd_C g S q) 0 0 (aw g) := by
  refine mt_start (own := RX5) hg (by decide) rfl (Nat.le_of_ble_eq_true rfl) (fun p e s m args below meth c ls H locs cx hw hr hlk hl => ?_)
  have hx := cx.1
  have hb := cx.2.1
  have hown := cx.2.2.2.1
  have hts := cx.2.2.2.2.1
  have hl : lv_has ls 2 [(0, .int x0)] := hl
  replace hf := h_top hf
  unfold f_X5_firstOf at hf
  refine lv_iconst (v := 0) hx hb dX5_firstOf_0 (by decide) ?_
  refine lv_istore_n hx hb dX5_firstOf_1 rfl hl (by decide) (lv' := [(1, .int (0 : Int32)), (0, .int x0)]) rfl (fun ls hl => ?_)
  have L2 : ∀ (x0 : Int32) (aft2 : Int32 → Option (Int32)), (∀ v : Int32, aft2 v = some q → (some v : Option (Int32)).bind some = some q) → ∀ (n2 : Nat) (ls : Array Slot) (H : Heap) (locs : List Loc) (z2 : Int32), lv_has ls 2 [(0, .int x0), (1, .int z2)] → HH wd_C g s S H locs → (iter (f_X5_firstOf_L2   x0) n2 z2).bind aft2 = some q → W p l e rm_X5_firstOf s m args below meth c H locs 0 0 (MQ below (qc_i wd_C g S q) args s 0 0 (aw g)) (F0 m 2 ls []) := by
    intro x0 aft2 hR2 n2
    induction n2 with
    | zero => intro ls H locs z2 hl hw hf; exact h_iter0 hf
    | succ n2 ih2 =>
      intro ls H locs z2 hl hw hf
      replace hf := h_iter hf
      unfold f_X5_firstOf_L2 at hf
      refine lv_iload_n hx hb dX5_firstOf_2 rfl (lv_at hl 1 rfl) ?_
      refine lv_bipush (v := 32) hx hb dX5_firstOf_3 (by decide) ?_
      refine lv_icmp_ge hx hb dX5_firstOf_5 (tgt := 24) rfl (fun hc1 => ?_) (fun hc1 => ?_)
      · replace hf := h_pos hc1 hf
        refine lv_iconst (v := -1) hx hb dX5_firstOf_24 (by decide) ?_
        replace hf := hR2 (-1 : Int32) hf
        exact r_iret cx hw hr hlk hf dX5_firstOf_25
      replace hf := h_neg hc1 hf
      refine lv_iload_n hx hb dX5_firstOf_8 rfl (lv_at hl 0 rfl) ?_
      refine lv_iload_n hx hb dX5_firstOf_9 rfl (lv_at hl 1 rfl) ?_
      refine r_S_i (As := [.int x0, .int z2]) (rest := []) cx hw hf lk_X5_203 (fun q2 hq => k_X5_has l g hg   S x0 z2 q2 hq) ⟨⟨rfl, rfl⟩, Nat.le_of_ble_eq_true rfl, Nat.le_of_ble_eq_true rfl⟩ rfl hl.1 rfl (Nat.le_of_ble_eq_true rfl) dX5_firstOf_10 ⟨Nat.zero_le _, Nat.zero_le _⟩ (fun q2 H locs hw hf => ?_)
      refine lv_if_eq hx hb dX5_firstOf_13 (tgt := 18) rfl (fun hc3 => ?_) (fun hc3 => ?_)
      · replace hf := h_pos hc3 hf
        refine lv_iinc hx hb dX5_firstOf_18 hl (k := 1) rfl (congrArg (HAdd.hAdd _) (show Int32.ofInt (1) = 1 by decide)) (by decide) (lv' := [(1, .int (z2 + 1)), (0, .int x0)]) rfl (fun ls hl => ?_)
        refine lv_goto hx hb dX5_firstOf_21 (tgt := 2) rfl ?_
        exact ih2 _ _ _ (z2 + 1) (lv_sub hl [1, 0] rfl) hw hf
      replace hf := h_neg hc3 hf
      refine lv_iload_n hx hb dX5_firstOf_16 rfl (lv_at hl 1 rfl) ?_
      replace hf := hR2 z2 hf
      exact r_iret cx hw hr hlk hf dX5_firstOf_17
  exact L2 x0 some (fun v h => h) FU _ _ _ (0 : Int32) (lv_sub hl [1, 0] rfl) hw hf
theorem dX5_soonest_0 : decode cX5_soonest 0 = .ok (.aload_n 0, 1) := by decide +kernel
theorem dX5_soonest_1 : decode cX5_soonest 1 = .ok (.iload_n 1, 1) := by decide +kernel
theorem dX5_soonest_2 : decode cX5_soonest 2 = .ok (.invokevirtual 170, 3) := by decide +kernel
theorem dX5_soonest_5 : decode cX5_soonest 5 = .ok (.ifCond .eq 19, 3) := by decide +kernel
theorem dX5_soonest_8 : decode cX5_soonest 8 = .ok (.aload_n 0, 1) := by decide +kernel
theorem dX5_soonest_9 : decode cX5_soonest 9 = .ok (.iload_n 2, 1) := by decide +kernel
theorem dX5_soonest_10 : decode cX5_soonest 10 = .ok (.invokevirtual 109, 3) := by decide +kernel
theorem dX5_soonest_13 : decode cX5_soonest 13 = .ok (.ifCond .eq 11, 3) := by decide +kernel
theorem dX5_soonest_16 : decode cX5_soonest 16 = .ok (.iload_n 3, 1) := by decide +kernel
theorem dX5_soonest_17 : decode cX5_soonest 17 = .ok (.iconst 2, 1) := by decide +kernel
theorem dX5_soonest_18 : decode cX5_soonest 18 = .ok (.invokestatic 112, 3) := by decide +kernel
theorem dX5_soonest_21 : decode cX5_soonest 21 = .ok (.ifCond .ne 5, 3) := by decide +kernel
theorem dX5_soonest_24 : decode cX5_soonest 24 = .ok (.iconst (-1), 1) := by decide +kernel
theorem dX5_soonest_25 : decode cX5_soonest 25 = .ok (.ireturn, 1) := by decide +kernel
theorem dX5_soonest_26 : decode cX5_soonest 26 = .ok (.aload_n 0, 1) := by decide +kernel
theorem dX5_soonest_27 : decode cX5_soonest 27 = .ok (.sipush 299, 3) := by decide +kernel
theorem dX5_soonest_30 : decode cX5_soonest 30 = .ok (.invokevirtual 249, 3) := by decide +kernel
theorem dX5_soonest_33 : decode cX5_soonest 33 = .ok (.aload_n 0, 1) := by decide +kernel
theorem dX5_soonest_34 : decode cX5_soonest 34 = .ok (.getfield 39, 3) := by decide +kernel
theorem dX5_soonest_37 : decode cX5_soonest 37 = .ok (.getfield 147, 3) := by decide +kernel
theorem dX5_soonest_40 : decode cX5_soonest 40 = .ok (.istore 4, 2) := by decide +kernel
theorem dX5_soonest_42 : decode cX5_soonest 42 = .ok (.iload 4, 2) := by decide +kernel
theorem dX5_soonest_44 : decode cX5_soonest 44 = .ok (.sipush 299, 3) := by decide +kernel
theorem dX5_soonest_47 : decode cX5_soonest 47 = .ok (.if_icmp .gt 39, 3) := by decide +kernel
theorem dX5_soonest_50 : decode cX5_soonest 50 = .ok (.aload_n 0, 1) := by decide +kernel
theorem dX5_soonest_51 : decode cX5_soonest 51 = .ok (.iload_n 1, 1) := by decide +kernel
theorem dX5_soonest_52 : decode cX5_soonest 52 = .ok (.iload_n 2, 1) := by decide +kernel
theorem dX5_soonest_53 : decode cX5_soonest 53 = .ok (.iload 4, 2) := by decide +kernel
theorem dX5_soonest_55 : decode cX5_soonest 55 = .ok (.invokevirtual 252, 3) := by decide +kernel
theorem dX5_soonest_58 : decode cX5_soonest 58 = .ok (.istore 5, 2) := by decide +kernel
theorem dX5_soonest_60 : decode cX5_soonest 60 = .ok (.iload 5, 2) := by decide +kernel
theorem dX5_soonest_62 : decode cX5_soonest 62 = .ok (.ifCond .eq 18, 3) := by decide +kernel
theorem dX5_soonest_65 : decode cX5_soonest 65 = .ok (.iload_n 3, 1) := by decide +kernel
theorem dX5_soonest_66 : decode cX5_soonest 66 = .ok (.ifCond .ne 8, 3) := by decide +kernel
theorem dX5_soonest_69 : decode cX5_soonest 69 = .ok (.iload 4, 2) := by decide +kernel
theorem dX5_soonest_71 : decode cX5_soonest 71 = .ok (.goto 8, 3) := by decide +kernel
theorem dX5_soonest_74 : decode cX5_soonest 74 = .ok (.iload 5, 2) := by decide +kernel
theorem dX5_soonest_76 : decode cX5_soonest 76 = .ok (.invokestatic 255, 3) := by decide +kernel
theorem dX5_soonest_79 : decode cX5_soonest 79 = .ok (.ireturn, 1) := by decide +kernel
theorem dX5_soonest_80 : decode cX5_soonest 80 = .ok (.iinc 4 1, 3) := by decide +kernel
theorem dX5_soonest_83 : decode cX5_soonest 83 = .ok (.goto (-41), 3) := by decide +kernel
theorem dX5_soonest_86 : decode cX5_soonest 86 = .ok (.bipush (-2), 2) := by decide +kernel
theorem dX5_soonest_88 : decode cX5_soonest 88 = .ok (.ireturn, 1) := by decide +kernel
abbrev rm_X5_soonest : Room := { frames := 6, cells := 0, slots := 0, locals := 211 }
def f_X5_soonest_L42 (S : St) (x1 : Int32) (x2 : Int32) (x3 : Int32) (z42 : Int32) : Option ((Int32) ⊕ ((Int32 × Int32) ⊕ (Int32 × St))) :=
  if (299 : Int32) < z42 then (some (.inr (.inr ((-2 : Int32), S)))) else ((f_X5_showersOf  S x1 x2 z42).bind (fun (q9 : Int32) => if q9 = 0 then (some (.inl (z42 + 1))) else (some (.inr (.inl (z42, q9))))))
def f_X5_soonest (S : St) (x1 : Int32) (x2 : Int32) (x3 : Int32) : Option (Int32 × St) :=
  (f_X5_isRoom  S x1).bind (fun (q1 : Int32) => if q1 = 0 then (some ((-1 : Int32), S)) else ((f_X5_isPast  S x2).bind (fun (q3 : Int32) => if q3 = 0 then (some ((-1 : Int32), S)) else ((f_X5_within   x3 (2 : Int32)).bind (fun (q5 : Int32) => if q5 = 0 then (some ((-1 : Int32), S)) else ((f_X5_forecast  S (299 : Int32)).bind (fun (q7 : St) => (iter (f_X5_soonest_L42  q7 x1 x2 x3) FU (st_I q7 (ky 10 1))).bind fun z => match z with | .inl z => (fun (u15 : Int32 × Int32) => (fun (e11 : Int32) (e12 : Int32) => if x3 = 0 then (some (e11, q7)) else ((f_X5_firstOf   e12).bind (fun (q14 : Int32) => some (q14, q7)))) u15.1 u15.2) z | .inr v16 => some v16)))))))
set_option maxRecDepth 100000 in
set_option maxHeartbeats 4000000 in
theorem k_X5_soonest (l : Launch) (g : GG) (hg : gd wd_C g)  (hL : hAll g) (S : St) (x1 : Int32) (x2 : Int32) (x3 : Int32) (q : Int32 × St) (hf : f_X5_soonest  S x1 x2 x3 = some q) : Met l yX5_soonest (Cond.code yX5_soonest cX5_soonest 6 (some .int) :: gw_tbl) rm_X5_soonest (va_Pc [.ref (gg_o g 0), .int x1, .int x2, .int x3] (wI wd_C g S)) (qc_w wd_C g q) 0 0 (aw g) := by
  refine mt_start (own := RX5) hg (by decide) rfl (Nat.le_of_ble_eq_true rfl) (fun p e s m args below meth c ls H locs cx hw hr hlk hl => ?_)
  have hx := cx.1
  have hb := cx.2.1
  have hown := cx.2.2.2.1
  have hts := cx.2.2.2.2.1
  have hl : lv_has ls 6 [(0, .ref (gg_o g 0)), (1, .int x1), (2, .int x2), (3, .int x3)] := hl
  replace hf := h_top hf
  unfold f_X5_soonest at hf
  refine lv_aload_n hx hb dX5_soonest_0 rfl (lv_at hl 0 rfl) ?_
  refine lv_iload_n hx hb dX5_soonest_1 rfl (lv_at hl 1 rfl) ?_
  refine r_V_i (As := [.int x1]) (rest := []) cx hw hf hL.1.2.1 (by rw [hL.1.1]; rfl) lk_X5_170 (fun q1 hq => k_X5_isRoom l g hg  hL S x1 q1 hq) ⟨⟨rfl, rfl⟩, Nat.le_of_ble_eq_true rfl, Nat.le_of_ble_eq_true rfl⟩ rfl hl.1 rfl (Nat.le_of_ble_eq_true rfl) dX5_soonest_2 ⟨Nat.zero_le _, Nat.zero_le _⟩ (fun q1 H locs hw hf => ?_)
  refine lv_if_eq hx hb dX5_soonest_5 (tgt := 24) rfl (fun hc2 => ?_) (fun hc2 => ?_)
  · replace hf := h_pos hc2 hf
    refine lv_iconst (v := -1) hx hb dX5_soonest_24 (by decide) ?_
    exact r_iretw cx hw hr hlk hf dX5_soonest_25
  replace hf := h_neg hc2 hf
  refine lv_aload_n hx hb dX5_soonest_8 rfl (lv_at hl 0 rfl) ?_
  refine lv_iload_n hx hb dX5_soonest_9 rfl (lv_at hl 2 rfl) ?_
  refine r_V_i (As := [.int x2]) (rest := []) cx hw hf hL.1.2.1 (by rw [hL.1.1]; rfl) lk_X5_109 (fun q3 hq => k_X5_isPast l g hg  hL S x2 q3 hq) ⟨⟨rfl, rfl⟩, Nat.le_of_ble_eq_true rfl, Nat.le_of_ble_eq_true rfl⟩ rfl hl.1 rfl (Nat.le_of_ble_eq_true rfl) dX5_soonest_10 ⟨Nat.zero_le _, Nat.zero_le _⟩ (fun q3 H locs hw hf => ?_)
  refine lv_if_eq hx hb dX5_soonest_13 (tgt := 24) rfl (fun hc4 => ?_) (fun hc4 => ?_)
  · replace hf := h_pos hc4 hf
    refine lv_iconst (v := -1) hx hb dX5_soonest_24 (by decide) ?_
    exact r_iretw cx hw hr hlk hf dX5_soonest_25
  replace hf := h_neg hc4 hf
  refine lv_iload_n hx hb dX5_soonest_16 rfl (lv_at hl 3 rfl) ?_
  refine lv_iconst (v := 2) hx hb dX5_soonest_17 (by decide) ?_
  refine r_S_i (As := [.int x3, .int (2 : Int32)]) (rest := []) cx hw hf lk_X5_112 (fun q5 hq => k_X5_within l g hg   S x3 (2 : Int32) q5 hq) ⟨⟨rfl, rfl⟩, Nat.le_of_ble_eq_true rfl, Nat.le_of_ble_eq_true rfl⟩ rfl hl.1 rfl (Nat.le_of_ble_eq_true rfl) dX5_soonest_18 ⟨Nat.zero_le _, Nat.zero_le _⟩ (fun q5 H locs hw hf => ?_)
  refine lv_if_ne hx hb dX5_soonest_21 (tgt := 26) rfl (fun hc6 => ?_) (fun hc6 => ?_)
  · replace hf := h_neg hc6 hf
    refine lv_aload_n hx hb dX5_soonest_26 rfl (lv_at hl 0 rfl) ?_
    refine lv_sipush (v := 299) hx hb dX5_soonest_27 (by decide) ?_
    refine r_V_v (As := [.int (299 : Int32)]) (rest := []) cx hw hf hL.1.2.1 (by rw [hL.1.1]; rfl) lk_X5_249 (fun q7 hq => k_X5_forecast l g hg  hL S (299 : Int32) q7 hq) ⟨⟨rfl, rfl⟩, Nat.le_of_ble_eq_true rfl, Nat.le_of_ble_eq_true rfl⟩ rfl hl.1 rfl (Nat.le_of_ble_eq_true rfl) dX5_soonest_30 ⟨Nat.zero_le _, Nat.zero_le _⟩ (fun q7 H locs hw hf => ?_)
    refine lv_aload_n hx hb dX5_soonest_33 rfl (lv_at hl 0 rfl) ?_
    refine gf_X5_39 cx hw hL.1 dX5_soonest_34 ?_
    refine gf_X5_147 cx hw (hL.2.2.2.1 0 (by decide)) dX5_soonest_37 ?_
    refine lv_istore hx hb dX5_soonest_40 hl (by decide) (lv' := [(4, .int (st_I q7 (ky 10 1))), (0, .ref (gg_o g 0)), (1, .int x1), (2, .int x2), (3, .int x3)]) rfl (fun ls hl => ?_)
    have L42 : ∀ (S : St) (x1 : Int32) (x2 : Int32) (x3 : Int32) (aft42 : ((Int32 × Int32) ⊕ (Int32 × St)) → Option (Int32 × St)), (∀ (ls : Array Slot) (H : Heap) (locs : List Loc) (e4 : Int32) (e5 : Int32), lv_has ls 6 [(3, .int x3), (4, .int e4), (5, .int e5)] → HH wd_C g s S H locs → aft42 (.inl (e4, e5)) = some q → W p l e rm_X5_soonest s m args below meth c H locs 0 0 (MQ below (qc_w wd_C g q) args s 0 0 (aw g)) (F0 m 65 ls [])) → (∀ v : Int32 × St, aft42 (.inr v) = some q → (some v : Option (Int32 × St)).bind some = some q) → ∀ (n42 : Nat) (ls : Array Slot) (H : Heap) (locs : List Loc) (z42 : Int32), lv_has ls 6 [(0, .ref (gg_o g 0)), (1, .int x1), (2, .int x2), (3, .int x3), (4, .int z42)] → HH wd_C g s S H locs → (iter (f_X5_soonest_L42  S x1 x2 x3) n42 z42).bind aft42 = some q → W p l e rm_X5_soonest s m args below meth c H locs 0 0 (MQ below (qc_w wd_C g q) args s 0 0 (aw g)) (F0 m 42 ls []) := by
      intro S x1 x2 x3 aft42 hX42 hR42 n42
      induction n42 with
      | zero => intro ls H locs z42 hl hw hf; exact h_iter0 hf
      | succ n42 ih42 =>
        intro ls H locs z42 hl hw hf
        replace hf := h_iter hf
        unfold f_X5_soonest_L42 at hf
        refine lv_iload hx hb dX5_soonest_42 (lv_at hl 4 rfl) ?_
        refine lv_sipush (v := 299) hx hb dX5_soonest_44 (by decide) ?_
        refine lv_icmp_gt hx hb dX5_soonest_47 (tgt := 86) rfl (fun hc8 => ?_) (fun hc8 => ?_)
        · replace hf := h_pos hc8 hf
          refine lv_bipush (v := -2) hx hb dX5_soonest_86 (by decide) ?_
          replace hf := hR42 ((-2 : Int32), S) hf
          exact r_iretw cx hw hr hlk hf dX5_soonest_88
        replace hf := h_neg hc8 hf
        refine lv_aload_n hx hb dX5_soonest_50 rfl (lv_at hl 0 rfl) ?_
        refine lv_iload_n hx hb dX5_soonest_51 rfl (lv_at hl 1 rfl) ?_
        refine lv_iload_n hx hb dX5_soonest_52 rfl (lv_at hl 2 rfl) ?_
        refine lv_iload hx hb dX5_soonest_53 (lv_at hl 4 rfl) ?_
        refine r_V_i (As := [.int x1, .int x2, .int z42]) (rest := []) cx hw hf hL.1.2.1 (by rw [hL.1.1]; rfl) lk_X5_252 (fun q9 hq => k_X5_showersOf l g hg  hL S x1 x2 z42 q9 hq) ⟨⟨rfl, rfl⟩, Nat.le_of_ble_eq_true rfl, Nat.le_of_ble_eq_true rfl⟩ rfl hl.1 rfl (Nat.le_of_ble_eq_true rfl) dX5_soonest_55 ⟨Nat.zero_le _, Nat.zero_le _⟩ (fun q9 H locs hw hf => ?_)
        refine lv_istore hx hb dX5_soonest_58 hl (by decide) (lv' := [(5, .int q9), (0, .ref (gg_o g 0)), (1, .int x1), (2, .int x2), (3, .int x3), (4, .int z42)]) rfl (fun ls hl => ?_)
        refine lv_iload hx hb dX5_soonest_60 (lv_at hl 0 rfl) ?_
        refine lv_if_eq hx hb dX5_soonest_62 (tgt := 80) rfl (fun hc10 => ?_) (fun hc10 => ?_)
        · replace hf := h_pos hc10 hf
          refine lv_iinc hx hb dX5_soonest_80 hl (k := 5) rfl (congrArg (HAdd.hAdd _) (show Int32.ofInt (1) = 1 by decide)) (by decide) (lv' := [(4, .int (z42 + 1)), (5, .int q9), (0, .ref (gg_o g 0)), (1, .int x1), (2, .int x2), (3, .int x3)]) rfl (fun ls hl => ?_)
          refine lv_goto hx hb dX5_soonest_83 (tgt := 42) rfl ?_
          exact ih42 _ _ _ (z42 + 1) (lv_sub hl [2, 3, 4, 5, 0] rfl) hw hf
        replace hf := h_neg hc10 hf
        exact hX42 _ _ _ z42 q9 (lv_sub hl [4, 5, 0] rfl) hw hf
    refine L42 q7 x1 x2 x3 _ (fun ls H locs e11 e12 hl hw hf => ?_) (fun v h => h) FU _ _ _ (st_I q7 (ky 10 1)) (lv_sub hl [1, 2, 3, 4, 0] rfl) hw (h_assoc hf)
    try dsimp only at hf
    refine lv_iload_n hx hb dX5_soonest_65 rfl (lv_at hl 0 rfl) ?_
    refine lv_if_ne hx hb dX5_soonest_66 (tgt := 74) rfl (fun hc13 => ?_) (fun hc13 => ?_)
    · replace hf := h_neg hc13 hf
      refine lv_iload hx hb dX5_soonest_74 (lv_at hl 2 rfl) ?_
      refine r_S_i (As := [.int e12]) (rest := []) cx hw hf lk_X5_255 (fun q14 hq => k_X5_firstOf l g hg   q7 e12 q14 hq) ⟨⟨rfl, rfl⟩, Nat.le_of_ble_eq_true rfl, Nat.le_of_ble_eq_true rfl⟩ rfl hl.1 rfl (Nat.le_of_ble_eq_true rfl) dX5_soonest_76 ⟨Nat.zero_le _, Nat.zero_le _⟩ (fun q14 H locs hw hf => ?_)
      exact r_iretw cx hw hr hlk hf dX5_soonest_79
    replace hf := h_pos hc13 hf
    refine lv_iload hx hb dX5_soonest_69 (lv_at hl 1 rfl) ?_
    refine lv_goto hx hb dX5_soonest_71 (tgt := 79) rfl ?_
    exact r_iretw cx hw hr hlk hf dX5_soonest_79
  replace hf := h_pos hc6 hf
  refine lv_iconst (v := -1) hx hb dX5_soonest_24 (by decide) ?_
  exact r_iretw cx hw hr hlk hf dX5_soonest_25
theorem dX5_countSteps_0 : decode cX5_countSteps 0 = .ok (.iconst 0, 1) := by decide +kernel
theorem dX5_countSteps_1 : decode cX5_countSteps 1 = .ok (.istore_n 3, 1) := by decide +kernel
theorem dX5_countSteps_2 : decode cX5_countSteps 2 = .ok (.iload_n 3, 1) := by decide +kernel
theorem dX5_countSteps_3 : decode cX5_countSteps 3 = .ok (.bipush 8, 2) := by decide +kernel
theorem dX5_countSteps_5 : decode cX5_countSteps 5 = .ok (.if_icmp .ge 37, 3) := by decide +kernel
theorem dX5_countSteps_8 : decode cX5_countSteps 8 = .ok (.aload_n 0, 1) := by decide +kernel
theorem dX5_countSteps_9 : decode cX5_countSteps 9 = .ok (.getfield 60, 3) := by decide +kernel
theorem dX5_countSteps_12 : decode cX5_countSteps 12 = .ok (.iload_n 3, 1) := by decide +kernel
theorem dX5_countSteps_13 : decode cX5_countSteps 13 = .ok (.iload_n 3, 1) := by decide +kernel
theorem dX5_countSteps_14 : decode cX5_countSteps 14 = .ok (.iload_n 1, 1) := by decide +kernel
theorem dX5_countSteps_15 : decode cX5_countSteps 15 = .ok (.if_icmp .ne 15, 3) := by decide +kernel
theorem dX5_countSteps_18 : decode cX5_countSteps 18 = .ok (.iload_n 2, 1) := by decide +kernel
theorem dX5_countSteps_19 : decode cX5_countSteps 19 = .ok (.iload_n 3, 1) := by decide +kernel
theorem dX5_countSteps_20 : decode cX5_countSteps 20 = .ok (.invokestatic 203, 3) := by decide +kernel
theorem dX5_countSteps_23 : decode cX5_countSteps 23 = .ok (.ifCond .eq 7, 3) := by decide +kernel
theorem dX5_countSteps_26 : decode cX5_countSteps 26 = .ok (.iconst 0, 1) := by decide +kernel
theorem dX5_countSteps_27 : decode cX5_countSteps 27 = .ok (.goto 6, 3) := by decide +kernel
theorem dX5_countSteps_30 : decode cX5_countSteps 30 = .ok (.sipush 1000, 3) := by decide +kernel
theorem dX5_countSteps_33 : decode cX5_countSteps 33 = .ok (.invokestatic 76, 3) := by decide +kernel
theorem dX5_countSteps_36 : decode cX5_countSteps 36 = .ok (.iinc 3 1, 3) := by decide +kernel
theorem dX5_countSteps_39 : decode cX5_countSteps 39 = .ok (.goto (-37), 3) := by decide +kernel
theorem dX5_countSteps_42 : decode cX5_countSteps 42 = .ok (.iconst 0, 1) := by decide +kernel
theorem dX5_countSteps_43 : decode cX5_countSteps 43 = .ok (.istore_n 3, 1) := by decide +kernel
theorem dX5_countSteps_44 : decode cX5_countSteps 44 = .ok (.iload_n 3, 1) := by decide +kernel
theorem dX5_countSteps_45 : decode cX5_countSteps 45 = .ok (.bipush 8, 2) := by decide +kernel
theorem dX5_countSteps_47 : decode cX5_countSteps 47 = .ok (.if_icmp .ge 136, 3) := by decide +kernel
theorem dX5_countSteps_50 : decode cX5_countSteps 50 = .ok (.iconst 0, 1) := by decide +kernel
theorem dX5_countSteps_51 : decode cX5_countSteps 51 = .ok (.istore 4, 2) := by decide +kernel
theorem dX5_countSteps_53 : decode cX5_countSteps 53 = .ok (.iload 4, 2) := by decide +kernel
theorem dX5_countSteps_55 : decode cX5_countSteps 55 = .ok (.aload_n 0, 1) := by decide +kernel
theorem dX5_countSteps_56 : decode cX5_countSteps 56 = .ok (.getfield 27, 3) := by decide +kernel
theorem dX5_countSteps_59 : decode cX5_countSteps 59 = .ok (.getfield 287, 3) := by decide +kernel
theorem dX5_countSteps_62 : decode cX5_countSteps 62 = .ok (.if_icmp .ge 115, 3) := by decide +kernel
theorem dX5_countSteps_65 : decode cX5_countSteps 65 = .ok (.aload_n 0, 1) := by decide +kernel
theorem dX5_countSteps_66 : decode cX5_countSteps 66 = .ok (.getfield 27, 3) := by decide +kernel
theorem dX5_countSteps_69 : decode cX5_countSteps 69 = .ok (.iload 4, 2) := by decide +kernel
theorem dX5_countSteps_71 : decode cX5_countSteps 71 = .ok (.iconst 0, 1) := by decide +kernel
theorem dX5_countSteps_72 : decode cX5_countSteps 72 = .ok (.invokevirtual 290, 3) := by decide +kernel
theorem dX5_countSteps_75 : decode cX5_countSteps 75 = .ok (.istore 5, 2) := by decide +kernel
theorem dX5_countSteps_77 : decode cX5_countSteps 77 = .ok (.aload_n 0, 1) := by decide +kernel
theorem dX5_countSteps_78 : decode cX5_countSteps 78 = .ok (.getfield 27, 3) := by decide +kernel
theorem dX5_countSteps_81 : decode cX5_countSteps 81 = .ok (.iload 4, 2) := by decide +kernel
theorem dX5_countSteps_83 : decode cX5_countSteps 83 = .ok (.iconst 1, 1) := by decide +kernel
theorem dX5_countSteps_84 : decode cX5_countSteps 84 = .ok (.invokevirtual 290, 3) := by decide +kernel
theorem dX5_countSteps_87 : decode cX5_countSteps 87 = .ok (.istore 6, 2) := by decide +kernel
theorem dX5_countSteps_89 : decode cX5_countSteps 89 = .ok (.iload_n 2, 1) := by decide +kernel
theorem dX5_countSteps_90 : decode cX5_countSteps 90 = .ok (.iload 5, 2) := by decide +kernel
theorem dX5_countSteps_92 : decode cX5_countSteps 92 = .ok (.invokestatic 203, 3) := by decide +kernel
theorem dX5_countSteps_95 : decode cX5_countSteps 95 = .ok (.ifCond .eq 76, 3) := by decide +kernel
theorem dX5_countSteps_98 : decode cX5_countSteps 98 = .ok (.iload_n 2, 1) := by decide +kernel
theorem dX5_countSteps_99 : decode cX5_countSteps 99 = .ok (.iload 6, 2) := by decide +kernel
theorem dX5_countSteps_101 : decode cX5_countSteps 101 = .ok (.invokestatic 203, 3) := by decide +kernel
theorem dX5_countSteps_104 : decode cX5_countSteps 104 = .ok (.ifCond .eq 67, 3) := by decide +kernel
theorem dX5_countSteps_107 : decode cX5_countSteps 107 = .ok (.aload_n 0, 1) := by decide +kernel
theorem dX5_countSteps_108 : decode cX5_countSteps 108 = .ok (.getfield 60, 3) := by decide +kernel
theorem dX5_countSteps_111 : decode cX5_countSteps 111 = .ok (.iload 5, 2) := by decide +kernel
theorem dX5_countSteps_113 : decode cX5_countSteps 113 = .ok (.aload_n 0, 1) := by decide +kernel
theorem dX5_countSteps_114 : decode cX5_countSteps 114 = .ok (.getfield 60, 3) := by decide +kernel
theorem dX5_countSteps_117 : decode cX5_countSteps 117 = .ok (.iload 5, 2) := by decide +kernel
theorem dX5_countSteps_119 : decode cX5_countSteps 119 = .ok (.invokestatic 212, 3) := by decide +kernel
theorem dX5_countSteps_122 : decode cX5_countSteps 122 = .ok (.aload_n 0, 1) := by decide +kernel
theorem dX5_countSteps_123 : decode cX5_countSteps 123 = .ok (.getfield 60, 3) := by decide +kernel
theorem dX5_countSteps_126 : decode cX5_countSteps 126 = .ok (.iload 6, 2) := by decide +kernel
theorem dX5_countSteps_128 : decode cX5_countSteps 128 = .ok (.invokestatic 212, 3) := by decide +kernel
theorem dX5_countSteps_131 : decode cX5_countSteps 131 = .ok (.iconst 1, 1) := by decide +kernel
theorem dX5_countSteps_132 : decode cX5_countSteps 132 = .ok (.iadd, 1) := by decide +kernel
theorem dX5_countSteps_133 : decode cX5_countSteps 133 = .ok (.invokestatic 215, 3) := by decide +kernel
theorem dX5_countSteps_136 : decode cX5_countSteps 136 = .ok (.invokestatic 76, 3) := by decide +kernel
theorem dX5_countSteps_139 : decode cX5_countSteps 139 = .ok (.aload_n 0, 1) := by decide +kernel
theorem dX5_countSteps_140 : decode cX5_countSteps 140 = .ok (.getfield 60, 3) := by decide +kernel
theorem dX5_countSteps_143 : decode cX5_countSteps 143 = .ok (.iload 6, 2) := by decide +kernel
theorem dX5_countSteps_145 : decode cX5_countSteps 145 = .ok (.aload_n 0, 1) := by decide +kernel
theorem dX5_countSteps_146 : decode cX5_countSteps 146 = .ok (.getfield 60, 3) := by decide +kernel
theorem dX5_countSteps_149 : decode cX5_countSteps 149 = .ok (.iload 6, 2) := by decide +kernel
theorem dX5_countSteps_151 : decode cX5_countSteps 151 = .ok (.invokestatic 212, 3) := by decide +kernel
theorem dX5_countSteps_154 : decode cX5_countSteps 154 = .ok (.aload_n 0, 1) := by decide +kernel
theorem dX5_countSteps_155 : decode cX5_countSteps 155 = .ok (.getfield 60, 3) := by decide +kernel
theorem dX5_countSteps_158 : decode cX5_countSteps 158 = .ok (.iload 5, 2) := by decide +kernel
theorem dX5_countSteps_160 : decode cX5_countSteps 160 = .ok (.invokestatic 212, 3) := by decide +kernel
theorem dX5_countSteps_163 : decode cX5_countSteps 163 = .ok (.iconst 1, 1) := by decide +kernel
theorem dX5_countSteps_164 : decode cX5_countSteps 164 = .ok (.iadd, 1) := by decide +kernel
theorem dX5_countSteps_165 : decode cX5_countSteps 165 = .ok (.invokestatic 215, 3) := by decide +kernel
theorem dX5_countSteps_168 : decode cX5_countSteps 168 = .ok (.invokestatic 76, 3) := by decide +kernel
theorem dX5_countSteps_171 : decode cX5_countSteps 171 = .ok (.iinc 4 1, 3) := by decide +kernel
theorem dX5_countSteps_174 : decode cX5_countSteps 174 = .ok (.goto (-121), 3) := by decide +kernel
theorem dX5_countSteps_177 : decode cX5_countSteps 177 = .ok (.iinc 3 1, 3) := by decide +kernel
theorem dX5_countSteps_180 : decode cX5_countSteps 180 = .ok (.goto (-136), 3) := by decide +kernel
theorem dX5_countSteps_183 : decode cX5_countSteps 183 = .ok (.return_, 1) := by decide +kernel
abbrev rm_X5_countSteps : Room := { frames := 2, cells := 0, slots := 0, locals := 43 }
def f_X5_countSteps_J33 (S : St) (x1 : Int32) (x2 : Int32) (x3 : Int32) (y0 : Int32) (y1 : Int32) : Option ((Int32 × St) ⊕ (St)) :=
  (f_X5_put (ky 0 13) S y1 y0).bind (fun (q3 : St) => some (.inl ((x3 + 1), q3)))
def f_X5_countSteps_J30 (S : St) (x1 : Int32) (x2 : Int32) (x3 : Int32) (y0 : Int32) : Option ((Int32 × St) ⊕ (St)) :=
  f_X5_countSteps_J33  S x1 x2 x3 (1000 : Int32) y0
def f_X5_countSteps_L2 (x1 : Int32) (x2 : Int32) (z2 : Int32 × St) : Option ((Int32 × St) ⊕ (St)) :=
  if (8 : Int32) ≤ z2.1 then (some (.inr z2.2)) else (if z2.1 = x1 then ((f_X5_has   x2 z2.1).bind (fun (q4 : Int32) => if q4 = 0 then (f_X5_countSteps_J30  z2.2 x1 x2 z2.1 z2.1) else (f_X5_countSteps_J33  z2.2 x1 x2 z2.1 (0 : Int32) z2.1))) else (f_X5_countSteps_J30  z2.2 x1 x2 z2.1 z2.1))
def f_X5_countSteps_L53 (x2 : Int32) (x3 : Int32) (z53 : Int32 × St) : Option ((Int32 × St) ⊕ (St)) :=
  chk (isT (st_P z53.2 (ky 0 4))) (if (st_I z53.2 (ky (st_P z53.2 (ky 0 4)) 1)) ≤ z53.1 then (some (.inr z53.2)) else (chk (isT (st_P z53.2 (ky 0 4))) ((f_X4_doorEnd (st_P z53.2 (ky 0 4)) z53.2 z53.1 (0 : Int32)).bind (fun (q11 : Int32) => chk (isT (st_P z53.2 (ky 0 4))) ((f_X4_doorEnd (st_P z53.2 (ky 0 4)) z53.2 z53.1 (1 : Int32)).bind (fun (q13 : Int32) => (f_X5_has   x2 q11).bind (fun (q14 : Int32) => if q14 = 0 then (some (.inl ((z53.1 + 1), z53.2))) else ((f_X5_has   x2 q13).bind (fun (q16 : Int32) => if q16 = 0 then (some (.inl ((z53.1 + 1), z53.2))) else ((f_X5_at (ky 0 13) z53.2 q11).bind (fun (q18 : Int32) => (f_X5_at (ky 0 13) z53.2 q13).bind (fun (q19 : Int32) => (f_X5_put (ky 0 13) z53.2 q11 (i_min q18 (q19 + (1 : Int32)))).bind (fun (q20 : St) => (f_X5_at (ky 0 13) q20 q13).bind (fun (q21 : Int32) => (f_X5_at (ky 0 13) q20 q11).bind (fun (q22 : Int32) => (f_X5_put (ky 0 13) q20 q13 (i_min q21 (q22 + (1 : Int32)))).bind (fun (q23 : St) => some (.inl ((z53.1 + 1), q23))))))))))))))))))
def f_X5_countSteps_L44 (x2 : Int32) (z44 : Int32 × St) : Option ((Int32 × St) ⊕ (St)) :=
  if (8 : Int32) ≤ z44.1 then (some (.inr z44.2)) else ((iter (f_X5_countSteps_L53   x2 z44.1) FU ((0 : Int32), z44.2)).bind (fun (S24 : St) => some (.inl ((z44.1 + 1), S24))))
def f_X5_countSteps (S : St) (x1 : Int32) (x2 : Int32) : Option (St) :=
  (iter (f_X5_countSteps_L2   x1 x2) FU ((0 : Int32), S)).bind (fun (S6 : St) => iter (f_X5_countSteps_L44   x2) FU ((0 : Int32), S6))
set_option maxRecDepth 100000 in
set_option maxHeartbeats 4000000 in
theorem k_X5_countSteps (l : Launch) (g : GG) (hg : gd wd_C g)  (hL : hAll g) (S : St) (x1 : Int32) (x2 : Int32) (q : St) (hf : f_X5_countSteps  S x1 x2 = some q) : Met l yX5_countSteps (Cond.code yX5_countSteps cX5_countSteps 7 none :: gw_tbl) rm_X5_countSteps (va_Pc [.ref (gg_o g 0), .int x1, .int x2] (wI wd_C g S)) (qc_v wd_C g q) 0 0 (aw g) := by
  refine mt_start (own := RX5) hg (by decide) rfl (Nat.le_of_ble_eq_true rfl) (fun p e s m args below meth c ls H locs cx hw hr hlk hl => ?_)
  have hx := cx.1
  have hb := cx.2.1
  have hown := cx.2.2.2.1
  have hts := cx.2.2.2.2.1
  have hl : lv_has ls 7 [(0, .ref (gg_o g 0)), (1, .int x1), (2, .int x2)] := hl
  replace hf := h_top hf
  unfold f_X5_countSteps at hf
  refine lv_iconst (v := 0) hx hb dX5_countSteps_0 (by decide) ?_
  refine lv_istore_n hx hb dX5_countSteps_1 rfl hl (by decide) (lv' := [(3, .int (0 : Int32)), (0, .ref (gg_o g 0)), (1, .int x1), (2, .int x2)]) rfl (fun ls hl => ?_)
  have L2 : ∀ (x1 : Int32) (x2 : Int32) (aft2 : St → Option (St)), (∀ (ls : Array Slot) (H : Heap) (locs : List Loc) (S1 : St), lv_has ls 7 [(0, .ref (gg_o g 0)), (2, .int x2)] → HH wd_C g s S1 H locs → aft2 S1 = some q → W p l e rm_X5_countSteps s m args below meth c H locs 0 0 (MQ below (qc_v wd_C g q) args s 0 0 (aw g)) (F0 m 42 ls [])) → ∀ (n2 : Nat) (ls : Array Slot) (H : Heap) (locs : List Loc) (z2 : Int32 × St), lv_has ls 7 [(0, .ref (gg_o g 0)), (1, .int x1), (2, .int x2), (3, .int z2.1)] → HH wd_C g s z2.2 H locs → (iter (f_X5_countSteps_L2   x1 x2) n2 z2).bind aft2 = some q → W p l e rm_X5_countSteps s m args below meth c H locs 0 0 (MQ below (qc_v wd_C g q) args s 0 0 (aw g)) (F0 m 2 ls []) := by
    intro x1 x2 aft2 hX2 n2
    induction n2 with
    | zero => intro ls H locs z2 hl hw hf; exact h_iter0 hf
    | succ n2 ih2 =>
      intro ls H locs z2 hl hw hf
      replace hf := h_iter hf
      unfold f_X5_countSteps_L2 at hf
      have J33 : ∀ (ls : Array Slot) (H : Heap) (locs : List Loc) (S : St) (x3 : Int32) (y0 : Int32) (y1 : Int32), lv_has ls 7 [(0, .ref (gg_o g 0)), (1, .int x1), (2, .int x2), (3, .int x3)] → HH wd_C g s S H locs → (f_X5_countSteps_J33  S x1 x2 x3 y0 y1).bind (it_K (f_X5_countSteps_L2   x1 x2) n2 aft2) = some q → W p l e rm_X5_countSteps s m args below meth c H locs 0 0 (MQ below (qc_v wd_C g q) args s 0 0 (aw g)) (F0 m 33 ls [.int y0, .int y1, .ref (gg_a g (ky 0 13))]) := by
        intro ls H locs S x3 y0 y1 hl hw hf
        unfold f_X5_countSteps_J33 at hf
        refine r_S_v (As := [.ref (gg_a g (ky 0 13)), .int y1, .int y0]) (rest := []) cx hw hf lk_X5_76 (fun q3 hq => k_X5_put l g hg (ky 0 13) (hL.1.2.2.1 13 rfl) S y1 y0 q3 hq) ⟨⟨rfl, rfl⟩, Nat.le_of_ble_eq_true rfl, Nat.le_of_ble_eq_true rfl⟩ rfl hl.1 rfl (Nat.le_of_ble_eq_true rfl) dX5_countSteps_33 ⟨Nat.zero_le _, Nat.zero_le _⟩ (fun q3 H locs hw hf => ?_)
        refine lv_iinc hx hb dX5_countSteps_36 hl (k := 3) rfl (congrArg (HAdd.hAdd _) (show Int32.ofInt (1) = 1 by decide)) (by decide) (lv' := [(3, .int (x3 + 1)), (0, .ref (gg_o g 0)), (1, .int x1), (2, .int x2)]) rfl (fun ls hl => ?_)
        refine lv_goto hx hb dX5_countSteps_39 (tgt := 2) rfl ?_
        exact ih2 _ _ _ ((x3 + 1), q3) (lv_sub hl [1, 2, 3, 0] rfl) hw hf
      have J30 : ∀ (ls : Array Slot) (H : Heap) (locs : List Loc) (S : St) (x3 : Int32) (y0 : Int32), lv_has ls 7 [(0, .ref (gg_o g 0)), (1, .int x1), (2, .int x2), (3, .int x3)] → HH wd_C g s S H locs → (f_X5_countSteps_J30  S x1 x2 x3 y0).bind (it_K (f_X5_countSteps_L2   x1 x2) n2 aft2) = some q → W p l e rm_X5_countSteps s m args below meth c H locs 0 0 (MQ below (qc_v wd_C g q) args s 0 0 (aw g)) (F0 m 30 ls [.int y0, .ref (gg_a g (ky 0 13))]) := by
        intro ls H locs S x3 y0 hl hw hf
        unfold f_X5_countSteps_J30 at hf
        refine lv_sipush (v := 1000) hx hb dX5_countSteps_30 (by decide) ?_
        exact J33 _ _ _ S x3 (1000 : Int32) y0 (lv_sub hl [0, 1, 2, 3] rfl) hw hf
      refine lv_iload_n hx hb dX5_countSteps_2 rfl (lv_at hl 3 rfl) ?_
      refine lv_bipush (v := 8) hx hb dX5_countSteps_3 (by decide) ?_
      refine lv_icmp_ge hx hb dX5_countSteps_5 (tgt := 42) rfl (fun hc1 => ?_) (fun hc1 => ?_)
      · replace hf := h_pos hc1 hf
        exact hX2 _ _ _ z2.2 (lv_sub hl [0, 2] rfl) hw hf
      replace hf := h_neg hc1 hf
      refine lv_aload_n hx hb dX5_countSteps_8 rfl (lv_at hl 0 rfl) ?_
      refine gf_X5_60 cx hw hL.1 dX5_countSteps_9 ?_
      refine lv_iload_n hx hb dX5_countSteps_12 rfl (lv_at hl 3 rfl) ?_
      refine lv_iload_n hx hb dX5_countSteps_13 rfl (lv_at hl 3 rfl) ?_
      refine lv_iload_n hx hb dX5_countSteps_14 rfl (lv_at hl 1 rfl) ?_
      refine lv_icmp_ne hx hb dX5_countSteps_15 (tgt := 30) rfl (fun hc2 => ?_) (fun hc2 => ?_)
      · replace hf := h_neg hc2 hf
        exact J30 _ _ _ z2.2 z2.1 z2.1 (lv_sub hl [0, 1, 2, 3] rfl) hw hf
      replace hf := h_pos hc2 hf
      refine lv_iload_n hx hb dX5_countSteps_18 rfl (lv_at hl 2 rfl) ?_
      refine lv_iload_n hx hb dX5_countSteps_19 rfl (lv_at hl 3 rfl) ?_
      refine r_S_i (As := [.int x2, .int z2.1]) (rest := [.int z2.1, .ref (gg_a g (ky 0 13))]) cx hw hf lk_X5_203 (fun q4 hq => k_X5_has l g hg   z2.2 x2 z2.1 q4 hq) ⟨⟨rfl, rfl⟩, Nat.le_of_ble_eq_true rfl, Nat.le_of_ble_eq_true rfl⟩ rfl hl.1 rfl (Nat.le_of_ble_eq_true rfl) dX5_countSteps_20 ⟨Nat.zero_le _, Nat.zero_le _⟩ (fun q4 H locs hw hf => ?_)
      refine lv_if_eq hx hb dX5_countSteps_23 (tgt := 30) rfl (fun hc5 => ?_) (fun hc5 => ?_)
      · replace hf := h_pos hc5 hf
        exact J30 _ _ _ z2.2 z2.1 z2.1 (lv_sub hl [0, 1, 2, 3] rfl) hw hf
      replace hf := h_neg hc5 hf
      refine lv_iconst (v := 0) hx hb dX5_countSteps_26 (by decide) ?_
      refine lv_goto hx hb dX5_countSteps_27 (tgt := 33) rfl ?_
      exact J33 _ _ _ z2.2 z2.1 (0 : Int32) z2.1 (lv_sub hl [0, 1, 2, 3] rfl) hw hf
  refine L2 x1 x2 _ (fun ls H locs S6 hl hw hf => ?_) FU _ _ _ ((0 : Int32), S) (lv_sub hl [1, 2, 3, 0] rfl) hw (h_assoc hf)
  try dsimp only at hf
  refine lv_iconst (v := 0) hx hb dX5_countSteps_42 (by decide) ?_
  refine lv_istore_n hx hb dX5_countSteps_43 rfl hl (by decide) (lv' := [(3, .int (0 : Int32)), (0, .ref (gg_o g 0)), (2, .int x2)]) rfl (fun ls hl => ?_)
  have L44 : ∀ (x2 : Int32) (aft44 : St → Option (St)), (∀ v : St, aft44 v = some q → (some v : Option (St)).bind some = some q) → ∀ (n44 : Nat) (ls : Array Slot) (H : Heap) (locs : List Loc) (z44 : Int32 × St), lv_has ls 7 [(0, .ref (gg_o g 0)), (2, .int x2), (3, .int z44.1)] → HH wd_C g s z44.2 H locs → (iter (f_X5_countSteps_L44   x2) n44 z44).bind aft44 = some q → W p l e rm_X5_countSteps s m args below meth c H locs 0 0 (MQ below (qc_v wd_C g q) args s 0 0 (aw g)) (F0 m 44 ls []) := by
    intro x2 aft44 hR44 n44
    induction n44 with
    | zero => intro ls H locs z44 hl hw hf; exact h_iter0 hf
    | succ n44 ih44 =>
      intro ls H locs z44 hl hw hf
      replace hf := h_iter hf
      unfold f_X5_countSteps_L44 at hf
      refine lv_iload_n hx hb dX5_countSteps_44 rfl (lv_at hl 2 rfl) ?_
      refine lv_bipush (v := 8) hx hb dX5_countSteps_45 (by decide) ?_
      refine lv_icmp_ge hx hb dX5_countSteps_47 (tgt := 183) rfl (fun hc7 => ?_) (fun hc7 => ?_)
      · replace hf := h_pos hc7 hf
        replace hf := hR44 z44.2 hf
        exact r_vret cx hw hr hlk hf dX5_countSteps_183
      replace hf := h_neg hc7 hf
      refine lv_iconst (v := 0) hx hb dX5_countSteps_50 (by decide) ?_
      refine lv_istore hx hb dX5_countSteps_51 hl (by decide) (lv' := [(4, .int (0 : Int32)), (0, .ref (gg_o g 0)), (2, .int x2), (3, .int z44.1)]) rfl (fun ls hl => ?_)
      have L53 : ∀ (x2 : Int32) (x3 : Int32) (aft53 : St → Option (St)), (∀ (ls : Array Slot) (H : Heap) (locs : List Loc) (S1 : St), lv_has ls 7 [(0, .ref (gg_o g 0)), (2, .int x2), (3, .int x3)] → HH wd_C g s S1 H locs → aft53 S1 = some q → W p l e rm_X5_countSteps s m args below meth c H locs 0 0 (MQ below (qc_v wd_C g q) args s 0 0 (aw g)) (F0 m 177 ls [])) → ∀ (n53 : Nat) (ls : Array Slot) (H : Heap) (locs : List Loc) (z53 : Int32 × St), lv_has ls 7 [(0, .ref (gg_o g 0)), (2, .int x2), (3, .int x3), (4, .int z53.1)] → HH wd_C g s z53.2 H locs → (iter (f_X5_countSteps_L53   x2 x3) n53 z53).bind aft53 = some q → W p l e rm_X5_countSteps s m args below meth c H locs 0 0 (MQ below (qc_v wd_C g q) args s 0 0 (aw g)) (F0 m 53 ls []) := by
        intro x2 x3 aft53 hX53 n53
        induction n53 with
        | zero => intro ls H locs z53 hl hw hf; exact h_iter0 hf
        | succ n53 ih53 =>
          intro ls H locs z53 hl hw hf
          replace hf := h_iter hf
          unfold f_X5_countSteps_L53 at hf
          refine lv_iload hx hb dX5_countSteps_53 (lv_at hl 3 rfl) ?_
          refine lv_aload_n hx hb dX5_countSteps_55 rfl (lv_at hl 0 rfl) ?_
          obtain ⟨hc8, hf⟩ := h_chk hf
          refine gf_X5_27 cx hw hL.1 dX5_countSteps_56 ?_
          refine gf_X5_287 cx hw ((allT_at hL.2.2.2.2 hc8).1) dX5_countSteps_59 ?_
          refine lv_icmp_ge hx hb dX5_countSteps_62 (tgt := 177) rfl (fun hc9 => ?_) (fun hc9 => ?_)
          · replace hf := h_pos hc9 hf
            exact hX53 _ _ _ z53.2 (lv_sub hl [0, 1, 2] rfl) hw hf
          replace hf := h_neg hc9 hf
          refine lv_aload_n hx hb dX5_countSteps_65 rfl (lv_at hl 0 rfl) ?_
          obtain ⟨hc10, hf⟩ := h_chk hf
          refine gf_X5_27 cx hw hL.1 dX5_countSteps_66 ?_
          refine lv_iload hx hb dX5_countSteps_69 (lv_at hl 3 rfl) ?_
          refine lv_iconst (v := 0) hx hb dX5_countSteps_71 (by decide) ?_
          refine r_VN_i (As := [.int z53.1, .int (0 : Int32)]) (rest := []) cx hw hf (nw_at cx) ((allT_at hL.2.2.2.2 hc10).1).2.1 (by rw [((allT_at hL.2.2.2.2 hc10).1).1]; rfl) lk_X5_290 (fun q11 hq => k_X4_doorEnd l g hg (st_P z53.2 (ky 0 4)) (allT_at hL.2.2.2.2 hc10) z53.2 z53.1 (0 : Int32) q11 hq) ⟨⟨rfl, rfl⟩, Nat.le_of_ble_eq_true rfl, Nat.le_of_ble_eq_true rfl⟩ rfl hl.1 rfl (Nat.le_of_ble_eq_true rfl) dX5_countSteps_72 ⟨Nat.zero_le _, Nat.zero_le _⟩ (fun q11 H locs hw hf => ?_)
          refine lv_istore hx hb dX5_countSteps_75 hl (by decide) (lv' := [(5, .int q11), (0, .ref (gg_o g 0)), (2, .int x2), (3, .int x3), (4, .int z53.1)]) rfl (fun ls hl => ?_)
          refine lv_aload_n hx hb dX5_countSteps_77 rfl (lv_at hl 1 rfl) ?_
          obtain ⟨hc12, hf⟩ := h_chk hf
          refine gf_X5_27 cx hw hL.1 dX5_countSteps_78 ?_
          refine lv_iload hx hb dX5_countSteps_81 (lv_at hl 4 rfl) ?_
          refine lv_iconst (v := 1) hx hb dX5_countSteps_83 (by decide) ?_
          refine r_VN_i (As := [.int z53.1, .int (1 : Int32)]) (rest := []) cx hw hf (nw_at cx) ((allT_at hL.2.2.2.2 hc12).1).2.1 (by rw [((allT_at hL.2.2.2.2 hc12).1).1]; rfl) lk_X5_290 (fun q13 hq => k_X4_doorEnd l g hg (st_P z53.2 (ky 0 4)) (allT_at hL.2.2.2.2 hc12) z53.2 z53.1 (1 : Int32) q13 hq) ⟨⟨rfl, rfl⟩, Nat.le_of_ble_eq_true rfl, Nat.le_of_ble_eq_true rfl⟩ rfl hl.1 rfl (Nat.le_of_ble_eq_true rfl) dX5_countSteps_84 ⟨Nat.zero_le _, Nat.zero_le _⟩ (fun q13 H locs hw hf => ?_)
          refine lv_istore hx hb dX5_countSteps_87 hl (by decide) (lv' := [(6, .int q13), (5, .int q11), (0, .ref (gg_o g 0)), (2, .int x2), (3, .int x3), (4, .int z53.1)]) rfl (fun ls hl => ?_)
          refine lv_iload_n hx hb dX5_countSteps_89 rfl (lv_at hl 3 rfl) ?_
          refine lv_iload hx hb dX5_countSteps_90 (lv_at hl 1 rfl) ?_
          refine r_S_i (As := [.int x2, .int q11]) (rest := []) cx hw hf lk_X5_203 (fun q14 hq => k_X5_has l g hg   z53.2 x2 q11 q14 hq) ⟨⟨rfl, rfl⟩, Nat.le_of_ble_eq_true rfl, Nat.le_of_ble_eq_true rfl⟩ rfl hl.1 rfl (Nat.le_of_ble_eq_true rfl) dX5_countSteps_92 ⟨Nat.zero_le _, Nat.zero_le _⟩ (fun q14 H locs hw hf => ?_)
          refine lv_if_eq hx hb dX5_countSteps_95 (tgt := 171) rfl (fun hc15 => ?_) (fun hc15 => ?_)
          · replace hf := h_pos hc15 hf
            refine lv_iinc hx hb dX5_countSteps_171 hl (k := 5) rfl (congrArg (HAdd.hAdd _) (show Int32.ofInt (1) = 1 by decide)) (by decide) (lv' := [(4, .int (z53.1 + 1)), (6, .int q13), (5, .int q11), (0, .ref (gg_o g 0)), (2, .int x2), (3, .int x3)]) rfl (fun ls hl => ?_)
            refine lv_goto hx hb dX5_countSteps_174 (tgt := 53) rfl ?_
            exact ih53 _ _ _ ((z53.1 + 1), z53.2) (lv_sub hl [3, 4, 5, 0] rfl) hw hf
          replace hf := h_neg hc15 hf
          refine lv_iload_n hx hb dX5_countSteps_98 rfl (lv_at hl 3 rfl) ?_
          refine lv_iload hx hb dX5_countSteps_99 (lv_at hl 0 rfl) ?_
          refine r_S_i (As := [.int x2, .int q13]) (rest := []) cx hw hf lk_X5_203 (fun q16 hq => k_X5_has l g hg   z53.2 x2 q13 q16 hq) ⟨⟨rfl, rfl⟩, Nat.le_of_ble_eq_true rfl, Nat.le_of_ble_eq_true rfl⟩ rfl hl.1 rfl (Nat.le_of_ble_eq_true rfl) dX5_countSteps_101 ⟨Nat.zero_le _, Nat.zero_le _⟩ (fun q16 H locs hw hf => ?_)
          refine lv_if_eq hx hb dX5_countSteps_104 (tgt := 171) rfl (fun hc17 => ?_) (fun hc17 => ?_)
          · replace hf := h_pos hc17 hf
            refine lv_iinc hx hb dX5_countSteps_171 hl (k := 5) rfl (congrArg (HAdd.hAdd _) (show Int32.ofInt (1) = 1 by decide)) (by decide) (lv' := [(4, .int (z53.1 + 1)), (6, .int q13), (5, .int q11), (0, .ref (gg_o g 0)), (2, .int x2), (3, .int x3)]) rfl (fun ls hl => ?_)
            refine lv_goto hx hb dX5_countSteps_174 (tgt := 53) rfl ?_
            exact ih53 _ _ _ ((z53.1 + 1), z53.2) (lv_sub hl [3, 4, 5, 0] rfl) hw hf
          replace hf := h_neg hc17 hf
          refine lv_aload_n hx hb dX5_countSteps_107 rfl (lv_at hl 2 rfl) ?_
          refine gf_X5_60 cx hw hL.1 dX5_countSteps_108 ?_
          refine lv_iload hx hb dX5_countSteps_111 (lv_at hl 1 rfl) ?_
          refine lv_aload_n hx hb dX5_countSteps_113 rfl (lv_at hl 2 rfl) ?_
          refine gf_X5_60 cx hw hL.1 dX5_countSteps_114 ?_
          refine lv_iload hx hb dX5_countSteps_117 (lv_at hl 1 rfl) ?_
          refine r_S_i (As := [.ref (gg_a g (ky 0 13)), .int q11]) (rest := [.int q11, .ref (gg_a g (ky 0 13))]) cx hw hf lk_X5_212 (fun q18 hq => k_X5_at l g hg (ky 0 13) (hL.1.2.2.1 13 rfl) z53.2 q11 q18 hq) ⟨⟨rfl, rfl⟩, Nat.le_of_ble_eq_true rfl, Nat.le_of_ble_eq_true rfl⟩ rfl hl.1 rfl (Nat.le_of_ble_eq_true rfl) dX5_countSteps_119 ⟨Nat.zero_le _, Nat.zero_le _⟩ (fun q18 H locs hw hf => ?_)
          refine lv_aload_n hx hb dX5_countSteps_122 rfl (lv_at hl 2 rfl) ?_
          refine gf_X5_60 cx hw hL.1 dX5_countSteps_123 ?_
          refine lv_iload hx hb dX5_countSteps_126 (lv_at hl 0 rfl) ?_
          refine r_S_i (As := [.ref (gg_a g (ky 0 13)), .int q13]) (rest := [.int q18, .int q11, .ref (gg_a g (ky 0 13))]) cx hw hf lk_X5_212 (fun q19 hq => k_X5_at l g hg (ky 0 13) (hL.1.2.2.1 13 rfl) z53.2 q13 q19 hq) ⟨⟨rfl, rfl⟩, Nat.le_of_ble_eq_true rfl, Nat.le_of_ble_eq_true rfl⟩ rfl hl.1 rfl (Nat.le_of_ble_eq_true rfl) dX5_countSteps_128 ⟨Nat.zero_le _, Nat.zero_le _⟩ (fun q19 H locs hw hf => ?_)
          refine lv_iconst (v := 1) hx hb dX5_countSteps_131 (by decide) ?_
          refine lv_iadd hx hb dX5_countSteps_132 ?_
          refine va_mmin hx hb (cx.2.2.1.trans hl.1.symm) hown (hts _ wd_892) (hts _ wd_344) (hts _ wd_7) (hts _ wd_345) (Nat.le_of_ble_eq_true rfl) (Nat.le_of_ble_eq_true rfl) (Nat.zero_le _) (Nat.zero_le _) dX5_countSteps_133 ?_
          refine r_S_v (As := [.ref (gg_a g (ky 0 13)), .int q11, .int (i_min q18 (q19 + (1 : Int32)))]) (rest := []) cx hw hf lk_X5_76 (fun q20 hq => k_X5_put l g hg (ky 0 13) (hL.1.2.2.1 13 rfl) z53.2 q11 (i_min q18 (q19 + (1 : Int32))) q20 hq) ⟨⟨rfl, rfl⟩, Nat.le_of_ble_eq_true rfl, Nat.le_of_ble_eq_true rfl⟩ rfl hl.1 rfl (Nat.le_of_ble_eq_true rfl) dX5_countSteps_136 ⟨Nat.zero_le _, Nat.zero_le _⟩ (fun q20 H locs hw hf => ?_)
          refine lv_aload_n hx hb dX5_countSteps_139 rfl (lv_at hl 2 rfl) ?_
          refine gf_X5_60 cx hw hL.1 dX5_countSteps_140 ?_
          refine lv_iload hx hb dX5_countSteps_143 (lv_at hl 0 rfl) ?_
          refine lv_aload_n hx hb dX5_countSteps_145 rfl (lv_at hl 2 rfl) ?_
          refine gf_X5_60 cx hw hL.1 dX5_countSteps_146 ?_
          refine lv_iload hx hb dX5_countSteps_149 (lv_at hl 0 rfl) ?_
          refine r_S_i (As := [.ref (gg_a g (ky 0 13)), .int q13]) (rest := [.int q13, .ref (gg_a g (ky 0 13))]) cx hw hf lk_X5_212 (fun q21 hq => k_X5_at l g hg (ky 0 13) (hL.1.2.2.1 13 rfl) q20 q13 q21 hq) ⟨⟨rfl, rfl⟩, Nat.le_of_ble_eq_true rfl, Nat.le_of_ble_eq_true rfl⟩ rfl hl.1 rfl (Nat.le_of_ble_eq_true rfl) dX5_countSteps_151 ⟨Nat.zero_le _, Nat.zero_le _⟩ (fun q21 H locs hw hf => ?_)
          refine lv_aload_n hx hb dX5_countSteps_154 rfl (lv_at hl 2 rfl) ?_
          refine gf_X5_60 cx hw hL.1 dX5_countSteps_155 ?_
          refine lv_iload hx hb dX5_countSteps_158 (lv_at hl 1 rfl) ?_
          refine r_S_i (As := [.ref (gg_a g (ky 0 13)), .int q11]) (rest := [.int q21, .int q13, .ref (gg_a g (ky 0 13))]) cx hw hf lk_X5_212 (fun q22 hq => k_X5_at l g hg (ky 0 13) (hL.1.2.2.1 13 rfl) q20 q11 q22 hq) ⟨⟨rfl, rfl⟩, Nat.le_of_ble_eq_true rfl, Nat.le_of_ble_eq_true rfl⟩ rfl hl.1 rfl (Nat.le_of_ble_eq_true rfl) dX5_countSteps_160 ⟨Nat.zero_le _, Nat.zero_le _⟩ (fun q22 H locs hw hf => ?_)
          refine lv_iconst (v := 1) hx hb dX5_countSteps_163 (by decide) ?_
          refine lv_iadd hx hb dX5_countSteps_164 ?_
          refine va_mmin hx hb (cx.2.2.1.trans hl.1.symm) hown (hts _ wd_892) (hts _ wd_344) (hts _ wd_7) (hts _ wd_345) (Nat.le_of_ble_eq_true rfl) (Nat.le_of_ble_eq_true rfl) (Nat.zero_le _) (Nat.zero_le _) dX5_countSteps_165 ?_
          refine r_S_v (As := [.ref (gg_a g (ky 0 13)), .int q13, .int (i_min q21 (q22 + (1 : Int32)))]) (rest := []) cx hw hf lk_X5_76 (fun q23 hq => k_X5_put l g hg (ky 0 13) (hL.1.2.2.1 13 rfl) q20 q13 (i_min q21 (q22 + (1 : Int32))) q23 hq) ⟨⟨rfl, rfl⟩, Nat.le_of_ble_eq_true rfl, Nat.le_of_ble_eq_true rfl⟩ rfl hl.1 rfl (Nat.le_of_ble_eq_true rfl) dX5_countSteps_168 ⟨Nat.zero_le _, Nat.zero_le _⟩ (fun q23 H locs hw hf => ?_)
          refine lv_iinc hx hb dX5_countSteps_171 hl (k := 5) rfl (congrArg (HAdd.hAdd _) (show Int32.ofInt (1) = 1 by decide)) (by decide) (lv' := [(4, .int (z53.1 + 1)), (6, .int q13), (5, .int q11), (0, .ref (gg_o g 0)), (2, .int x2), (3, .int x3)]) rfl (fun ls hl => ?_)
          refine lv_goto hx hb dX5_countSteps_174 (tgt := 53) rfl ?_
          exact ih53 _ _ _ ((z53.1 + 1), q23) (lv_sub hl [3, 4, 5, 0] rfl) hw hf
      refine L53 x2 z44.1 _ (fun ls H locs S24 hl hw hf => ?_) FU _ _ _ ((0 : Int32), z44.2) (lv_sub hl [1, 2, 3, 0] rfl) hw (h_assoc hf)
      try dsimp only at hf
      refine lv_iinc hx hb dX5_countSteps_177 hl (k := 2) rfl (congrArg (HAdd.hAdd _) (show Int32.ofInt (1) = 1 by decide)) (by decide) (lv' := [(3, .int (z44.1 + 1)), (0, .ref (gg_o g 0)), (2, .int x2)]) rfl (fun ls hl => ?_)
      refine lv_goto hx hb dX5_countSteps_180 (tgt := 44) rfl ?_
      exact ih44 _ _ _ ((z44.1 + 1), S24) (lv_sub hl [1, 2, 0] rfl) hw hf
  exact L44 x2 some (fun v h => h) FU _ _ _ ((0 : Int32), S6) (lv_sub hl [1, 2, 0] rfl) hw hf
theorem dX5_mirrorsInReach_0 : decode cX5_mirrorsInReach 0 = .ok (.iconst 0, 1) := by decide +kernel
theorem dX5_mirrorsInReach_1 : decode cX5_mirrorsInReach 1 = .ok (.istore_n 2, 1) := by decide +kernel
theorem dX5_mirrorsInReach_2 : decode cX5_mirrorsInReach 2 = .ok (.iconst 0, 1) := by decide +kernel
theorem dX5_mirrorsInReach_3 : decode cX5_mirrorsInReach 3 = .ok (.istore_n 3, 1) := by decide +kernel
theorem dX5_mirrorsInReach_4 : decode cX5_mirrorsInReach 4 = .ok (.iload_n 3, 1) := by decide +kernel
theorem dX5_mirrorsInReach_5 : decode cX5_mirrorsInReach 5 = .ok (.aload_n 0, 1) := by decide +kernel
theorem dX5_mirrorsInReach_6 : decode cX5_mirrorsInReach 6 = .ok (.getfield 27, 3) := by decide +kernel
theorem dX5_mirrorsInReach_9 : decode cX5_mirrorsInReach 9 = .ok (.getfield 206, 3) := by decide +kernel
theorem dX5_mirrorsInReach_12 : decode cX5_mirrorsInReach 12 = .ok (.if_icmp .ge 43, 3) := by decide +kernel
theorem dX5_mirrorsInReach_15 : decode cX5_mirrorsInReach 15 = .ok (.aload_n 0, 1) := by decide +kernel
theorem dX5_mirrorsInReach_16 : decode cX5_mirrorsInReach 16 = .ok (.getfield 60, 3) := by decide +kernel
theorem dX5_mirrorsInReach_19 : decode cX5_mirrorsInReach 19 = .ok (.aload_n 0, 1) := by decide +kernel
theorem dX5_mirrorsInReach_20 : decode cX5_mirrorsInReach 20 = .ok (.getfield 43, 3) := by decide +kernel
theorem dX5_mirrorsInReach_23 : decode cX5_mirrorsInReach 23 = .ok (.iload_n 3, 1) := by decide +kernel
theorem dX5_mirrorsInReach_24 : decode cX5_mirrorsInReach 24 = .ok (.iload_n 1, 1) := by decide +kernel
theorem dX5_mirrorsInReach_25 : decode cX5_mirrorsInReach 25 = .ok (.invokevirtual 126, 3) := by decide +kernel
theorem dX5_mirrorsInReach_28 : decode cX5_mirrorsInReach 28 = .ok (.invokestatic 212, 3) := by decide +kernel
theorem dX5_mirrorsInReach_31 : decode cX5_mirrorsInReach 31 = .ok (.iload_n 1, 1) := by decide +kernel
theorem dX5_mirrorsInReach_32 : decode cX5_mirrorsInReach 32 = .ok (.aload_n 0, 1) := by decide +kernel
theorem dX5_mirrorsInReach_33 : decode cX5_mirrorsInReach 33 = .ok (.getfield 39, 3) := by decide +kernel
theorem dX5_mirrorsInReach_36 : decode cX5_mirrorsInReach 36 = .ok (.getfield 147, 3) := by decide +kernel
theorem dX5_mirrorsInReach_39 : decode cX5_mirrorsInReach 39 = .ok (.isub, 1) := by decide +kernel
theorem dX5_mirrorsInReach_40 : decode cX5_mirrorsInReach 40 = .ok (.if_icmp .gt 9, 3) := by decide +kernel
theorem dX5_mirrorsInReach_43 : decode cX5_mirrorsInReach 43 = .ok (.iload_n 2, 1) := by decide +kernel
theorem dX5_mirrorsInReach_44 : decode cX5_mirrorsInReach 44 = .ok (.iconst 1, 1) := by decide +kernel
theorem dX5_mirrorsInReach_45 : decode cX5_mirrorsInReach 45 = .ok (.iload_n 3, 1) := by decide +kernel
theorem dX5_mirrorsInReach_46 : decode cX5_mirrorsInReach 46 = .ok (.ishl, 1) := by decide +kernel
theorem dX5_mirrorsInReach_47 : decode cX5_mirrorsInReach 47 = .ok (.ior, 1) := by decide +kernel
theorem dX5_mirrorsInReach_48 : decode cX5_mirrorsInReach 48 = .ok (.istore_n 2, 1) := by decide +kernel
theorem dX5_mirrorsInReach_49 : decode cX5_mirrorsInReach 49 = .ok (.iinc 3 1, 3) := by decide +kernel
theorem dX5_mirrorsInReach_52 : decode cX5_mirrorsInReach 52 = .ok (.goto (-48), 3) := by decide +kernel
theorem dX5_mirrorsInReach_55 : decode cX5_mirrorsInReach 55 = .ok (.iload_n 2, 1) := by decide +kernel
theorem dX5_mirrorsInReach_56 : decode cX5_mirrorsInReach 56 = .ok (.ireturn, 1) := by decide +kernel
abbrev rm_X5_mirrorsInReach : Room := { frames := 2, cells := 0, slots := 0, locals := 43 }
def f_X5_mirrorsInReach_L4 (S : St) (x1 : Int32) (z4 : Int32 × Int32) : Option ((Int32 × Int32) ⊕ (Int32)) :=
  chk (isT (st_P S (ky 0 4))) (if (st_I S (ky (st_P S (ky 0 4)) 3)) ≤ z4.2 then (some (.inr z4.1)) else ((f_X0_hangOf 11 S z4.2 x1).bind (fun (q3 : Int32) => (f_X5_at (ky 0 13) S q3).bind (fun (q4 : Int32) => if (x1 - (st_I S (ky 10 1))) < q4 then (some (.inl (z4.1, (z4.2 + 1)))) else (lt_v (z4.1 ||| ((1 : Int32) <<< (z4.2 &&& 31))) (fun (u6 : Int32) => some (.inl (u6, (z4.2 + 1)))))))))
def f_X5_mirrorsInReach (S : St) (x1 : Int32) : Option (Int32) :=
  iter (f_X5_mirrorsInReach_L4  S x1) FU ((0 : Int32), (0 : Int32))
set_option maxRecDepth 100000 in
set_option maxHeartbeats 4000000 in
theorem k_X5_mirrorsInReach (l : Launch) (g : GG) (hg : gd wd_C g)  (hL : hAll g) (S : St) (x1 : Int32) (q : Int32) (hf : f_X5_mirrorsInReach  S x1 = some q) : Met l yX5_mirrorsInReach (Cond.code yX5_mirrorsInReach cX5_mirrorsInReach 4 (some .int) :: gw_tbl) rm_X5_mirrorsInReach (va_Pc [.ref (gg_o g 0), .int x1] (wI wd_C g S)) (qc_i wd_C g S q) 0 0 (aw g) := by
  refine mt_start (own := RX5) hg (by decide) rfl (Nat.le_of_ble_eq_true rfl) (fun p e s m args below meth c ls H locs cx hw hr hlk hl => ?_)
  have hx := cx.1
  have hb := cx.2.1
  have hown := cx.2.2.2.1
  have hts := cx.2.2.2.2.1
  have hl : lv_has ls 4 [(0, .ref (gg_o g 0)), (1, .int x1)] := hl
  replace hf := h_top hf
  unfold f_X5_mirrorsInReach at hf
  refine lv_iconst (v := 0) hx hb dX5_mirrorsInReach_0 (by decide) ?_
  refine lv_istore_n hx hb dX5_mirrorsInReach_1 rfl hl (by decide) (lv' := [(2, .int (0 : Int32)), (0, .ref (gg_o g 0)), (1, .int x1)]) rfl (fun ls hl => ?_)
  refine lv_iconst (v := 0) hx hb dX5_mirrorsInReach_2 (by decide) ?_
  refine lv_istore_n hx hb dX5_mirrorsInReach_3 rfl hl (by decide) (lv' := [(3, .int (0 : Int32)), (2, .int (0 : Int32)), (0, .ref (gg_o g 0)), (1, .int x1)]) rfl (fun ls hl => ?_)
  have L4 : ∀ (x1 : Int32) (aft4 : Int32 → Option (Int32)), (∀ v : Int32, aft4 v = some q → (some v : Option (Int32)).bind some = some q) → ∀ (n4 : Nat) (ls : Array Slot) (H : Heap) (locs : List Loc) (z4 : Int32 × Int32), lv_has ls 4 [(0, .ref (gg_o g 0)), (1, .int x1), (2, .int z4.1), (3, .int z4.2)] → HH wd_C g s S H locs → (iter (f_X5_mirrorsInReach_L4  S x1) n4 z4).bind aft4 = some q → W p l e rm_X5_mirrorsInReach s m args below meth c H locs 0 0 (MQ below (qc_i wd_C g S q) args s 0 0 (aw g)) (F0 m 4 ls []) := by
    intro x1 aft4 hR4 n4
    induction n4 with
    | zero => intro ls H locs z4 hl hw hf; exact h_iter0 hf
    | succ n4 ih4 =>
      intro ls H locs z4 hl hw hf
      replace hf := h_iter hf
      unfold f_X5_mirrorsInReach_L4 at hf
      refine lv_iload_n hx hb dX5_mirrorsInReach_4 rfl (lv_at hl 3 rfl) ?_
      refine lv_aload_n hx hb dX5_mirrorsInReach_5 rfl (lv_at hl 0 rfl) ?_
      obtain ⟨hc1, hf⟩ := h_chk hf
      refine gf_X5_27 cx hw hL.1 dX5_mirrorsInReach_6 ?_
      refine gf_X5_206 cx hw ((allT_at hL.2.2.2.2 hc1).1) dX5_mirrorsInReach_9 ?_
      refine lv_icmp_ge hx hb dX5_mirrorsInReach_12 (tgt := 55) rfl (fun hc2 => ?_) (fun hc2 => ?_)
      · replace hf := h_pos hc2 hf
        refine lv_iload_n hx hb dX5_mirrorsInReach_55 rfl (lv_at hl 2 rfl) ?_
        replace hf := hR4 z4.1 hf
        exact r_iret cx hw hr hlk hf dX5_mirrorsInReach_56
      replace hf := h_neg hc2 hf
      refine lv_aload_n hx hb dX5_mirrorsInReach_15 rfl (lv_at hl 0 rfl) ?_
      refine gf_X5_60 cx hw hL.1 dX5_mirrorsInReach_16 ?_
      refine lv_aload_n hx hb dX5_mirrorsInReach_19 rfl (lv_at hl 0 rfl) ?_
      refine gf_X5_43 cx hw hL.1 dX5_mirrorsInReach_20 ?_
      refine lv_iload_n hx hb dX5_mirrorsInReach_23 rfl (lv_at hl 3 rfl) ?_
      refine lv_iload_n hx hb dX5_mirrorsInReach_24 rfl (lv_at hl 1 rfl) ?_
      refine r_VN_i (As := [.int z4.2, .int x1]) (rest := [.ref (gg_a g (ky 0 13))]) cx hw hf (nw_at cx) (hL.2.2.2.1 1 (by decide)).2.1 (by rw [(hL.2.2.2.1 1 (by decide)).1]; rfl) lk_X5_126 (fun q3 hq => k_X0_hangOf l g hg 11 (hL.2.2.2.1 1 (by decide)) hL.2.2.2.2 S z4.2 x1 q3 hq) ⟨⟨rfl, rfl⟩, Nat.le_of_ble_eq_true rfl, Nat.le_of_ble_eq_true rfl⟩ rfl hl.1 rfl (Nat.le_of_ble_eq_true rfl) dX5_mirrorsInReach_25 ⟨Nat.zero_le _, Nat.zero_le _⟩ (fun q3 H locs hw hf => ?_)
      refine r_S_i (As := [.ref (gg_a g (ky 0 13)), .int q3]) (rest := []) cx hw hf lk_X5_212 (fun q4 hq => k_X5_at l g hg (ky 0 13) (hL.1.2.2.1 13 rfl) S q3 q4 hq) ⟨⟨rfl, rfl⟩, Nat.le_of_ble_eq_true rfl, Nat.le_of_ble_eq_true rfl⟩ rfl hl.1 rfl (Nat.le_of_ble_eq_true rfl) dX5_mirrorsInReach_28 ⟨Nat.zero_le _, Nat.zero_le _⟩ (fun q4 H locs hw hf => ?_)
      refine lv_iload_n hx hb dX5_mirrorsInReach_31 rfl (lv_at hl 1 rfl) ?_
      refine lv_aload_n hx hb dX5_mirrorsInReach_32 rfl (lv_at hl 0 rfl) ?_
      refine gf_X5_39 cx hw hL.1 dX5_mirrorsInReach_33 ?_
      refine gf_X5_147 cx hw (hL.2.2.2.1 0 (by decide)) dX5_mirrorsInReach_36 ?_
      refine lv_isub hx hb dX5_mirrorsInReach_39 ?_
      refine lv_icmp_gt hx hb dX5_mirrorsInReach_40 (tgt := 49) rfl (fun hc5 => ?_) (fun hc5 => ?_)
      · replace hf := h_pos hc5 hf
        refine lv_iinc hx hb dX5_mirrorsInReach_49 hl (k := 3) rfl (congrArg (HAdd.hAdd _) (show Int32.ofInt (1) = 1 by decide)) (by decide) (lv' := [(3, .int (z4.2 + 1)), (0, .ref (gg_o g 0)), (1, .int x1), (2, .int z4.1)]) rfl (fun ls hl => ?_)
        refine lv_goto hx hb dX5_mirrorsInReach_52 (tgt := 4) rfl ?_
        exact ih4 _ _ _ (z4.1, (z4.2 + 1)) (lv_sub hl [1, 2, 3, 0] rfl) hw hf
      replace hf := h_neg hc5 hf
      refine lv_iload_n hx hb dX5_mirrorsInReach_43 rfl (lv_at hl 2 rfl) ?_
      refine lv_iconst (v := 1) hx hb dX5_mirrorsInReach_44 (by decide) ?_
      refine lv_iload_n hx hb dX5_mirrorsInReach_45 rfl (lv_at hl 3 rfl) ?_
      refine lv_ishl hx hb dX5_mirrorsInReach_46 ?_
      refine lv_ior hx hb dX5_mirrorsInReach_47 ?_
      refine r_leti hf (fun u6 hf => ?_)
      refine lv_istore_n hx hb dX5_mirrorsInReach_48 rfl hl (by decide) (lv' := [(2, .int u6), (0, .ref (gg_o g 0)), (1, .int x1), (3, .int z4.2)]) rfl (fun ls hl => ?_)
      refine lv_iinc hx hb dX5_mirrorsInReach_49 hl (k := 3) rfl (congrArg (HAdd.hAdd _) (show Int32.ofInt (1) = 1 by decide)) (by decide) (lv' := [(3, .int (z4.2 + 1)), (2, .int u6), (0, .ref (gg_o g 0)), (1, .int x1)]) rfl (fun ls hl => ?_)
      refine lv_goto hx hb dX5_mirrorsInReach_52 (tgt := 4) rfl ?_
      exact ih4 _ _ _ (u6, (z4.2 + 1)) (lv_sub hl [2, 3, 1, 0] rfl) hw hf
  exact L4 x1 some (fun v h => h) FU _ _ _ ((0 : Int32), (0 : Int32)) (lv_sub hl [2, 3, 1, 0] rfl) hw hf
theorem dX5_view_0 : decode cX5_view 0 = .ok (.aload_n 0, 1) := by decide +kernel
theorem dX5_view_1 : decode cX5_view 1 = .ok (.iload_n 1, 1) := by decide +kernel
theorem dX5_view_2 : decode cX5_view 2 = .ok (.invokevirtual 105, 3) := by decide +kernel
theorem dX5_view_5 : decode cX5_view 5 = .ok (.ifCond .eq 28, 3) := by decide +kernel
theorem dX5_view_8 : decode cX5_view 8 = .ok (.aload_n 0, 1) := by decide +kernel
theorem dX5_view_9 : decode cX5_view 9 = .ok (.iload_n 2, 1) := by decide +kernel
theorem dX5_view_10 : decode cX5_view 10 = .ok (.invokevirtual 170, 3) := by decide +kernel
theorem dX5_view_13 : decode cX5_view 13 = .ok (.ifCond .eq 20, 3) := by decide +kernel
theorem dX5_view_16 : decode cX5_view 16 = .ok (.aload_n 0, 1) := by decide +kernel
theorem dX5_view_17 : decode cX5_view 17 = .ok (.iload_n 3, 1) := by decide +kernel
theorem dX5_view_18 : decode cX5_view 18 = .ok (.invokevirtual 109, 3) := by decide +kernel
theorem dX5_view_21 : decode cX5_view 21 = .ok (.ifCond .eq 12, 3) := by decide +kernel
theorem dX5_view_24 : decode cX5_view 24 = .ok (.iload 4, 2) := by decide +kernel
theorem dX5_view_26 : decode cX5_view 26 = .ok (.iconst 2, 1) := by decide +kernel
theorem dX5_view_27 : decode cX5_view 27 = .ok (.invokestatic 112, 3) := by decide +kernel
theorem dX5_view_30 : decode cX5_view 30 = .ok (.ifCond .ne 5, 3) := by decide +kernel
theorem dX5_view_33 : decode cX5_view 33 = .ok (.iconst (-1), 1) := by decide +kernel
theorem dX5_view_34 : decode cX5_view 34 = .ok (.ireturn, 1) := by decide +kernel
theorem dX5_view_35 : decode cX5_view 35 = .ok (.aload_n 0, 1) := by decide +kernel
theorem dX5_view_36 : decode cX5_view 36 = .ok (.sipush 299, 3) := by decide +kernel
theorem dX5_view_39 : decode cX5_view 39 = .ok (.invokevirtual 249, 3) := by decide +kernel
theorem dX5_view_42 : decode cX5_view 42 = .ok (.aload_n 0, 1) := by decide +kernel
theorem dX5_view_43 : decode cX5_view 43 = .ok (.aload_n 0, 1) := by decide +kernel
theorem dX5_view_44 : decode cX5_view 44 = .ok (.getfield 39, 3) := by decide +kernel
theorem dX5_view_47 : decode cX5_view 47 = .ok (.iload_n 1, 1) := by decide +kernel
theorem dX5_view_48 : decode cX5_view 48 = .ok (.aload_n 0, 1) := by decide +kernel
theorem dX5_view_49 : decode cX5_view 49 = .ok (.getfield 39, 3) := by decide +kernel
theorem dX5_view_52 : decode cX5_view 52 = .ok (.getfield 147, 3) := by decide +kernel
theorem dX5_view_55 : decode cX5_view 55 = .ok (.invokevirtual 116, 3) := by decide +kernel
theorem dX5_view_58 : decode cX5_view 58 = .ok (.sipush 255, 3) := by decide +kernel
theorem dX5_view_61 : decode cX5_view 61 = .ok (.invokevirtual 258, 3) := by decide +kernel
theorem dX5_view_64 : decode cX5_view 64 = .ok (.aload_n 0, 1) := by decide +kernel
theorem dX5_view_65 : decode cX5_view 65 = .ok (.getfield 39, 3) := by decide +kernel
theorem dX5_view_68 : decode cX5_view 68 = .ok (.getfield 147, 3) := by decide +kernel
theorem dX5_view_71 : decode cX5_view 71 = .ok (.istore 5, 2) := by decide +kernel
theorem dX5_view_73 : decode cX5_view 73 = .ok (.iload 5, 2) := by decide +kernel
theorem dX5_view_75 : decode cX5_view 75 = .ok (.sipush 299, 3) := by decide +kernel
theorem dX5_view_78 : decode cX5_view 78 = .ok (.if_icmp .gt 47, 3) := by decide +kernel
theorem dX5_view_81 : decode cX5_view 81 = .ok (.aload_n 0, 1) := by decide +kernel
theorem dX5_view_82 : decode cX5_view 82 = .ok (.iload_n 2, 1) := by decide +kernel
theorem dX5_view_83 : decode cX5_view 83 = .ok (.iload_n 3, 1) := by decide +kernel
theorem dX5_view_84 : decode cX5_view 84 = .ok (.iload 5, 2) := by decide +kernel
theorem dX5_view_86 : decode cX5_view 86 = .ok (.invokevirtual 252, 3) := by decide +kernel
theorem dX5_view_89 : decode cX5_view 89 = .ok (.aload_n 0, 1) := by decide +kernel
theorem dX5_view_90 : decode cX5_view 90 = .ok (.iload 5, 2) := by decide +kernel
theorem dX5_view_92 : decode cX5_view 92 = .ok (.invokevirtual 261, 3) := by decide +kernel
theorem dX5_view_95 : decode cX5_view 95 = .ok (.iand, 1) := by decide +kernel
theorem dX5_view_96 : decode cX5_view 96 = .ok (.istore 6, 2) := by decide +kernel
theorem dX5_view_98 : decode cX5_view 98 = .ok (.iload 6, 2) := by decide +kernel
theorem dX5_view_100 : decode cX5_view 100 = .ok (.ifCond .eq 19, 3) := by decide +kernel
theorem dX5_view_103 : decode cX5_view 103 = .ok (.iload 4, 2) := by decide +kernel
theorem dX5_view_105 : decode cX5_view 105 = .ok (.ifCond .ne 8, 3) := by decide +kernel
theorem dX5_view_108 : decode cX5_view 108 = .ok (.iload 5, 2) := by decide +kernel
theorem dX5_view_110 : decode cX5_view 110 = .ok (.goto 8, 3) := by decide +kernel
theorem dX5_view_113 : decode cX5_view 113 = .ok (.iload 6, 2) := by decide +kernel
theorem dX5_view_115 : decode cX5_view 115 = .ok (.invokestatic 255, 3) := by decide +kernel
theorem dX5_view_118 : decode cX5_view 118 = .ok (.ireturn, 1) := by decide +kernel
theorem dX5_view_119 : decode cX5_view 119 = .ok (.iinc 5 1, 3) := by decide +kernel
theorem dX5_view_122 : decode cX5_view 122 = .ok (.goto (-49), 3) := by decide +kernel
theorem dX5_view_125 : decode cX5_view 125 = .ok (.bipush (-2), 2) := by decide +kernel
theorem dX5_view_127 : decode cX5_view 127 = .ok (.ireturn, 1) := by decide +kernel
abbrev rm_X5_view : Room := { frames := 6, cells := 0, slots := 0, locals := 211 }
def f_X5_view_L73 (S : St) (x2 : Int32) (x3 : Int32) (x4 : Int32) (z73 : Int32) : Option ((Int32) ⊕ ((Int32 × Int32) ⊕ (Int32 × St))) :=
  if (299 : Int32) < z73 then (some (.inr (.inr ((-2 : Int32), S)))) else ((f_X5_showersOf  S x2 x3 z73).bind (fun (q13 : Int32) => (f_X5_mirrorsInReach  S z73).bind (fun (q14 : Int32) => if (q13 &&& q14) = 0 then (some (.inl (z73 + 1))) else (some (.inr (.inl (z73, (q13 &&& q14))))))))
def f_X5_view (S : St) (x1 : Int32) (x2 : Int32) (x3 : Int32) (x4 : Int32) : Option (Int32 × St) :=
  (f_X5_isMan  S x1).bind (fun (q1 : Int32) => if q1 = 0 then (some ((-1 : Int32), S)) else ((f_X5_isRoom  S x2).bind (fun (q3 : Int32) => if q3 = 0 then (some ((-1 : Int32), S)) else ((f_X5_isPast  S x3).bind (fun (q5 : Int32) => if q5 = 0 then (some ((-1 : Int32), S)) else ((f_X5_within   x4 (2 : Int32)).bind (fun (q7 : Int32) => if q7 = 0 then (some ((-1 : Int32), S)) else ((f_X5_forecast  S (299 : Int32)).bind (fun (q9 : St) => (f_X0_roomOf 10 q9 x1 (st_I q9 (ky 10 1))).bind (fun (q10 : Int32) => (f_X5_countSteps  q9 q10 (255 : Int32)).bind (fun (q11 : St) => (iter (f_X5_view_L73  q11 x2 x3 x4) FU (st_I q11 (ky 10 1))).bind fun z => match z with | .inl z => (fun (u20 : Int32 × Int32) => (fun (e16 : Int32) (e17 : Int32) => if x4 = 0 then (some (e16, q11)) else ((f_X5_firstOf   e17).bind (fun (q19 : Int32) => some (q19, q11)))) u20.1 u20.2) z | .inr v21 => some v21)))))))))))
set_option maxRecDepth 100000 in
set_option maxHeartbeats 4000000 in
theorem k_X5_view (l : Launch) (g : GG) (hg : gd wd_C g)  (hL : hAll g) (S : St) (x1 : Int32) (x2 : Int32) (x3 : Int32) (x4 : Int32) (q : Int32 × St) (hf : f_X5_view  S x1 x2 x3 x4 = some q) : Met l yX5_view (Cond.code yX5_view cX5_view 7 (some .int) :: gw_tbl) rm_X5_view (va_Pc [.ref (gg_o g 0), .int x1, .int x2, .int x3, .int x4] (wI wd_C g S)) (qc_w wd_C g q) 0 0 (aw g) := by
  refine mt_start (own := RX5) hg (by decide) rfl (Nat.le_of_ble_eq_true rfl) (fun p e s m args below meth c ls H locs cx hw hr hlk hl => ?_)
  have hx := cx.1
  have hb := cx.2.1
  have hown := cx.2.2.2.1
  have hts := cx.2.2.2.2.1
  have hl : lv_has ls 7 [(0, .ref (gg_o g 0)), (1, .int x1), (2, .int x2), (3, .int x3), (4, .int x4)] := hl
  replace hf := h_top hf
  unfold f_X5_view at hf
  refine lv_aload_n hx hb dX5_view_0 rfl (lv_at hl 0 rfl) ?_
  refine lv_iload_n hx hb dX5_view_1 rfl (lv_at hl 1 rfl) ?_
  refine r_V_i (As := [.int x1]) (rest := []) cx hw hf hL.1.2.1 (by rw [hL.1.1]; rfl) lk_X5_105 (fun q1 hq => k_X5_isMan l g hg  hL S x1 q1 hq) ⟨⟨rfl, rfl⟩, Nat.le_of_ble_eq_true rfl, Nat.le_of_ble_eq_true rfl⟩ rfl hl.1 rfl (Nat.le_of_ble_eq_true rfl) dX5_view_2 ⟨Nat.zero_le _, Nat.zero_le _⟩ (fun q1 H locs hw hf => ?_)
  refine lv_if_eq hx hb dX5_view_5 (tgt := 33) rfl (fun hc2 => ?_) (fun hc2 => ?_)
  · replace hf := h_pos hc2 hf
    refine lv_iconst (v := -1) hx hb dX5_view_33 (by decide) ?_
    exact r_iretw cx hw hr hlk hf dX5_view_34
  replace hf := h_neg hc2 hf
  refine lv_aload_n hx hb dX5_view_8 rfl (lv_at hl 0 rfl) ?_
  refine lv_iload_n hx hb dX5_view_9 rfl (lv_at hl 2 rfl) ?_
  refine r_V_i (As := [.int x2]) (rest := []) cx hw hf hL.1.2.1 (by rw [hL.1.1]; rfl) lk_X5_170 (fun q3 hq => k_X5_isRoom l g hg  hL S x2 q3 hq) ⟨⟨rfl, rfl⟩, Nat.le_of_ble_eq_true rfl, Nat.le_of_ble_eq_true rfl⟩ rfl hl.1 rfl (Nat.le_of_ble_eq_true rfl) dX5_view_10 ⟨Nat.zero_le _, Nat.zero_le _⟩ (fun q3 H locs hw hf => ?_)
  refine lv_if_eq hx hb dX5_view_13 (tgt := 33) rfl (fun hc4 => ?_) (fun hc4 => ?_)
  · replace hf := h_pos hc4 hf
    refine lv_iconst (v := -1) hx hb dX5_view_33 (by decide) ?_
    exact r_iretw cx hw hr hlk hf dX5_view_34
  replace hf := h_neg hc4 hf
  refine lv_aload_n hx hb dX5_view_16 rfl (lv_at hl 0 rfl) ?_
  refine lv_iload_n hx hb dX5_view_17 rfl (lv_at hl 3 rfl) ?_
  refine r_V_i (As := [.int x3]) (rest := []) cx hw hf hL.1.2.1 (by rw [hL.1.1]; rfl) lk_X5_109 (fun q5 hq => k_X5_isPast l g hg  hL S x3 q5 hq) ⟨⟨rfl, rfl⟩, Nat.le_of_ble_eq_true rfl, Nat.le_of_ble_eq_true rfl⟩ rfl hl.1 rfl (Nat.le_of_ble_eq_true rfl) dX5_view_18 ⟨Nat.zero_le _, Nat.zero_le _⟩ (fun q5 H locs hw hf => ?_)
  refine lv_if_eq hx hb dX5_view_21 (tgt := 33) rfl (fun hc6 => ?_) (fun hc6 => ?_)
  · replace hf := h_pos hc6 hf
    refine lv_iconst (v := -1) hx hb dX5_view_33 (by decide) ?_
    exact r_iretw cx hw hr hlk hf dX5_view_34
  replace hf := h_neg hc6 hf
  refine lv_iload hx hb dX5_view_24 (lv_at hl 4 rfl) ?_
  refine lv_iconst (v := 2) hx hb dX5_view_26 (by decide) ?_
  refine r_S_i (As := [.int x4, .int (2 : Int32)]) (rest := []) cx hw hf lk_X5_112 (fun q7 hq => k_X5_within l g hg   S x4 (2 : Int32) q7 hq) ⟨⟨rfl, rfl⟩, Nat.le_of_ble_eq_true rfl, Nat.le_of_ble_eq_true rfl⟩ rfl hl.1 rfl (Nat.le_of_ble_eq_true rfl) dX5_view_27 ⟨Nat.zero_le _, Nat.zero_le _⟩ (fun q7 H locs hw hf => ?_)
  refine lv_if_ne hx hb dX5_view_30 (tgt := 35) rfl (fun hc8 => ?_) (fun hc8 => ?_)
  · replace hf := h_neg hc8 hf
    refine lv_aload_n hx hb dX5_view_35 rfl (lv_at hl 0 rfl) ?_
    refine lv_sipush (v := 299) hx hb dX5_view_36 (by decide) ?_
    refine r_V_v (As := [.int (299 : Int32)]) (rest := []) cx hw hf hL.1.2.1 (by rw [hL.1.1]; rfl) lk_X5_249 (fun q9 hq => k_X5_forecast l g hg  hL S (299 : Int32) q9 hq) ⟨⟨rfl, rfl⟩, Nat.le_of_ble_eq_true rfl, Nat.le_of_ble_eq_true rfl⟩ rfl hl.1 rfl (Nat.le_of_ble_eq_true rfl) dX5_view_39 ⟨Nat.zero_le _, Nat.zero_le _⟩ (fun q9 H locs hw hf => ?_)
    refine lv_aload_n hx hb dX5_view_42 rfl (lv_at hl 0 rfl) ?_
    refine lv_aload_n hx hb dX5_view_43 rfl (lv_at hl 0 rfl) ?_
    refine gf_X5_39 cx hw hL.1 dX5_view_44 ?_
    refine lv_iload_n hx hb dX5_view_47 rfl (lv_at hl 1 rfl) ?_
    refine lv_aload_n hx hb dX5_view_48 rfl (lv_at hl 0 rfl) ?_
    refine gf_X5_39 cx hw hL.1 dX5_view_49 ?_
    refine gf_X5_147 cx hw (hL.2.2.2.1 0 (by decide)) dX5_view_52 ?_
    refine r_VN_i (As := [.int x1, .int (st_I q9 (ky 10 1))]) (rest := [.ref (gg_o g 0)]) cx hw hf (nw_at cx) (hL.2.2.2.1 0 (by decide)).2.1 (by rw [(hL.2.2.2.1 0 (by decide)).1]; rfl) lk_X5_116 (fun q10 hq => k_X0_roomOf l g hg 10 (hL.2.2.2.1 0 (by decide)) hL.2.2.2.2 q9 x1 (st_I q9 (ky 10 1)) q10 hq) ⟨⟨rfl, rfl⟩, Nat.le_of_ble_eq_true rfl, Nat.le_of_ble_eq_true rfl⟩ rfl hl.1 rfl (Nat.le_of_ble_eq_true rfl) dX5_view_55 ⟨Nat.zero_le _, Nat.zero_le _⟩ (fun q10 H locs hw hf => ?_)
    refine lv_sipush (v := 255) hx hb dX5_view_58 (by decide) ?_
    refine r_V_v (As := [.int q10, .int (255 : Int32)]) (rest := []) cx hw hf hL.1.2.1 (by rw [hL.1.1]; rfl) lk_X5_258 (fun q11 hq => k_X5_countSteps l g hg  hL q9 q10 (255 : Int32) q11 hq) ⟨⟨rfl, rfl⟩, Nat.le_of_ble_eq_true rfl, Nat.le_of_ble_eq_true rfl⟩ rfl hl.1 rfl (Nat.le_of_ble_eq_true rfl) dX5_view_61 ⟨Nat.zero_le _, Nat.zero_le _⟩ (fun q11 H locs hw hf => ?_)
    refine lv_aload_n hx hb dX5_view_64 rfl (lv_at hl 0 rfl) ?_
    refine gf_X5_39 cx hw hL.1 dX5_view_65 ?_
    refine gf_X5_147 cx hw (hL.2.2.2.1 0 (by decide)) dX5_view_68 ?_
    refine lv_istore hx hb dX5_view_71 hl (by decide) (lv' := [(5, .int (st_I q11 (ky 10 1))), (0, .ref (gg_o g 0)), (1, .int x1), (2, .int x2), (3, .int x3), (4, .int x4)]) rfl (fun ls hl => ?_)
    have L73 : ∀ (S : St) (x2 : Int32) (x3 : Int32) (x4 : Int32) (aft73 : ((Int32 × Int32) ⊕ (Int32 × St)) → Option (Int32 × St)), (∀ (ls : Array Slot) (H : Heap) (locs : List Loc) (e5 : Int32) (e6 : Int32), lv_has ls 7 [(4, .int x4), (5, .int e5), (6, .int e6)] → HH wd_C g s S H locs → aft73 (.inl (e5, e6)) = some q → W p l e rm_X5_view s m args below meth c H locs 0 0 (MQ below (qc_w wd_C g q) args s 0 0 (aw g)) (F0 m 103 ls [])) → (∀ v : Int32 × St, aft73 (.inr v) = some q → (some v : Option (Int32 × St)).bind some = some q) → ∀ (n73 : Nat) (ls : Array Slot) (H : Heap) (locs : List Loc) (z73 : Int32), lv_has ls 7 [(0, .ref (gg_o g 0)), (2, .int x2), (3, .int x3), (4, .int x4), (5, .int z73)] → HH wd_C g s S H locs → (iter (f_X5_view_L73  S x2 x3 x4) n73 z73).bind aft73 = some q → W p l e rm_X5_view s m args below meth c H locs 0 0 (MQ below (qc_w wd_C g q) args s 0 0 (aw g)) (F0 m 73 ls []) := by
      intro S x2 x3 x4 aft73 hX73 hR73 n73
      induction n73 with
      | zero => intro ls H locs z73 hl hw hf; exact h_iter0 hf
      | succ n73 ih73 =>
        intro ls H locs z73 hl hw hf
        replace hf := h_iter hf
        unfold f_X5_view_L73 at hf
        refine lv_iload hx hb dX5_view_73 (lv_at hl 4 rfl) ?_
        refine lv_sipush (v := 299) hx hb dX5_view_75 (by decide) ?_
        refine lv_icmp_gt hx hb dX5_view_78 (tgt := 125) rfl (fun hc12 => ?_) (fun hc12 => ?_)
        · replace hf := h_pos hc12 hf
          refine lv_bipush (v := -2) hx hb dX5_view_125 (by decide) ?_
          replace hf := hR73 ((-2 : Int32), S) hf
          exact r_iretw cx hw hr hlk hf dX5_view_127
        replace hf := h_neg hc12 hf
        refine lv_aload_n hx hb dX5_view_81 rfl (lv_at hl 0 rfl) ?_
        refine lv_iload_n hx hb dX5_view_82 rfl (lv_at hl 1 rfl) ?_
        refine lv_iload_n hx hb dX5_view_83 rfl (lv_at hl 2 rfl) ?_
        refine lv_iload hx hb dX5_view_84 (lv_at hl 4 rfl) ?_
        refine r_V_i (As := [.int x2, .int x3, .int z73]) (rest := []) cx hw hf hL.1.2.1 (by rw [hL.1.1]; rfl) lk_X5_252 (fun q13 hq => k_X5_showersOf l g hg  hL S x2 x3 z73 q13 hq) ⟨⟨rfl, rfl⟩, Nat.le_of_ble_eq_true rfl, Nat.le_of_ble_eq_true rfl⟩ rfl hl.1 rfl (Nat.le_of_ble_eq_true rfl) dX5_view_86 ⟨Nat.zero_le _, Nat.zero_le _⟩ (fun q13 H locs hw hf => ?_)
        refine lv_aload_n hx hb dX5_view_89 rfl (lv_at hl 0 rfl) ?_
        refine lv_iload hx hb dX5_view_90 (lv_at hl 4 rfl) ?_
        refine r_V_i (As := [.int z73]) (rest := [.int q13]) cx hw hf hL.1.2.1 (by rw [hL.1.1]; rfl) lk_X5_261 (fun q14 hq => k_X5_mirrorsInReach l g hg  hL S z73 q14 hq) ⟨⟨rfl, rfl⟩, Nat.le_of_ble_eq_true rfl, Nat.le_of_ble_eq_true rfl⟩ rfl hl.1 rfl (Nat.le_of_ble_eq_true rfl) dX5_view_92 ⟨Nat.zero_le _, Nat.zero_le _⟩ (fun q14 H locs hw hf => ?_)
        refine lv_iand hx hb dX5_view_95 ?_
        refine lv_istore hx hb dX5_view_96 hl (by decide) (lv' := [(6, .int (q13 &&& q14)), (0, .ref (gg_o g 0)), (2, .int x2), (3, .int x3), (4, .int x4), (5, .int z73)]) rfl (fun ls hl => ?_)
        refine lv_iload hx hb dX5_view_98 (lv_at hl 0 rfl) ?_
        refine lv_if_eq hx hb dX5_view_100 (tgt := 119) rfl (fun hc15 => ?_) (fun hc15 => ?_)
        · replace hf := h_pos hc15 hf
          refine lv_iinc hx hb dX5_view_119 hl (k := 5) rfl (congrArg (HAdd.hAdd _) (show Int32.ofInt (1) = 1 by decide)) (by decide) (lv' := [(5, .int (z73 + 1)), (6, .int (q13 &&& q14)), (0, .ref (gg_o g 0)), (2, .int x2), (3, .int x3), (4, .int x4)]) rfl (fun ls hl => ?_)
          refine lv_goto hx hb dX5_view_122 (tgt := 73) rfl ?_
          exact ih73 _ _ _ (z73 + 1) (lv_sub hl [2, 3, 4, 5, 0] rfl) hw hf
        replace hf := h_neg hc15 hf
        exact hX73 _ _ _ z73 (q13 &&& q14) (lv_sub hl [4, 5, 0] rfl) hw hf
    refine L73 q11 x2 x3 x4 _ (fun ls H locs e16 e17 hl hw hf => ?_) (fun v h => h) FU _ _ _ (st_I q11 (ky 10 1)) (lv_sub hl [1, 3, 4, 5, 0] rfl) hw (h_assoc hf)
    try dsimp only at hf
    refine lv_iload hx hb dX5_view_103 (lv_at hl 0 rfl) ?_
    refine lv_if_ne hx hb dX5_view_105 (tgt := 113) rfl (fun hc18 => ?_) (fun hc18 => ?_)
    · replace hf := h_neg hc18 hf
      refine lv_iload hx hb dX5_view_113 (lv_at hl 2 rfl) ?_
      refine r_S_i (As := [.int e17]) (rest := []) cx hw hf lk_X5_255 (fun q19 hq => k_X5_firstOf l g hg   q11 e17 q19 hq) ⟨⟨rfl, rfl⟩, Nat.le_of_ble_eq_true rfl, Nat.le_of_ble_eq_true rfl⟩ rfl hl.1 rfl (Nat.le_of_ble_eq_true rfl) dX5_view_115 ⟨Nat.zero_le _, Nat.zero_le _⟩ (fun q19 H locs hw hf => ?_)
      exact r_iretw cx hw hr hlk hf dX5_view_118
    replace hf := h_pos hc18 hf
    refine lv_iload hx hb dX5_view_108 (lv_at hl 1 rfl) ?_
    refine lv_goto hx hb dX5_view_110 (tgt := 118) rfl ?_
    exact r_iretw cx hw hr hlk hf dX5_view_118
  replace hf := h_pos hc8 hf
  refine lv_iconst (v := -1) hx hb dX5_view_33 (by decide) ?_
  exact r_iretw cx hw hr hlk hf dX5_view_34
theorem dX5_willBe_0 : decode cX5_willBe 0 = .ok (.aload_n 0, 1) := by decide +kernel
theorem dX5_willBe_1 : decode cX5_willBe 1 = .ok (.iload_n 1, 1) := by decide +kernel
theorem dX5_willBe_2 : decode cX5_willBe 2 = .ok (.invokevirtual 105, 3) := by decide +kernel
theorem dX5_willBe_5 : decode cX5_willBe 5 = .ok (.ifCond .eq 13, 3) := by decide +kernel
theorem dX5_willBe_8 : decode cX5_willBe 8 = .ok (.iload_n 2, 1) := by decide +kernel
theorem dX5_willBe_9 : decode cX5_willBe 9 = .ok (.sipush 300, 3) := by decide +kernel
theorem dX5_willBe_12 : decode cX5_willBe 12 = .ok (.invokestatic 112, 3) := by decide +kernel
theorem dX5_willBe_15 : decode cX5_willBe 15 = .ok (.ifCond .ne 5, 3) := by decide +kernel
theorem dX5_willBe_18 : decode cX5_willBe 18 = .ok (.iconst (-1), 1) := by decide +kernel
theorem dX5_willBe_19 : decode cX5_willBe 19 = .ok (.ireturn, 1) := by decide +kernel
theorem dX5_willBe_20 : decode cX5_willBe 20 = .ok (.aload_n 0, 1) := by decide +kernel
theorem dX5_willBe_21 : decode cX5_willBe 21 = .ok (.getfield 39, 3) := by decide +kernel
theorem dX5_willBe_24 : decode cX5_willBe 24 = .ok (.getfield 147, 3) := by decide +kernel
theorem dX5_willBe_27 : decode cX5_willBe 27 = .ok (.iload_n 2, 1) := by decide +kernel
theorem dX5_willBe_28 : decode cX5_willBe 28 = .ok (.iadd, 1) := by decide +kernel
theorem dX5_willBe_29 : decode cX5_willBe 29 = .ok (.sipush 299, 3) := by decide +kernel
theorem dX5_willBe_32 : decode cX5_willBe 32 = .ok (.invokestatic 215, 3) := by decide +kernel
theorem dX5_willBe_35 : decode cX5_willBe 35 = .ok (.istore_n 3, 1) := by decide +kernel
theorem dX5_willBe_36 : decode cX5_willBe 36 = .ok (.aload_n 0, 1) := by decide +kernel
theorem dX5_willBe_37 : decode cX5_willBe 37 = .ok (.iload_n 3, 1) := by decide +kernel
theorem dX5_willBe_38 : decode cX5_willBe 38 = .ok (.invokevirtual 249, 3) := by decide +kernel
theorem dX5_willBe_41 : decode cX5_willBe 41 = .ok (.aload_n 0, 1) := by decide +kernel
theorem dX5_willBe_42 : decode cX5_willBe 42 = .ok (.getfield 43, 3) := by decide +kernel
theorem dX5_willBe_45 : decode cX5_willBe 45 = .ok (.iload_n 1, 1) := by decide +kernel
theorem dX5_willBe_46 : decode cX5_willBe 46 = .ok (.iload_n 3, 1) := by decide +kernel
theorem dX5_willBe_47 : decode cX5_willBe 47 = .ok (.invokevirtual 116, 3) := by decide +kernel
theorem dX5_willBe_50 : decode cX5_willBe 50 = .ok (.ireturn, 1) := by decide +kernel
abbrev rm_X5_willBe : Room := { frames := 6, cells := 0, slots := 0, locals := 211 }
def f_X5_willBe (S : St) (x1 : Int32) (x2 : Int32) : Option (Int32 × St) :=
  (f_X5_isMan  S x1).bind (fun (q1 : Int32) => if q1 = 0 then (some ((-1 : Int32), S)) else ((f_X5_within   x2 (300 : Int32)).bind (fun (q3 : Int32) => if q3 = 0 then (some ((-1 : Int32), S)) else (lt_v (i_min ((st_I S (ky 10 1)) + x2) (299 : Int32)) (fun (u5 : Int32) => (f_X5_forecast  S u5).bind (fun (q6 : St) => (f_X0_roomOf 11 q6 x1 u5).bind (fun (q7 : Int32) => some (q7, q6))))))))
set_option maxRecDepth 100000 in
set_option maxHeartbeats 4000000 in
theorem k_X5_willBe (l : Launch) (g : GG) (hg : gd wd_C g)  (hL : hAll g) (S : St) (x1 : Int32) (x2 : Int32) (q : Int32 × St) (hf : f_X5_willBe  S x1 x2 = some q) : Met l yX5_willBe (Cond.code yX5_willBe cX5_willBe 4 (some .int) :: gw_tbl) rm_X5_willBe (va_Pc [.ref (gg_o g 0), .int x1, .int x2] (wI wd_C g S)) (qc_w wd_C g q) 0 0 (aw g) := by
  refine mt_start (own := RX5) hg (by decide) rfl (Nat.le_of_ble_eq_true rfl) (fun p e s m args below meth c ls H locs cx hw hr hlk hl => ?_)
  have hx := cx.1
  have hb := cx.2.1
  have hown := cx.2.2.2.1
  have hts := cx.2.2.2.2.1
  have hl : lv_has ls 4 [(0, .ref (gg_o g 0)), (1, .int x1), (2, .int x2)] := hl
  replace hf := h_top hf
  unfold f_X5_willBe at hf
  refine lv_aload_n hx hb dX5_willBe_0 rfl (lv_at hl 0 rfl) ?_
  refine lv_iload_n hx hb dX5_willBe_1 rfl (lv_at hl 1 rfl) ?_
  refine r_V_i (As := [.int x1]) (rest := []) cx hw hf hL.1.2.1 (by rw [hL.1.1]; rfl) lk_X5_105 (fun q1 hq => k_X5_isMan l g hg  hL S x1 q1 hq) ⟨⟨rfl, rfl⟩, Nat.le_of_ble_eq_true rfl, Nat.le_of_ble_eq_true rfl⟩ rfl hl.1 rfl (Nat.le_of_ble_eq_true rfl) dX5_willBe_2 ⟨Nat.zero_le _, Nat.zero_le _⟩ (fun q1 H locs hw hf => ?_)
  refine lv_if_eq hx hb dX5_willBe_5 (tgt := 18) rfl (fun hc2 => ?_) (fun hc2 => ?_)
  · replace hf := h_pos hc2 hf
    refine lv_iconst (v := -1) hx hb dX5_willBe_18 (by decide) ?_
    exact r_iretw cx hw hr hlk hf dX5_willBe_19
  replace hf := h_neg hc2 hf
  refine lv_iload_n hx hb dX5_willBe_8 rfl (lv_at hl 2 rfl) ?_
  refine lv_sipush (v := 300) hx hb dX5_willBe_9 (by decide) ?_
  refine r_S_i (As := [.int x2, .int (300 : Int32)]) (rest := []) cx hw hf lk_X5_112 (fun q3 hq => k_X5_within l g hg   S x2 (300 : Int32) q3 hq) ⟨⟨rfl, rfl⟩, Nat.le_of_ble_eq_true rfl, Nat.le_of_ble_eq_true rfl⟩ rfl hl.1 rfl (Nat.le_of_ble_eq_true rfl) dX5_willBe_12 ⟨Nat.zero_le _, Nat.zero_le _⟩ (fun q3 H locs hw hf => ?_)
  refine lv_if_ne hx hb dX5_willBe_15 (tgt := 20) rfl (fun hc4 => ?_) (fun hc4 => ?_)
  · replace hf := h_neg hc4 hf
    refine lv_aload_n hx hb dX5_willBe_20 rfl (lv_at hl 0 rfl) ?_
    refine gf_X5_39 cx hw hL.1 dX5_willBe_21 ?_
    refine gf_X5_147 cx hw (hL.2.2.2.1 0 (by decide)) dX5_willBe_24 ?_
    refine lv_iload_n hx hb dX5_willBe_27 rfl (lv_at hl 2 rfl) ?_
    refine lv_iadd hx hb dX5_willBe_28 ?_
    refine lv_sipush (v := 299) hx hb dX5_willBe_29 (by decide) ?_
    refine va_mmin hx hb (cx.2.2.1.trans hl.1.symm) hown (hts _ wd_892) (hts _ wd_344) (hts _ wd_7) (hts _ wd_345) (Nat.le_of_ble_eq_true rfl) (Nat.le_of_ble_eq_true rfl) (Nat.zero_le _) (Nat.zero_le _) dX5_willBe_32 ?_
    refine r_leti hf (fun u5 hf => ?_)
    refine lv_istore_n hx hb dX5_willBe_35 rfl hl (by decide) (lv' := [(3, .int u5), (0, .ref (gg_o g 0)), (1, .int x1), (2, .int x2)]) rfl (fun ls hl => ?_)
    refine lv_aload_n hx hb dX5_willBe_36 rfl (lv_at hl 1 rfl) ?_
    refine lv_iload_n hx hb dX5_willBe_37 rfl (lv_at hl 0 rfl) ?_
    refine r_V_v (As := [.int u5]) (rest := []) cx hw hf hL.1.2.1 (by rw [hL.1.1]; rfl) lk_X5_249 (fun q6 hq => k_X5_forecast l g hg  hL S u5 q6 hq) ⟨⟨rfl, rfl⟩, Nat.le_of_ble_eq_true rfl, Nat.le_of_ble_eq_true rfl⟩ rfl hl.1 rfl (Nat.le_of_ble_eq_true rfl) dX5_willBe_38 ⟨Nat.zero_le _, Nat.zero_le _⟩ (fun q6 H locs hw hf => ?_)
    refine lv_aload_n hx hb dX5_willBe_41 rfl (lv_at hl 1 rfl) ?_
    refine gf_X5_43 cx hw hL.1 dX5_willBe_42 ?_
    refine lv_iload_n hx hb dX5_willBe_45 rfl (lv_at hl 2 rfl) ?_
    refine lv_iload_n hx hb dX5_willBe_46 rfl (lv_at hl 0 rfl) ?_
    refine r_VN_i (As := [.int x1, .int u5]) (rest := []) cx hw hf (nw_at cx) (hL.2.2.2.1 1 (by decide)).2.1 (by rw [(hL.2.2.2.1 1 (by decide)).1]; rfl) lk_X5_116 (fun q7 hq => k_X0_roomOf l g hg 11 (hL.2.2.2.1 1 (by decide)) hL.2.2.2.2 q6 x1 u5 q7 hq) ⟨⟨rfl, rfl⟩, Nat.le_of_ble_eq_true rfl, Nat.le_of_ble_eq_true rfl⟩ rfl hl.1 rfl (Nat.le_of_ble_eq_true rfl) dX5_willBe_47 ⟨Nat.zero_le _, Nat.zero_le _⟩ (fun q7 H locs hw hf => ?_)
    exact r_iretw cx hw hr hlk hf dX5_willBe_50
  replace hf := h_pos hc4 hf
  refine lv_iconst (v := -1) hx hb dX5_willBe_18 (by decide) ?_
  exact r_iretw cx hw hr hlk hf dX5_willBe_19
theorem dX5_mirrorsWith_0 : decode cX5_mirrorsWith 0 = .ok (.iconst 0, 1) := by decide +kernel
theorem dX5_mirrorsWith_1 : decode cX5_mirrorsWith 1 = .ok (.istore_n 3, 1) := by decide +kernel
theorem dX5_mirrorsWith_2 : decode cX5_mirrorsWith 2 = .ok (.iconst 0, 1) := by decide +kernel
theorem dX5_mirrorsWith_3 : decode cX5_mirrorsWith 3 = .ok (.istore 4, 2) := by decide +kernel
theorem dX5_mirrorsWith_5 : decode cX5_mirrorsWith 5 = .ok (.iload 4, 2) := by decide +kernel
theorem dX5_mirrorsWith_7 : decode cX5_mirrorsWith 7 = .ok (.aload_n 0, 1) := by decide +kernel
theorem dX5_mirrorsWith_8 : decode cX5_mirrorsWith 8 = .ok (.getfield 27, 3) := by decide +kernel
theorem dX5_mirrorsWith_11 : decode cX5_mirrorsWith 11 = .ok (.getfield 206, 3) := by decide +kernel
theorem dX5_mirrorsWith_14 : decode cX5_mirrorsWith 14 = .ok (.if_icmp .ge 33, 3) := by decide +kernel
theorem dX5_mirrorsWith_17 : decode cX5_mirrorsWith 17 = .ok (.aload_n 0, 1) := by decide +kernel
theorem dX5_mirrorsWith_18 : decode cX5_mirrorsWith 18 = .ok (.getfield 43, 3) := by decide +kernel
theorem dX5_mirrorsWith_21 : decode cX5_mirrorsWith 21 = .ok (.iload 4, 2) := by decide +kernel
theorem dX5_mirrorsWith_23 : decode cX5_mirrorsWith 23 = .ok (.iload_n 2, 1) := by decide +kernel
theorem dX5_mirrorsWith_24 : decode cX5_mirrorsWith 24 = .ok (.invokevirtual 144, 3) := by decide +kernel
theorem dX5_mirrorsWith_27 : decode cX5_mirrorsWith 27 = .ok (.iload_n 1, 1) := by decide +kernel
theorem dX5_mirrorsWith_28 : decode cX5_mirrorsWith 28 = .ok (.invokestatic 203, 3) := by decide +kernel
theorem dX5_mirrorsWith_31 : decode cX5_mirrorsWith 31 = .ok (.ifCond .eq 10, 3) := by decide +kernel
theorem dX5_mirrorsWith_34 : decode cX5_mirrorsWith 34 = .ok (.iload_n 3, 1) := by decide +kernel
theorem dX5_mirrorsWith_35 : decode cX5_mirrorsWith 35 = .ok (.iconst 1, 1) := by decide +kernel
theorem dX5_mirrorsWith_36 : decode cX5_mirrorsWith 36 = .ok (.iload 4, 2) := by decide +kernel
theorem dX5_mirrorsWith_38 : decode cX5_mirrorsWith 38 = .ok (.ishl, 1) := by decide +kernel
theorem dX5_mirrorsWith_39 : decode cX5_mirrorsWith 39 = .ok (.ior, 1) := by decide +kernel
theorem dX5_mirrorsWith_40 : decode cX5_mirrorsWith 40 = .ok (.istore_n 3, 1) := by decide +kernel
theorem dX5_mirrorsWith_41 : decode cX5_mirrorsWith 41 = .ok (.iinc 4 1, 3) := by decide +kernel
theorem dX5_mirrorsWith_44 : decode cX5_mirrorsWith 44 = .ok (.goto (-39), 3) := by decide +kernel
theorem dX5_mirrorsWith_47 : decode cX5_mirrorsWith 47 = .ok (.iload_n 3, 1) := by decide +kernel
theorem dX5_mirrorsWith_48 : decode cX5_mirrorsWith 48 = .ok (.ireturn, 1) := by decide +kernel
abbrev rm_X5_mirrorsWith : Room := { frames := 4, cells := 0, slots := 0, locals := 89 }
def f_X5_mirrorsWith_L5 (S : St) (x1 : Int32) (x2 : Int32) (z5 : Int32 × Int32) : Option ((Int32 × Int32) ⊕ (Int32)) :=
  chk (isT (st_P S (ky 0 4))) (if (st_I S (ky (st_P S (ky 0 4)) 3)) ≤ z5.2 then (some (.inr z5.1)) else ((f_X0_menShown 11 S z5.2 x2).bind (fun (q3 : Int32) => (f_X5_has   q3 x1).bind (fun (q4 : Int32) => if q4 = 0 then (some (.inl (z5.1, (z5.2 + 1)))) else (lt_v (z5.1 ||| ((1 : Int32) <<< (z5.2 &&& 31))) (fun (u6 : Int32) => some (.inl (u6, (z5.2 + 1)))))))))
def f_X5_mirrorsWith (S : St) (x1 : Int32) (x2 : Int32) : Option (Int32) :=
  iter (f_X5_mirrorsWith_L5  S x1 x2) FU ((0 : Int32), (0 : Int32))
set_option maxRecDepth 100000 in
set_option maxHeartbeats 4000000 in
theorem k_X5_mirrorsWith (l : Launch) (g : GG) (hg : gd wd_C g)  (hL : hAll g) (S : St) (x1 : Int32) (x2 : Int32) (q : Int32) (hf : f_X5_mirrorsWith  S x1 x2 = some q) : Met l yX5_mirrorsWith (Cond.code yX5_mirrorsWith cX5_mirrorsWith 5 (some .int) :: gw_tbl) rm_X5_mirrorsWith (va_Pc [.ref (gg_o g 0), .int x1, .int x2] (wI wd_C g S)) (qc_i wd_C g S q) 0 0 (aw g) := by
  refine mt_start (own := RX5) hg (by decide) rfl (Nat.le_of_ble_eq_true rfl) (fun p e s m args below meth c ls H locs cx hw hr hlk hl => ?_)
  have hx := cx.1
  have hb := cx.2.1
  have hown := cx.2.2.2.1
  have hts := cx.2.2.2.2.1
  have hl : lv_has ls 5 [(0, .ref (gg_o g 0)), (1, .int x1), (2, .int x2)] := hl
  replace hf := h_top hf
  unfold f_X5_mirrorsWith at hf
  refine lv_iconst (v := 0) hx hb dX5_mirrorsWith_0 (by decide) ?_
  refine lv_istore_n hx hb dX5_mirrorsWith_1 rfl hl (by decide) (lv' := [(3, .int (0 : Int32)), (0, .ref (gg_o g 0)), (1, .int x1), (2, .int x2)]) rfl (fun ls hl => ?_)
  refine lv_iconst (v := 0) hx hb dX5_mirrorsWith_2 (by decide) ?_
  refine lv_istore hx hb dX5_mirrorsWith_3 hl (by decide) (lv' := [(4, .int (0 : Int32)), (3, .int (0 : Int32)), (0, .ref (gg_o g 0)), (1, .int x1), (2, .int x2)]) rfl (fun ls hl => ?_)
  have L5 : ∀ (x1 : Int32) (x2 : Int32) (aft5 : Int32 → Option (Int32)), (∀ v : Int32, aft5 v = some q → (some v : Option (Int32)).bind some = some q) → ∀ (n5 : Nat) (ls : Array Slot) (H : Heap) (locs : List Loc) (z5 : Int32 × Int32), lv_has ls 5 [(0, .ref (gg_o g 0)), (1, .int x1), (2, .int x2), (3, .int z5.1), (4, .int z5.2)] → HH wd_C g s S H locs → (iter (f_X5_mirrorsWith_L5  S x1 x2) n5 z5).bind aft5 = some q → W p l e rm_X5_mirrorsWith s m args below meth c H locs 0 0 (MQ below (qc_i wd_C g S q) args s 0 0 (aw g)) (F0 m 5 ls []) := by
    intro x1 x2 aft5 hR5 n5
    induction n5 with
    | zero => intro ls H locs z5 hl hw hf; exact h_iter0 hf
    | succ n5 ih5 =>
      intro ls H locs z5 hl hw hf
      replace hf := h_iter hf
      unfold f_X5_mirrorsWith_L5 at hf
      refine lv_iload hx hb dX5_mirrorsWith_5 (lv_at hl 4 rfl) ?_
      refine lv_aload_n hx hb dX5_mirrorsWith_7 rfl (lv_at hl 0 rfl) ?_
      obtain ⟨hc1, hf⟩ := h_chk hf
      refine gf_X5_27 cx hw hL.1 dX5_mirrorsWith_8 ?_
      refine gf_X5_206 cx hw ((allT_at hL.2.2.2.2 hc1).1) dX5_mirrorsWith_11 ?_
      refine lv_icmp_ge hx hb dX5_mirrorsWith_14 (tgt := 47) rfl (fun hc2 => ?_) (fun hc2 => ?_)
      · replace hf := h_pos hc2 hf
        refine lv_iload_n hx hb dX5_mirrorsWith_47 rfl (lv_at hl 3 rfl) ?_
        replace hf := hR5 z5.1 hf
        exact r_iret cx hw hr hlk hf dX5_mirrorsWith_48
      replace hf := h_neg hc2 hf
      refine lv_aload_n hx hb dX5_mirrorsWith_17 rfl (lv_at hl 0 rfl) ?_
      refine gf_X5_43 cx hw hL.1 dX5_mirrorsWith_18 ?_
      refine lv_iload hx hb dX5_mirrorsWith_21 (lv_at hl 4 rfl) ?_
      refine lv_iload_n hx hb dX5_mirrorsWith_23 rfl (lv_at hl 2 rfl) ?_
      refine r_VN_i (As := [.int z5.2, .int x2]) (rest := []) cx hw hf (nw_at cx) (hL.2.2.2.1 1 (by decide)).2.1 (by rw [(hL.2.2.2.1 1 (by decide)).1]; rfl) lk_X5_144 (fun q3 hq => k_X0_menShown l g hg 11 (hL.2.2.2.1 1 (by decide)) hL.2.2.2.2 S z5.2 x2 q3 hq) ⟨⟨rfl, rfl⟩, Nat.le_of_ble_eq_true rfl, Nat.le_of_ble_eq_true rfl⟩ rfl hl.1 rfl (Nat.le_of_ble_eq_true rfl) dX5_mirrorsWith_24 ⟨Nat.zero_le _, Nat.zero_le _⟩ (fun q3 H locs hw hf => ?_)
      refine lv_iload_n hx hb dX5_mirrorsWith_27 rfl (lv_at hl 1 rfl) ?_
      refine r_S_i (As := [.int q3, .int x1]) (rest := []) cx hw hf lk_X5_203 (fun q4 hq => k_X5_has l g hg   S q3 x1 q4 hq) ⟨⟨rfl, rfl⟩, Nat.le_of_ble_eq_true rfl, Nat.le_of_ble_eq_true rfl⟩ rfl hl.1 rfl (Nat.le_of_ble_eq_true rfl) dX5_mirrorsWith_28 ⟨Nat.zero_le _, Nat.zero_le _⟩ (fun q4 H locs hw hf => ?_)
      refine lv_if_eq hx hb dX5_mirrorsWith_31 (tgt := 41) rfl (fun hc5 => ?_) (fun hc5 => ?_)
      · replace hf := h_pos hc5 hf
        refine lv_iinc hx hb dX5_mirrorsWith_41 hl (k := 4) rfl (congrArg (HAdd.hAdd _) (show Int32.ofInt (1) = 1 by decide)) (by decide) (lv' := [(4, .int (z5.2 + 1)), (0, .ref (gg_o g 0)), (1, .int x1), (2, .int x2), (3, .int z5.1)]) rfl (fun ls hl => ?_)
        refine lv_goto hx hb dX5_mirrorsWith_44 (tgt := 5) rfl ?_
        exact ih5 _ _ _ (z5.1, (z5.2 + 1)) (lv_sub hl [1, 2, 3, 4, 0] rfl) hw hf
      replace hf := h_neg hc5 hf
      refine lv_iload_n hx hb dX5_mirrorsWith_34 rfl (lv_at hl 3 rfl) ?_
      refine lv_iconst (v := 1) hx hb dX5_mirrorsWith_35 (by decide) ?_
      refine lv_iload hx hb dX5_mirrorsWith_36 (lv_at hl 4 rfl) ?_
      refine lv_ishl hx hb dX5_mirrorsWith_38 ?_
      refine lv_ior hx hb dX5_mirrorsWith_39 ?_
      refine r_leti hf (fun u6 hf => ?_)
      refine lv_istore_n hx hb dX5_mirrorsWith_40 rfl hl (by decide) (lv' := [(3, .int u6), (0, .ref (gg_o g 0)), (1, .int x1), (2, .int x2), (4, .int z5.2)]) rfl (fun ls hl => ?_)
      refine lv_iinc hx hb dX5_mirrorsWith_41 hl (k := 4) rfl (congrArg (HAdd.hAdd _) (show Int32.ofInt (1) = 1 by decide)) (by decide) (lv' := [(4, .int (z5.2 + 1)), (3, .int u6), (0, .ref (gg_o g 0)), (1, .int x1), (2, .int x2)]) rfl (fun ls hl => ?_)
      refine lv_goto hx hb dX5_mirrorsWith_44 (tgt := 5) rfl ?_
      exact ih5 _ _ _ (u6, (z5.2 + 1)) (lv_sub hl [2, 3, 4, 1, 0] rfl) hw hf
  exact L5 x1 x2 some (fun v h => h) FU _ _ _ ((0 : Int32), (0 : Int32)) (lv_sub hl [2, 3, 4, 1, 0] rfl) hw hf
theorem dX5_seen_0 : decode cX5_seen 0 = .ok (.aload_n 0, 1) := by decide +kernel
theorem dX5_seen_1 : decode cX5_seen 1 = .ok (.iload_n 1, 1) := by decide +kernel
theorem dX5_seen_2 : decode cX5_seen 2 = .ok (.invokevirtual 105, 3) := by decide +kernel
theorem dX5_seen_5 : decode cX5_seen 5 = .ok (.ifCond .eq 13, 3) := by decide +kernel
theorem dX5_seen_8 : decode cX5_seen 8 = .ok (.iload_n 2, 1) := by decide +kernel
theorem dX5_seen_9 : decode cX5_seen 9 = .ok (.sipush 300, 3) := by decide +kernel
theorem dX5_seen_12 : decode cX5_seen 12 = .ok (.invokestatic 112, 3) := by decide +kernel
theorem dX5_seen_15 : decode cX5_seen 15 = .ok (.ifCond .ne 5, 3) := by decide +kernel
theorem dX5_seen_18 : decode cX5_seen 18 = .ok (.iconst (-1), 1) := by decide +kernel
theorem dX5_seen_19 : decode cX5_seen 19 = .ok (.ireturn, 1) := by decide +kernel
theorem dX5_seen_20 : decode cX5_seen 20 = .ok (.aload_n 0, 1) := by decide +kernel
theorem dX5_seen_21 : decode cX5_seen 21 = .ok (.getfield 39, 3) := by decide +kernel
theorem dX5_seen_24 : decode cX5_seen 24 = .ok (.getfield 147, 3) := by decide +kernel
theorem dX5_seen_27 : decode cX5_seen 27 = .ok (.iload_n 2, 1) := by decide +kernel
theorem dX5_seen_28 : decode cX5_seen 28 = .ok (.iadd, 1) := by decide +kernel
theorem dX5_seen_29 : decode cX5_seen 29 = .ok (.sipush 299, 3) := by decide +kernel
theorem dX5_seen_32 : decode cX5_seen 32 = .ok (.invokestatic 215, 3) := by decide +kernel
theorem dX5_seen_35 : decode cX5_seen 35 = .ok (.istore_n 3, 1) := by decide +kernel
theorem dX5_seen_36 : decode cX5_seen 36 = .ok (.aload_n 0, 1) := by decide +kernel
theorem dX5_seen_37 : decode cX5_seen 37 = .ok (.iload_n 3, 1) := by decide +kernel
theorem dX5_seen_38 : decode cX5_seen 38 = .ok (.invokevirtual 249, 3) := by decide +kernel
theorem dX5_seen_41 : decode cX5_seen 41 = .ok (.iconst 0, 1) := by decide +kernel
theorem dX5_seen_42 : decode cX5_seen 42 = .ok (.istore 4, 2) := by decide +kernel
theorem dX5_seen_44 : decode cX5_seen 44 = .ok (.aload_n 0, 1) := by decide +kernel
theorem dX5_seen_45 : decode cX5_seen 45 = .ok (.getfield 39, 3) := by decide +kernel
theorem dX5_seen_48 : decode cX5_seen 48 = .ok (.getfield 147, 3) := by decide +kernel
theorem dX5_seen_51 : decode cX5_seen 51 = .ok (.istore 5, 2) := by decide +kernel
theorem dX5_seen_53 : decode cX5_seen 53 = .ok (.iload 5, 2) := by decide +kernel
theorem dX5_seen_55 : decode cX5_seen 55 = .ok (.iload_n 3, 1) := by decide +kernel
theorem dX5_seen_56 : decode cX5_seen 56 = .ok (.if_icmp .gt 24, 3) := by decide +kernel
theorem dX5_seen_59 : decode cX5_seen 59 = .ok (.iload 4, 2) := by decide +kernel
theorem dX5_seen_61 : decode cX5_seen 61 = .ok (.aload_n 0, 1) := by decide +kernel
theorem dX5_seen_62 : decode cX5_seen 62 = .ok (.iload_n 1, 1) := by decide +kernel
theorem dX5_seen_63 : decode cX5_seen 63 = .ok (.iload 5, 2) := by decide +kernel
theorem dX5_seen_65 : decode cX5_seen 65 = .ok (.invokevirtual 264, 3) := by decide +kernel
theorem dX5_seen_68 : decode cX5_seen 68 = .ok (.invokestatic 237, 3) := by decide +kernel
theorem dX5_seen_71 : decode cX5_seen 71 = .ok (.iadd, 1) := by decide +kernel
theorem dX5_seen_72 : decode cX5_seen 72 = .ok (.istore 4, 2) := by decide +kernel
theorem dX5_seen_74 : decode cX5_seen 74 = .ok (.iinc 5 1, 3) := by decide +kernel
theorem dX5_seen_77 : decode cX5_seen 77 = .ok (.goto (-24), 3) := by decide +kernel
theorem dX5_seen_80 : decode cX5_seen 80 = .ok (.iload 4, 2) := by decide +kernel
theorem dX5_seen_82 : decode cX5_seen 82 = .ok (.ireturn, 1) := by decide +kernel
abbrev rm_X5_seen : Room := { frames := 6, cells := 0, slots := 0, locals := 211 }
def f_X5_seen_L53 (S : St) (x1 : Int32) (x3 : Int32) (z53 : Int32 × Int32) : Option ((Int32 × Int32) ⊕ (Int32 × St)) :=
  if x3 < z53.2 then (some (.inr (z53.1, S))) else ((f_X5_mirrorsWith  S x1 z53.2).bind (fun (q8 : Int32) => (f_J6_bitCount_0f7a4   q8).bind (fun (q9 : Int32) => some (.inl ((z53.1 + q9), (z53.2 + 1))))))
def f_X5_seen (S : St) (x1 : Int32) (x2 : Int32) : Option (Int32 × St) :=
  (f_X5_isMan  S x1).bind (fun (q1 : Int32) => if q1 = 0 then (some ((-1 : Int32), S)) else ((f_X5_within   x2 (300 : Int32)).bind (fun (q3 : Int32) => if q3 = 0 then (some ((-1 : Int32), S)) else (lt_v (i_min ((st_I S (ky 10 1)) + x2) (299 : Int32)) (fun (u5 : Int32) => (f_X5_forecast  S u5).bind (fun (q6 : St) => iter (f_X5_seen_L53  q6 x1 u5) FU ((0 : Int32), (st_I q6 (ky 10 1)))))))))
set_option maxRecDepth 100000 in
set_option maxHeartbeats 4000000 in
theorem k_X5_seen (l : Launch) (g : GG) (hg : gd wd_C g)  (hL : hAll g) (S : St) (x1 : Int32) (x2 : Int32) (q : Int32 × St) (hf : f_X5_seen  S x1 x2 = some q) : Met l yX5_seen (Cond.code yX5_seen cX5_seen 6 (some .int) :: gw_tbl) rm_X5_seen (va_Pc [.ref (gg_o g 0), .int x1, .int x2] (wI wd_C g S)) (qc_w wd_C g q) 0 0 (aw g) := by
  refine mt_start (own := RX5) hg (by decide) rfl (Nat.le_of_ble_eq_true rfl) (fun p e s m args below meth c ls H locs cx hw hr hlk hl => ?_)
  have hx := cx.1
  have hb := cx.2.1
  have hown := cx.2.2.2.1
  have hts := cx.2.2.2.2.1
  have hl : lv_has ls 6 [(0, .ref (gg_o g 0)), (1, .int x1), (2, .int x2)] := hl
  replace hf := h_top hf
  unfold f_X5_seen at hf
  refine lv_aload_n hx hb dX5_seen_0 rfl (lv_at hl 0 rfl) ?_
  refine lv_iload_n hx hb dX5_seen_1 rfl (lv_at hl 1 rfl) ?_
  refine r_V_i (As := [.int x1]) (rest := []) cx hw hf hL.1.2.1 (by rw [hL.1.1]; rfl) lk_X5_105 (fun q1 hq => k_X5_isMan l g hg  hL S x1 q1 hq) ⟨⟨rfl, rfl⟩, Nat.le_of_ble_eq_true rfl, Nat.le_of_ble_eq_true rfl⟩ rfl hl.1 rfl (Nat.le_of_ble_eq_true rfl) dX5_seen_2 ⟨Nat.zero_le _, Nat.zero_le _⟩ (fun q1 H locs hw hf => ?_)
  refine lv_if_eq hx hb dX5_seen_5 (tgt := 18) rfl (fun hc2 => ?_) (fun hc2 => ?_)
  · replace hf := h_pos hc2 hf
    refine lv_iconst (v := -1) hx hb dX5_seen_18 (by decide) ?_
    exact r_iretw cx hw hr hlk hf dX5_seen_19
  replace hf := h_neg hc2 hf
  refine lv_iload_n hx hb dX5_seen_8 rfl (lv_at hl 2 rfl) ?_
  refine lv_sipush (v := 300) hx hb dX5_seen_9 (by decide) ?_
  refine r_S_i (As := [.int x2, .int (300 : Int32)]) (rest := []) cx hw hf lk_X5_112 (fun q3 hq => k_X5_within l g hg   S x2 (300 : Int32) q3 hq) ⟨⟨rfl, rfl⟩, Nat.le_of_ble_eq_true rfl, Nat.le_of_ble_eq_true rfl⟩ rfl hl.1 rfl (Nat.le_of_ble_eq_true rfl) dX5_seen_12 ⟨Nat.zero_le _, Nat.zero_le _⟩ (fun q3 H locs hw hf => ?_)
  refine lv_if_ne hx hb dX5_seen_15 (tgt := 20) rfl (fun hc4 => ?_) (fun hc4 => ?_)
  · replace hf := h_neg hc4 hf
    refine lv_aload_n hx hb dX5_seen_20 rfl (lv_at hl 0 rfl) ?_
    refine gf_X5_39 cx hw hL.1 dX5_seen_21 ?_
    refine gf_X5_147 cx hw (hL.2.2.2.1 0 (by decide)) dX5_seen_24 ?_
    refine lv_iload_n hx hb dX5_seen_27 rfl (lv_at hl 2 rfl) ?_
    refine lv_iadd hx hb dX5_seen_28 ?_
    refine lv_sipush (v := 299) hx hb dX5_seen_29 (by decide) ?_
    refine va_mmin hx hb (cx.2.2.1.trans hl.1.symm) hown (hts _ wd_892) (hts _ wd_344) (hts _ wd_7) (hts _ wd_345) (Nat.le_of_ble_eq_true rfl) (Nat.le_of_ble_eq_true rfl) (Nat.zero_le _) (Nat.zero_le _) dX5_seen_32 ?_
    refine r_leti hf (fun u5 hf => ?_)
    refine lv_istore_n hx hb dX5_seen_35 rfl hl (by decide) (lv' := [(3, .int u5), (0, .ref (gg_o g 0)), (1, .int x1), (2, .int x2)]) rfl (fun ls hl => ?_)
    refine lv_aload_n hx hb dX5_seen_36 rfl (lv_at hl 1 rfl) ?_
    refine lv_iload_n hx hb dX5_seen_37 rfl (lv_at hl 0 rfl) ?_
    refine r_V_v (As := [.int u5]) (rest := []) cx hw hf hL.1.2.1 (by rw [hL.1.1]; rfl) lk_X5_249 (fun q6 hq => k_X5_forecast l g hg  hL S u5 q6 hq) ⟨⟨rfl, rfl⟩, Nat.le_of_ble_eq_true rfl, Nat.le_of_ble_eq_true rfl⟩ rfl hl.1 rfl (Nat.le_of_ble_eq_true rfl) dX5_seen_38 ⟨Nat.zero_le _, Nat.zero_le _⟩ (fun q6 H locs hw hf => ?_)
    refine lv_iconst (v := 0) hx hb dX5_seen_41 (by decide) ?_
    refine lv_istore hx hb dX5_seen_42 hl (by decide) (lv' := [(4, .int (0 : Int32)), (3, .int u5), (0, .ref (gg_o g 0)), (1, .int x1), (2, .int x2)]) rfl (fun ls hl => ?_)
    refine lv_aload_n hx hb dX5_seen_44 rfl (lv_at hl 2 rfl) ?_
    refine gf_X5_39 cx hw hL.1 dX5_seen_45 ?_
    refine gf_X5_147 cx hw (hL.2.2.2.1 0 (by decide)) dX5_seen_48 ?_
    refine lv_istore hx hb dX5_seen_51 hl (by decide) (lv' := [(5, .int (st_I q6 (ky 10 1))), (4, .int (0 : Int32)), (3, .int u5), (0, .ref (gg_o g 0)), (1, .int x1), (2, .int x2)]) rfl (fun ls hl => ?_)
    have L53 : ∀ (S : St) (x1 : Int32) (x3 : Int32) (aft53 : (Int32 × St) → Option (Int32 × St)), (∀ v : Int32 × St, aft53 v = some q → (some v : Option (Int32 × St)).bind some = some q) → ∀ (n53 : Nat) (ls : Array Slot) (H : Heap) (locs : List Loc) (z53 : Int32 × Int32), lv_has ls 6 [(0, .ref (gg_o g 0)), (1, .int x1), (3, .int x3), (4, .int z53.1), (5, .int z53.2)] → HH wd_C g s S H locs → (iter (f_X5_seen_L53  S x1 x3) n53 z53).bind aft53 = some q → W p l e rm_X5_seen s m args below meth c H locs 0 0 (MQ below (qc_w wd_C g q) args s 0 0 (aw g)) (F0 m 53 ls []) := by
      intro S x1 x3 aft53 hR53 n53
      induction n53 with
      | zero => intro ls H locs z53 hl hw hf; exact h_iter0 hf
      | succ n53 ih53 =>
        intro ls H locs z53 hl hw hf
        replace hf := h_iter hf
        unfold f_X5_seen_L53 at hf
        refine lv_iload hx hb dX5_seen_53 (lv_at hl 4 rfl) ?_
        refine lv_iload_n hx hb dX5_seen_55 rfl (lv_at hl 2 rfl) ?_
        refine lv_icmp_gt hx hb dX5_seen_56 (tgt := 80) rfl (fun hc7 => ?_) (fun hc7 => ?_)
        · replace hf := h_pos hc7 hf
          refine lv_iload hx hb dX5_seen_80 (lv_at hl 3 rfl) ?_
          replace hf := hR53 (z53.1, S) hf
          exact r_iretw cx hw hr hlk hf dX5_seen_82
        replace hf := h_neg hc7 hf
        refine lv_iload hx hb dX5_seen_59 (lv_at hl 3 rfl) ?_
        refine lv_aload_n hx hb dX5_seen_61 rfl (lv_at hl 0 rfl) ?_
        refine lv_iload_n hx hb dX5_seen_62 rfl (lv_at hl 1 rfl) ?_
        refine lv_iload hx hb dX5_seen_63 (lv_at hl 4 rfl) ?_
        refine r_V_i (As := [.int x1, .int z53.2]) (rest := [.int z53.1]) cx hw hf hL.1.2.1 (by rw [hL.1.1]; rfl) lk_X5_264 (fun q8 hq => k_X5_mirrorsWith l g hg  hL S x1 z53.2 q8 hq) ⟨⟨rfl, rfl⟩, Nat.le_of_ble_eq_true rfl, Nat.le_of_ble_eq_true rfl⟩ rfl hl.1 rfl (Nat.le_of_ble_eq_true rfl) dX5_seen_65 ⟨Nat.zero_le _, Nat.zero_le _⟩ (fun q8 H locs hw hf => ?_)
        refine r_S_i (As := [.int q8]) (rest := [.int z53.1]) cx hw hf lk_X5_237 (fun q9 hq => k_J6_bitCount_0f7a4 l wd_C g hg   S q8 q9 hq) ⟨⟨rfl, rfl⟩, Nat.le_of_ble_eq_true rfl, Nat.le_of_ble_eq_true rfl⟩ rfl hl.1 rfl (Nat.le_of_ble_eq_true rfl) dX5_seen_68 ⟨Nat.zero_le _, Nat.zero_le _⟩ (fun q9 H locs hw hf => ?_)
        refine lv_iadd hx hb dX5_seen_71 ?_
        refine lv_istore hx hb dX5_seen_72 hl (by decide) (lv' := [(4, .int (z53.1 + q9)), (0, .ref (gg_o g 0)), (1, .int x1), (3, .int x3), (5, .int z53.2)]) rfl (fun ls hl => ?_)
        refine lv_iinc hx hb dX5_seen_74 hl (k := 4) rfl (congrArg (HAdd.hAdd _) (show Int32.ofInt (1) = 1 by decide)) (by decide) (lv' := [(5, .int (z53.2 + 1)), (4, .int (z53.1 + q9)), (0, .ref (gg_o g 0)), (1, .int x1), (3, .int x3)]) rfl (fun ls hl => ?_)
        refine lv_goto hx hb dX5_seen_77 (tgt := 53) rfl ?_
        exact ih53 _ _ _ ((z53.1 + q9), (z53.2 + 1)) (lv_sub hl [2, 3, 4, 1, 0] rfl) hw hf
    exact L53 q6 x1 u5 some (fun v h => h) FU _ _ _ ((0 : Int32), (st_I q6 (ky 10 1))) (lv_sub hl [3, 4, 2, 1, 0] rfl) hw hf
  replace hf := h_pos hc4 hf
  refine lv_iconst (v := -1) hx hb dX5_seen_18 (by decide) ?_
  exact r_iretw cx hw hr hlk hf dX5_seen_19
theorem dX5_turned_0 : decode cX5_turned 0 = .ok (.aload_n 0, 1) := by decide +kernel
theorem dX5_turned_1 : decode cX5_turned 1 = .ok (.iload_n 1, 1) := by decide +kernel
theorem dX5_turned_2 : decode cX5_turned 2 = .ok (.invokevirtual 105, 3) := by decide +kernel
theorem dX5_turned_5 : decode cX5_turned 5 = .ok (.ifCond .eq 11, 3) := by decide +kernel
theorem dX5_turned_8 : decode cX5_turned 8 = .ok (.iload_n 2, 1) := by decide +kernel
theorem dX5_turned_9 : decode cX5_turned 9 = .ok (.iconst 2, 1) := by decide +kernel
theorem dX5_turned_10 : decode cX5_turned 10 = .ok (.invokestatic 112, 3) := by decide +kernel
theorem dX5_turned_13 : decode cX5_turned 13 = .ok (.ifCond .ne 5, 3) := by decide +kernel
theorem dX5_turned_16 : decode cX5_turned 16 = .ok (.iconst (-1), 1) := by decide +kernel
theorem dX5_turned_17 : decode cX5_turned 17 = .ok (.ireturn, 1) := by decide +kernel
theorem dX5_turned_18 : decode cX5_turned 18 = .ok (.aload_n 0, 1) := by decide +kernel
theorem dX5_turned_19 : decode cX5_turned 19 = .ok (.sipush 299, 3) := by decide +kernel
theorem dX5_turned_22 : decode cX5_turned 22 = .ok (.invokevirtual 249, 3) := by decide +kernel
theorem dX5_turned_25 : decode cX5_turned 25 = .ok (.iconst 0, 1) := by decide +kernel
theorem dX5_turned_26 : decode cX5_turned 26 = .ok (.istore_n 3, 1) := by decide +kernel
theorem dX5_turned_27 : decode cX5_turned 27 = .ok (.aload_n 0, 1) := by decide +kernel
theorem dX5_turned_28 : decode cX5_turned 28 = .ok (.getfield 39, 3) := by decide +kernel
theorem dX5_turned_31 : decode cX5_turned 31 = .ok (.getfield 147, 3) := by decide +kernel
theorem dX5_turned_34 : decode cX5_turned 34 = .ok (.istore 4, 2) := by decide +kernel
theorem dX5_turned_36 : decode cX5_turned 36 = .ok (.iload 4, 2) := by decide +kernel
theorem dX5_turned_38 : decode cX5_turned 38 = .ok (.sipush 299, 3) := by decide +kernel
theorem dX5_turned_41 : decode cX5_turned 41 = .ok (.if_icmp .gt 19, 3) := by decide +kernel
theorem dX5_turned_44 : decode cX5_turned 44 = .ok (.iload_n 3, 1) := by decide +kernel
theorem dX5_turned_45 : decode cX5_turned 45 = .ok (.aload_n 0, 1) := by decide +kernel
theorem dX5_turned_46 : decode cX5_turned 46 = .ok (.iload_n 1, 1) := by decide +kernel
theorem dX5_turned_47 : decode cX5_turned 47 = .ok (.iload 4, 2) := by decide +kernel
theorem dX5_turned_49 : decode cX5_turned 49 = .ok (.invokevirtual 264, 3) := by decide +kernel
theorem dX5_turned_52 : decode cX5_turned 52 = .ok (.ior, 1) := by decide +kernel
theorem dX5_turned_53 : decode cX5_turned 53 = .ok (.istore_n 3, 1) := by decide +kernel
theorem dX5_turned_54 : decode cX5_turned 54 = .ok (.iinc 4 1, 3) := by decide +kernel
theorem dX5_turned_57 : decode cX5_turned 57 = .ok (.goto (-21), 3) := by decide +kernel
theorem dX5_turned_60 : decode cX5_turned 60 = .ok (.iload_n 2, 1) := by decide +kernel
theorem dX5_turned_61 : decode cX5_turned 61 = .ok (.ifCond .ne 10, 3) := by decide +kernel
theorem dX5_turned_64 : decode cX5_turned 64 = .ok (.iload_n 3, 1) := by decide +kernel
theorem dX5_turned_65 : decode cX5_turned 65 = .ok (.invokestatic 237, 3) := by decide +kernel
theorem dX5_turned_68 : decode cX5_turned 68 = .ok (.goto 4, 3) := by decide +kernel
theorem dX5_turned_71 : decode cX5_turned 71 = .ok (.iload_n 3, 1) := by decide +kernel
theorem dX5_turned_72 : decode cX5_turned 72 = .ok (.ireturn, 1) := by decide +kernel
abbrev rm_X5_turned : Room := { frames := 6, cells := 0, slots := 0, locals := 211 }
def f_X5_turned_L36 (S : St) (x1 : Int32) (x2 : Int32) (z36 : Int32 × Int32) : Option ((Int32 × Int32) ⊕ (Int32)) :=
  if (299 : Int32) < z36.2 then (some (.inr z36.1)) else ((f_X5_mirrorsWith  S x1 z36.2).bind (fun (q7 : Int32) => some (.inl ((z36.1 ||| q7), (z36.2 + 1)))))
def f_X5_turned (S : St) (x1 : Int32) (x2 : Int32) : Option (Int32 × St) :=
  (f_X5_isMan  S x1).bind (fun (q1 : Int32) => if q1 = 0 then (some ((-1 : Int32), S)) else ((f_X5_within   x2 (2 : Int32)).bind (fun (q3 : Int32) => if q3 = 0 then (some ((-1 : Int32), S)) else ((f_X5_forecast  S (299 : Int32)).bind (fun (q5 : St) => (iter (f_X5_turned_L36  q5 x1 x2) FU ((0 : Int32), (st_I q5 (ky 10 1)))).bind (fun (e8 : Int32) => if x2 = 0 then ((f_J6_bitCount_0f7a4   e8).bind (fun (q10 : Int32) => some (q10, q5))) else (some (e8, q5))))))))
set_option maxRecDepth 100000 in
set_option maxHeartbeats 4000000 in
theorem k_X5_turned (l : Launch) (g : GG) (hg : gd wd_C g)  (hL : hAll g) (S : St) (x1 : Int32) (x2 : Int32) (q : Int32 × St) (hf : f_X5_turned  S x1 x2 = some q) : Met l yX5_turned (Cond.code yX5_turned cX5_turned 5 (some .int) :: gw_tbl) rm_X5_turned (va_Pc [.ref (gg_o g 0), .int x1, .int x2] (wI wd_C g S)) (qc_w wd_C g q) 0 0 (aw g) := by
  refine mt_start (own := RX5) hg (by decide) rfl (Nat.le_of_ble_eq_true rfl) (fun p e s m args below meth c ls H locs cx hw hr hlk hl => ?_)
  have hx := cx.1
  have hb := cx.2.1
  have hown := cx.2.2.2.1
  have hts := cx.2.2.2.2.1
  have hl : lv_has ls 5 [(0, .ref (gg_o g 0)), (1, .int x1), (2, .int x2)] := hl
  replace hf := h_top hf
  unfold f_X5_turned at hf
  refine lv_aload_n hx hb dX5_turned_0 rfl (lv_at hl 0 rfl) ?_
  refine lv_iload_n hx hb dX5_turned_1 rfl (lv_at hl 1 rfl) ?_
  refine r_V_i (As := [.int x1]) (rest := []) cx hw hf hL.1.2.1 (by rw [hL.1.1]; rfl) lk_X5_105 (fun q1 hq => k_X5_isMan l g hg  hL S x1 q1 hq) ⟨⟨rfl, rfl⟩, Nat.le_of_ble_eq_true rfl, Nat.le_of_ble_eq_true rfl⟩ rfl hl.1 rfl (Nat.le_of_ble_eq_true rfl) dX5_turned_2 ⟨Nat.zero_le _, Nat.zero_le _⟩ (fun q1 H locs hw hf => ?_)
  refine lv_if_eq hx hb dX5_turned_5 (tgt := 16) rfl (fun hc2 => ?_) (fun hc2 => ?_)
  · replace hf := h_pos hc2 hf
    refine lv_iconst (v := -1) hx hb dX5_turned_16 (by decide) ?_
    exact r_iretw cx hw hr hlk hf dX5_turned_17
  replace hf := h_neg hc2 hf
  refine lv_iload_n hx hb dX5_turned_8 rfl (lv_at hl 2 rfl) ?_
  refine lv_iconst (v := 2) hx hb dX5_turned_9 (by decide) ?_
  refine r_S_i (As := [.int x2, .int (2 : Int32)]) (rest := []) cx hw hf lk_X5_112 (fun q3 hq => k_X5_within l g hg   S x2 (2 : Int32) q3 hq) ⟨⟨rfl, rfl⟩, Nat.le_of_ble_eq_true rfl, Nat.le_of_ble_eq_true rfl⟩ rfl hl.1 rfl (Nat.le_of_ble_eq_true rfl) dX5_turned_10 ⟨Nat.zero_le _, Nat.zero_le _⟩ (fun q3 H locs hw hf => ?_)
  refine lv_if_ne hx hb dX5_turned_13 (tgt := 18) rfl (fun hc4 => ?_) (fun hc4 => ?_)
  · replace hf := h_neg hc4 hf
    refine lv_aload_n hx hb dX5_turned_18 rfl (lv_at hl 0 rfl) ?_
    refine lv_sipush (v := 299) hx hb dX5_turned_19 (by decide) ?_
    refine r_V_v (As := [.int (299 : Int32)]) (rest := []) cx hw hf hL.1.2.1 (by rw [hL.1.1]; rfl) lk_X5_249 (fun q5 hq => k_X5_forecast l g hg  hL S (299 : Int32) q5 hq) ⟨⟨rfl, rfl⟩, Nat.le_of_ble_eq_true rfl, Nat.le_of_ble_eq_true rfl⟩ rfl hl.1 rfl (Nat.le_of_ble_eq_true rfl) dX5_turned_22 ⟨Nat.zero_le _, Nat.zero_le _⟩ (fun q5 H locs hw hf => ?_)
    refine lv_iconst (v := 0) hx hb dX5_turned_25 (by decide) ?_
    refine lv_istore_n hx hb dX5_turned_26 rfl hl (by decide) (lv' := [(3, .int (0 : Int32)), (0, .ref (gg_o g 0)), (1, .int x1), (2, .int x2)]) rfl (fun ls hl => ?_)
    refine lv_aload_n hx hb dX5_turned_27 rfl (lv_at hl 1 rfl) ?_
    refine gf_X5_39 cx hw hL.1 dX5_turned_28 ?_
    refine gf_X5_147 cx hw (hL.2.2.2.1 0 (by decide)) dX5_turned_31 ?_
    refine lv_istore hx hb dX5_turned_34 hl (by decide) (lv' := [(4, .int (st_I q5 (ky 10 1))), (3, .int (0 : Int32)), (0, .ref (gg_o g 0)), (1, .int x1), (2, .int x2)]) rfl (fun ls hl => ?_)
    have L36 : ∀ (S : St) (x1 : Int32) (x2 : Int32) (aft36 : Int32 → Option (Int32 × St)), (∀ (ls : Array Slot) (H : Heap) (locs : List Loc) (e3 : Int32), lv_has ls 5 [(2, .int x2), (3, .int e3)] → HH wd_C g s S H locs → aft36 e3 = some q → W p l e rm_X5_turned s m args below meth c H locs 0 0 (MQ below (qc_w wd_C g q) args s 0 0 (aw g)) (F0 m 60 ls [])) → ∀ (n36 : Nat) (ls : Array Slot) (H : Heap) (locs : List Loc) (z36 : Int32 × Int32), lv_has ls 5 [(0, .ref (gg_o g 0)), (1, .int x1), (2, .int x2), (3, .int z36.1), (4, .int z36.2)] → HH wd_C g s S H locs → (iter (f_X5_turned_L36  S x1 x2) n36 z36).bind aft36 = some q → W p l e rm_X5_turned s m args below meth c H locs 0 0 (MQ below (qc_w wd_C g q) args s 0 0 (aw g)) (F0 m 36 ls []) := by
      intro S x1 x2 aft36 hX36 n36
      induction n36 with
      | zero => intro ls H locs z36 hl hw hf; exact h_iter0 hf
      | succ n36 ih36 =>
        intro ls H locs z36 hl hw hf
        replace hf := h_iter hf
        unfold f_X5_turned_L36 at hf
        refine lv_iload hx hb dX5_turned_36 (lv_at hl 4 rfl) ?_
        refine lv_sipush (v := 299) hx hb dX5_turned_38 (by decide) ?_
        refine lv_icmp_gt hx hb dX5_turned_41 (tgt := 60) rfl (fun hc6 => ?_) (fun hc6 => ?_)
        · replace hf := h_pos hc6 hf
          exact hX36 _ _ _ z36.1 (lv_sub hl [2, 3] rfl) hw hf
        replace hf := h_neg hc6 hf
        refine lv_iload_n hx hb dX5_turned_44 rfl (lv_at hl 3 rfl) ?_
        refine lv_aload_n hx hb dX5_turned_45 rfl (lv_at hl 0 rfl) ?_
        refine lv_iload_n hx hb dX5_turned_46 rfl (lv_at hl 1 rfl) ?_
        refine lv_iload hx hb dX5_turned_47 (lv_at hl 4 rfl) ?_
        refine r_V_i (As := [.int x1, .int z36.2]) (rest := [.int z36.1]) cx hw hf hL.1.2.1 (by rw [hL.1.1]; rfl) lk_X5_264 (fun q7 hq => k_X5_mirrorsWith l g hg  hL S x1 z36.2 q7 hq) ⟨⟨rfl, rfl⟩, Nat.le_of_ble_eq_true rfl, Nat.le_of_ble_eq_true rfl⟩ rfl hl.1 rfl (Nat.le_of_ble_eq_true rfl) dX5_turned_49 ⟨Nat.zero_le _, Nat.zero_le _⟩ (fun q7 H locs hw hf => ?_)
        refine lv_ior hx hb dX5_turned_52 ?_
        refine lv_istore_n hx hb dX5_turned_53 rfl hl (by decide) (lv' := [(3, .int (z36.1 ||| q7)), (0, .ref (gg_o g 0)), (1, .int x1), (2, .int x2), (4, .int z36.2)]) rfl (fun ls hl => ?_)
        refine lv_iinc hx hb dX5_turned_54 hl (k := 4) rfl (congrArg (HAdd.hAdd _) (show Int32.ofInt (1) = 1 by decide)) (by decide) (lv' := [(4, .int (z36.2 + 1)), (3, .int (z36.1 ||| q7)), (0, .ref (gg_o g 0)), (1, .int x1), (2, .int x2)]) rfl (fun ls hl => ?_)
        refine lv_goto hx hb dX5_turned_57 (tgt := 36) rfl ?_
        exact ih36 _ _ _ ((z36.1 ||| q7), (z36.2 + 1)) (lv_sub hl [2, 3, 4, 1, 0] rfl) hw hf
    refine L36 q5 x1 x2 _ (fun ls H locs e8 hl hw hf => ?_) FU _ _ _ ((0 : Int32), (st_I q5 (ky 10 1))) (lv_sub hl [2, 3, 4, 1, 0] rfl) hw (h_assoc hf)
    try dsimp only at hf
    refine lv_iload_n hx hb dX5_turned_60 rfl (lv_at hl 0 rfl) ?_
    refine lv_if_ne hx hb dX5_turned_61 (tgt := 71) rfl (fun hc9 => ?_) (fun hc9 => ?_)
    · replace hf := h_neg hc9 hf
      refine lv_iload_n hx hb dX5_turned_71 rfl (lv_at hl 1 rfl) ?_
      exact r_iretw cx hw hr hlk hf dX5_turned_72
    replace hf := h_pos hc9 hf
    refine lv_iload_n hx hb dX5_turned_64 rfl (lv_at hl 1 rfl) ?_
    refine r_S_i (As := [.int e8]) (rest := []) cx hw hf lk_X5_237 (fun q10 hq => k_J6_bitCount_0f7a4 l wd_C g hg   q5 e8 q10 hq) ⟨⟨rfl, rfl⟩, Nat.le_of_ble_eq_true rfl, Nat.le_of_ble_eq_true rfl⟩ rfl hl.1 rfl (Nat.le_of_ble_eq_true rfl) dX5_turned_65 ⟨Nat.zero_le _, Nat.zero_le _⟩ (fun q10 H locs hw hf => ?_)
    refine lv_goto hx hb dX5_turned_68 (tgt := 72) rfl ?_
    exact r_iretw cx hw hr hlk hf dX5_turned_72
  replace hf := h_pos hc4 hf
  refine lv_iconst (v := -1) hx hb dX5_turned_16 (by decide) ?_
  exact r_iretw cx hw hr hlk hf dX5_turned_17
theorem dX5_breaksBy_0 : decode cX5_breaksBy 0 = .ok (.aload_n 0, 1) := by decide +kernel
theorem dX5_breaksBy_1 : decode cX5_breaksBy 1 = .ok (.getfield 39, 3) := by decide +kernel
theorem dX5_breaksBy_4 : decode cX5_breaksBy 4 = .ok (.getfield 147, 3) := by decide +kernel
theorem dX5_breaksBy_7 : decode cX5_breaksBy 7 = .ok (.iconst 1, 1) := by decide +kernel
theorem dX5_breaksBy_8 : decode cX5_breaksBy 8 = .ok (.iadd, 1) := by decide +kernel
theorem dX5_breaksBy_9 : decode cX5_breaksBy 9 = .ok (.istore 4, 2) := by decide +kernel
theorem dX5_breaksBy_11 : decode cX5_breaksBy 11 = .ok (.iload 4, 2) := by decide +kernel
theorem dX5_breaksBy_13 : decode cX5_breaksBy 13 = .ok (.iload_n 3, 1) := by decide +kernel
theorem dX5_breaksBy_14 : decode cX5_breaksBy 14 = .ok (.if_icmp .gt 25, 3) := by decide +kernel
theorem dX5_breaksBy_17 : decode cX5_breaksBy 17 = .ok (.aload_n 0, 1) := by decide +kernel
theorem dX5_breaksBy_18 : decode cX5_breaksBy 18 = .ok (.getfield 27, 3) := by decide +kernel
theorem dX5_breaksBy_21 : decode cX5_breaksBy 21 = .ok (.iload_n 2, 1) := by decide +kernel
theorem dX5_breaksBy_22 : decode cX5_breaksBy 22 = .ok (.iload 4, 2) := by decide +kernel
theorem dX5_breaksBy_24 : decode cX5_breaksBy 24 = .ok (.iload_n 1, 1) := by decide +kernel
theorem dX5_breaksBy_25 : decode cX5_breaksBy 25 = .ok (.invokevirtual 277, 3) := by decide +kernel
theorem dX5_breaksBy_28 : decode cX5_breaksBy 28 = .ok (.ifCond .eq 5, 3) := by decide +kernel
theorem dX5_breaksBy_31 : decode cX5_breaksBy 31 = .ok (.iconst 1, 1) := by decide +kernel
theorem dX5_breaksBy_32 : decode cX5_breaksBy 32 = .ok (.ireturn, 1) := by decide +kernel
theorem dX5_breaksBy_33 : decode cX5_breaksBy 33 = .ok (.iinc 4 1, 3) := by decide +kernel
theorem dX5_breaksBy_36 : decode cX5_breaksBy 36 = .ok (.goto (-25), 3) := by decide +kernel
theorem dX5_breaksBy_39 : decode cX5_breaksBy 39 = .ok (.iconst 0, 1) := by decide +kernel
theorem dX5_breaksBy_40 : decode cX5_breaksBy 40 = .ok (.ireturn, 1) := by decide +kernel
abbrev rm_X5_breaksBy : Room := { frames := 3, cells := 0, slots := 0, locals := 68 }
def f_X5_breaksBy_L11 (S : St) (x1 : Int32) (x2 : Int32) (x3 : Int32) (z11 : Int32) : Option ((Int32) ⊕ (Int32)) :=
  if x3 < z11 then (some (.inr (0 : Int32))) else (chk (isT (st_P S (ky 0 4))) ((f_X4_breaksAt (st_P S (ky 0 4)) S x2 z11 x1).bind (fun (q3 : Int32) => if q3 = 0 then (some (.inl (z11 + 1))) else (some (.inr (1 : Int32))))))
def f_X5_breaksBy (S : St) (x1 : Int32) (x2 : Int32) (x3 : Int32) : Option (Int32) :=
  iter (f_X5_breaksBy_L11  S x1 x2 x3) FU ((st_I S (ky 10 1)) + (1 : Int32))
set_option maxRecDepth 100000 in
set_option maxHeartbeats 4000000 in
theorem k_X5_breaksBy (l : Launch) (g : GG) (hg : gd wd_C g)  (hL : hAll g) (S : St) (x1 : Int32) (x2 : Int32) (x3 : Int32) (q : Int32) (hf : f_X5_breaksBy  S x1 x2 x3 = some q) : Met l yX5_breaksBy (Cond.code yX5_breaksBy cX5_breaksBy 5 (some .boolean) :: gw_tbl) rm_X5_breaksBy (va_Pc [.ref (gg_o g 0), .int x1, .int x2, .int x3] (wI wd_C g S)) (qc_i wd_C g S q) 0 0 (aw g) := by
  refine mt_start (own := RX5) hg (by decide) rfl (Nat.le_of_ble_eq_true rfl) (fun p e s m args below meth c ls H locs cx hw hr hlk hl => ?_)
  have hx := cx.1
  have hb := cx.2.1
  have hown := cx.2.2.2.1
  have hts := cx.2.2.2.2.1
  have hl : lv_has ls 5 [(0, .ref (gg_o g 0)), (1, .int x1), (2, .int x2), (3, .int x3)] := hl
  replace hf := h_top hf
  unfold f_X5_breaksBy at hf
  refine lv_aload_n hx hb dX5_breaksBy_0 rfl (lv_at hl 0 rfl) ?_
  refine gf_X5_39 cx hw hL.1 dX5_breaksBy_1 ?_
  refine gf_X5_147 cx hw (hL.2.2.2.1 0 (by decide)) dX5_breaksBy_4 ?_
  refine lv_iconst (v := 1) hx hb dX5_breaksBy_7 (by decide) ?_
  refine lv_iadd hx hb dX5_breaksBy_8 ?_
  refine lv_istore hx hb dX5_breaksBy_9 hl (by decide) (lv' := [(4, .int ((st_I S (ky 10 1)) + (1 : Int32))), (0, .ref (gg_o g 0)), (1, .int x1), (2, .int x2), (3, .int x3)]) rfl (fun ls hl => ?_)
  have L11 : ∀ (x1 : Int32) (x2 : Int32) (x3 : Int32) (aft11 : Int32 → Option (Int32)), (∀ v : Int32, aft11 v = some q → (some v : Option (Int32)).bind some = some q) → ∀ (n11 : Nat) (ls : Array Slot) (H : Heap) (locs : List Loc) (z11 : Int32), lv_has ls 5 [(0, .ref (gg_o g 0)), (1, .int x1), (2, .int x2), (3, .int x3), (4, .int z11)] → HH wd_C g s S H locs → (iter (f_X5_breaksBy_L11  S x1 x2 x3) n11 z11).bind aft11 = some q → W p l e rm_X5_breaksBy s m args below meth c H locs 0 0 (MQ below (qc_i wd_C g S q) args s 0 0 (aw g)) (F0 m 11 ls []) := by
    intro x1 x2 x3 aft11 hR11 n11
    induction n11 with
    | zero => intro ls H locs z11 hl hw hf; exact h_iter0 hf
    | succ n11 ih11 =>
      intro ls H locs z11 hl hw hf
      replace hf := h_iter hf
      unfold f_X5_breaksBy_L11 at hf
      refine lv_iload hx hb dX5_breaksBy_11 (lv_at hl 4 rfl) ?_
      refine lv_iload_n hx hb dX5_breaksBy_13 rfl (lv_at hl 3 rfl) ?_
      refine lv_icmp_gt hx hb dX5_breaksBy_14 (tgt := 39) rfl (fun hc1 => ?_) (fun hc1 => ?_)
      · replace hf := h_pos hc1 hf
        refine lv_iconst (v := 0) hx hb dX5_breaksBy_39 (by decide) ?_
        replace hf := hR11 (0 : Int32) hf
        exact r_zret cx hw hr hlk (Or.inl rfl) hf dX5_breaksBy_40
      replace hf := h_neg hc1 hf
      refine lv_aload_n hx hb dX5_breaksBy_17 rfl (lv_at hl 0 rfl) ?_
      obtain ⟨hc2, hf⟩ := h_chk hf
      refine gf_X5_27 cx hw hL.1 dX5_breaksBy_18 ?_
      refine lv_iload_n hx hb dX5_breaksBy_21 rfl (lv_at hl 2 rfl) ?_
      refine lv_iload hx hb dX5_breaksBy_22 (lv_at hl 4 rfl) ?_
      refine lv_iload_n hx hb dX5_breaksBy_24 rfl (lv_at hl 1 rfl) ?_
      refine r_VN_i (As := [.int x2, .int z11, .int x1]) (rest := []) cx hw hf (nw_at cx) ((allT_at hL.2.2.2.2 hc2).1).2.1 (by rw [((allT_at hL.2.2.2.2 hc2).1).1]; rfl) lk_X5_277 (fun q3 hq => k_X4_breaksAt l g hg (st_P S (ky 0 4)) (allT_at hL.2.2.2.2 hc2) S x2 z11 x1 q3 hq) ⟨⟨rfl, rfl⟩, Nat.le_of_ble_eq_true rfl, Nat.le_of_ble_eq_true rfl⟩ rfl hl.1 rfl (Nat.le_of_ble_eq_true rfl) dX5_breaksBy_25 ⟨Nat.zero_le _, Nat.zero_le _⟩ (fun q3 H locs hw hf => ?_)
      refine lv_if_eq hx hb dX5_breaksBy_28 (tgt := 33) rfl (fun hc4 => ?_) (fun hc4 => ?_)
      · replace hf := h_pos hc4 hf
        refine lv_iinc hx hb dX5_breaksBy_33 hl (k := 4) rfl (congrArg (HAdd.hAdd _) (show Int32.ofInt (1) = 1 by decide)) (by decide) (lv' := [(4, .int (z11 + 1)), (0, .ref (gg_o g 0)), (1, .int x1), (2, .int x2), (3, .int x3)]) rfl (fun ls hl => ?_)
        refine lv_goto hx hb dX5_breaksBy_36 (tgt := 11) rfl ?_
        exact ih11 _ _ _ (z11 + 1) (lv_sub hl [1, 2, 3, 4, 0] rfl) hw hf
      replace hf := h_neg hc4 hf
      refine lv_iconst (v := 1) hx hb dX5_breaksBy_31 (by decide) ?_
      replace hf := hR11 (1 : Int32) hf
      exact r_zret cx hw hr hlk (Or.inr rfl) hf dX5_breaksBy_32
  exact L11 x1 x2 x3 some (fun v h => h) FU _ _ _ ((st_I S (ky 10 1)) + (1 : Int32)) (lv_sub hl [1, 2, 3, 4, 0] rfl) hw hf
theorem dX5_odds_0 : decode cX5_odds 0 = .ok (.aload_n 0, 1) := by decide +kernel
theorem dX5_odds_1 : decode cX5_odds 1 = .ok (.iload_n 1, 1) := by decide +kernel
theorem dX5_odds_2 : decode cX5_odds 2 = .ok (.invokevirtual 123, 3) := by decide +kernel
theorem dX5_odds_5 : decode cX5_odds 5 = .ok (.ifCond .eq 24, 3) := by decide +kernel
theorem dX5_odds_8 : decode cX5_odds 8 = .ok (.iload_n 2, 1) := by decide +kernel
theorem dX5_odds_9 : decode cX5_odds 9 = .ok (.sipush 300, 3) := by decide +kernel
theorem dX5_odds_12 : decode cX5_odds 12 = .ok (.invokestatic 112, 3) := by decide +kernel
theorem dX5_odds_15 : decode cX5_odds 15 = .ok (.ifCond .eq 14, 3) := by decide +kernel
theorem dX5_odds_18 : decode cX5_odds 18 = .ok (.iload_n 3, 1) := by decide +kernel
theorem dX5_odds_19 : decode cX5_odds 19 = .ok (.iconst 1, 1) := by decide +kernel
theorem dX5_odds_20 : decode cX5_odds 20 = .ok (.if_icmp .lt 9, 3) := by decide +kernel
theorem dX5_odds_23 : decode cX5_odds 23 = .ok (.iload_n 3, 1) := by decide +kernel
theorem dX5_odds_24 : decode cX5_odds 24 = .ok (.bipush 10, 2) := by decide +kernel
theorem dX5_odds_26 : decode cX5_odds 26 = .ok (.if_icmp .le 5, 3) := by decide +kernel
theorem dX5_odds_29 : decode cX5_odds 29 = .ok (.iconst (-1), 1) := by decide +kernel
theorem dX5_odds_30 : decode cX5_odds 30 = .ok (.ireturn, 1) := by decide +kernel
theorem dX5_odds_31 : decode cX5_odds 31 = .ok (.aload_n 0, 1) := by decide +kernel
theorem dX5_odds_32 : decode cX5_odds 32 = .ok (.getfield 39, 3) := by decide +kernel
theorem dX5_odds_35 : decode cX5_odds 35 = .ok (.iload_n 1, 1) := by decide +kernel
theorem dX5_odds_36 : decode cX5_odds 36 = .ok (.aload_n 0, 1) := by decide +kernel
theorem dX5_odds_37 : decode cX5_odds 37 = .ok (.getfield 39, 3) := by decide +kernel
theorem dX5_odds_40 : decode cX5_odds 40 = .ok (.getfield 147, 3) := by decide +kernel
theorem dX5_odds_43 : decode cX5_odds 43 = .ok (.invokevirtual 135, 3) := by decide +kernel
theorem dX5_odds_46 : decode cX5_odds 46 = .ok (.ifCond .eq 5, 3) := by decide +kernel
theorem dX5_odds_49 : decode cX5_odds 49 = .ok (.iload_n 3, 1) := by decide +kernel
theorem dX5_odds_50 : decode cX5_odds 50 = .ok (.ireturn, 1) := by decide +kernel
theorem dX5_odds_51 : decode cX5_odds 51 = .ok (.aload_n 0, 1) := by decide +kernel
theorem dX5_odds_52 : decode cX5_odds 52 = .ok (.getfield 39, 3) := by decide +kernel
theorem dX5_odds_55 : decode cX5_odds 55 = .ok (.getfield 147, 3) := by decide +kernel
theorem dX5_odds_58 : decode cX5_odds 58 = .ok (.iload_n 2, 1) := by decide +kernel
theorem dX5_odds_59 : decode cX5_odds 59 = .ok (.iadd, 1) := by decide +kernel
theorem dX5_odds_60 : decode cX5_odds 60 = .ok (.sipush 299, 3) := by decide +kernel
theorem dX5_odds_63 : decode cX5_odds 63 = .ok (.invokestatic 215, 3) := by decide +kernel
theorem dX5_odds_66 : decode cX5_odds 66 = .ok (.istore 4, 2) := by decide +kernel
theorem dX5_odds_68 : decode cX5_odds 68 = .ok (.iconst 0, 1) := by decide +kernel
theorem dX5_odds_69 : decode cX5_odds 69 = .ok (.istore 5, 2) := by decide +kernel
theorem dX5_odds_71 : decode cX5_odds 71 = .ok (.iconst 0, 1) := by decide +kernel
theorem dX5_odds_72 : decode cX5_odds 72 = .ok (.istore 6, 2) := by decide +kernel
theorem dX5_odds_74 : decode cX5_odds 74 = .ok (.iload 6, 2) := by decide +kernel
theorem dX5_odds_76 : decode cX5_odds 76 = .ok (.iload_n 3, 1) := by decide +kernel
theorem dX5_odds_77 : decode cX5_odds 77 = .ok (.if_icmp .ge 32, 3) := by decide +kernel
theorem dX5_odds_80 : decode cX5_odds 80 = .ok (.aload_n 0, 1) := by decide +kernel
theorem dX5_odds_81 : decode cX5_odds 81 = .ok (.iload_n 1, 1) := by decide +kernel
theorem dX5_odds_82 : decode cX5_odds 82 = .ok (.aload_n 0, 1) := by decide +kernel
theorem dX5_odds_83 : decode cX5_odds 83 = .ok (.getfield 27, 3) := by decide +kernel
theorem dX5_odds_86 : decode cX5_odds 86 = .ok (.getfield 270, 3) := by decide +kernel
theorem dX5_odds_89 : decode cX5_odds 89 = .ok (.iload 6, 2) := by decide +kernel
theorem dX5_odds_91 : decode cX5_odds 91 = .ok (.iadd, 1) := by decide +kernel
theorem dX5_odds_92 : decode cX5_odds 92 = .ok (.iload 4, 2) := by decide +kernel
theorem dX5_odds_94 : decode cX5_odds 94 = .ok (.invokevirtual 273, 3) := by decide +kernel
theorem dX5_odds_97 : decode cX5_odds 97 = .ok (.ifCond .eq 6, 3) := by decide +kernel
theorem dX5_odds_100 : decode cX5_odds 100 = .ok (.iinc 5 1, 3) := by decide +kernel
theorem dX5_odds_103 : decode cX5_odds 103 = .ok (.iinc 6 1, 3) := by decide +kernel
theorem dX5_odds_106 : decode cX5_odds 106 = .ok (.goto (-32), 3) := by decide +kernel
theorem dX5_odds_109 : decode cX5_odds 109 = .ok (.iload 5, 2) := by decide +kernel
theorem dX5_odds_111 : decode cX5_odds 111 = .ok (.ireturn, 1) := by decide +kernel
abbrev rm_X5_odds : Room := { frames := 4, cells := 0, slots := 0, locals := 92 }
def f_X5_odds_L74 (S : St) (x1 : Int32) (x3 : Int32) (x4 : Int32) (z74 : Int32 × Int32) : Option ((Int32 × Int32) ⊕ (Int32)) :=
  if x3 ≤ z74.2 then (some (.inr z74.1)) else (chk (isT (st_P S (ky 0 4))) ((f_X5_breaksBy  S x1 ((st_I S (ky (st_P S (ky 0 4)) 5)) + z74.2) x4).bind (fun (q12 : Int32) => if q12 = 0 then (some (.inl (z74.1, (z74.2 + 1)))) else (some (.inl ((z74.1 + 1), (z74.2 + 1)))))))
def f_X5_odds (S : St) (x1 : Int32) (x2 : Int32) (x3 : Int32) : Option (Int32) :=
  (f_X5_isMirror  S x1).bind (fun (q1 : Int32) => if q1 = 0 then (some (-1 : Int32)) else ((f_X5_within   x2 (300 : Int32)).bind (fun (q3 : Int32) => if q3 = 0 then (some (-1 : Int32)) else (if x3 < (1 : Int32) then (some (-1 : Int32)) else (if x3 ≤ (10 : Int32) then ((f_X0_isBroken 10 S x1 (st_I S (ky 10 1))).bind (fun (q7 : Int32) => if q7 = 0 then (lt_v (i_min ((st_I S (ky 10 1)) + x2) (299 : Int32)) (fun (u9 : Int32) => iter (f_X5_odds_L74  S x1 x3 u9) FU ((0 : Int32), (0 : Int32)))) else (some x3))) else (some (-1 : Int32)))))))
set_option maxRecDepth 100000 in
set_option maxHeartbeats 4000000 in
theorem k_X5_odds (l : Launch) (g : GG) (hg : gd wd_C g)  (hL : hAll g) (S : St) (x1 : Int32) (x2 : Int32) (x3 : Int32) (q : Int32) (hf : f_X5_odds  S x1 x2 x3 = some q) : Met l yX5_odds (Cond.code yX5_odds cX5_odds 7 (some .int) :: gw_tbl) rm_X5_odds (va_Pc [.ref (gg_o g 0), .int x1, .int x2, .int x3] (wI wd_C g S)) (qc_i wd_C g S q) 0 0 (aw g) := by
  refine mt_start (own := RX5) hg (by decide) rfl (Nat.le_of_ble_eq_true rfl) (fun p e s m args below meth c ls H locs cx hw hr hlk hl => ?_)
  have hx := cx.1
  have hb := cx.2.1
  have hown := cx.2.2.2.1
  have hts := cx.2.2.2.2.1
  have hl : lv_has ls 7 [(0, .ref (gg_o g 0)), (1, .int x1), (2, .int x2), (3, .int x3)] := hl
  replace hf := h_top hf
  unfold f_X5_odds at hf
  refine lv_aload_n hx hb dX5_odds_0 rfl (lv_at hl 0 rfl) ?_
  refine lv_iload_n hx hb dX5_odds_1 rfl (lv_at hl 1 rfl) ?_
  refine r_V_i (As := [.int x1]) (rest := []) cx hw hf hL.1.2.1 (by rw [hL.1.1]; rfl) lk_X5_123 (fun q1 hq => k_X5_isMirror l g hg  hL S x1 q1 hq) ⟨⟨rfl, rfl⟩, Nat.le_of_ble_eq_true rfl, Nat.le_of_ble_eq_true rfl⟩ rfl hl.1 rfl (Nat.le_of_ble_eq_true rfl) dX5_odds_2 ⟨Nat.zero_le _, Nat.zero_le _⟩ (fun q1 H locs hw hf => ?_)
  refine lv_if_eq hx hb dX5_odds_5 (tgt := 29) rfl (fun hc2 => ?_) (fun hc2 => ?_)
  · replace hf := h_pos hc2 hf
    refine lv_iconst (v := -1) hx hb dX5_odds_29 (by decide) ?_
    exact r_iret cx hw hr hlk hf dX5_odds_30
  replace hf := h_neg hc2 hf
  refine lv_iload_n hx hb dX5_odds_8 rfl (lv_at hl 2 rfl) ?_
  refine lv_sipush (v := 300) hx hb dX5_odds_9 (by decide) ?_
  refine r_S_i (As := [.int x2, .int (300 : Int32)]) (rest := []) cx hw hf lk_X5_112 (fun q3 hq => k_X5_within l g hg   S x2 (300 : Int32) q3 hq) ⟨⟨rfl, rfl⟩, Nat.le_of_ble_eq_true rfl, Nat.le_of_ble_eq_true rfl⟩ rfl hl.1 rfl (Nat.le_of_ble_eq_true rfl) dX5_odds_12 ⟨Nat.zero_le _, Nat.zero_le _⟩ (fun q3 H locs hw hf => ?_)
  refine lv_if_eq hx hb dX5_odds_15 (tgt := 29) rfl (fun hc4 => ?_) (fun hc4 => ?_)
  · replace hf := h_pos hc4 hf
    refine lv_iconst (v := -1) hx hb dX5_odds_29 (by decide) ?_
    exact r_iret cx hw hr hlk hf dX5_odds_30
  replace hf := h_neg hc4 hf
  refine lv_iload_n hx hb dX5_odds_18 rfl (lv_at hl 3 rfl) ?_
  refine lv_iconst (v := 1) hx hb dX5_odds_19 (by decide) ?_
  refine lv_icmp_lt hx hb dX5_odds_20 (tgt := 29) rfl (fun hc5 => ?_) (fun hc5 => ?_)
  · replace hf := h_pos hc5 hf
    refine lv_iconst (v := -1) hx hb dX5_odds_29 (by decide) ?_
    exact r_iret cx hw hr hlk hf dX5_odds_30
  replace hf := h_neg hc5 hf
  refine lv_iload_n hx hb dX5_odds_23 rfl (lv_at hl 3 rfl) ?_
  refine lv_bipush (v := 10) hx hb dX5_odds_24 (by decide) ?_
  refine lv_icmp_le hx hb dX5_odds_26 (tgt := 31) rfl (fun hc6 => ?_) (fun hc6 => ?_)
  · replace hf := h_pos hc6 hf
    refine lv_aload_n hx hb dX5_odds_31 rfl (lv_at hl 0 rfl) ?_
    refine gf_X5_39 cx hw hL.1 dX5_odds_32 ?_
    refine lv_iload_n hx hb dX5_odds_35 rfl (lv_at hl 1 rfl) ?_
    refine lv_aload_n hx hb dX5_odds_36 rfl (lv_at hl 0 rfl) ?_
    refine gf_X5_39 cx hw hL.1 dX5_odds_37 ?_
    refine gf_X5_147 cx hw (hL.2.2.2.1 0 (by decide)) dX5_odds_40 ?_
    refine r_VN_i (As := [.int x1, .int (st_I S (ky 10 1))]) (rest := []) cx hw hf (nw_at cx) (hL.2.2.2.1 0 (by decide)).2.1 (by rw [(hL.2.2.2.1 0 (by decide)).1]; rfl) lk_X5_135 (fun q7 hq => k_X0_isBroken l g hg 10 (hL.2.2.2.1 0 (by decide)) hL.2.2.2.2 S x1 (st_I S (ky 10 1)) q7 hq) ⟨⟨rfl, rfl⟩, Nat.le_of_ble_eq_true rfl, Nat.le_of_ble_eq_true rfl⟩ rfl hl.1 rfl (Nat.le_of_ble_eq_true rfl) dX5_odds_43 ⟨Nat.zero_le _, Nat.zero_le _⟩ (fun q7 H locs hw hf => ?_)
    refine lv_if_eq hx hb dX5_odds_46 (tgt := 51) rfl (fun hc8 => ?_) (fun hc8 => ?_)
    · replace hf := h_pos hc8 hf
      refine lv_aload_n hx hb dX5_odds_51 rfl (lv_at hl 0 rfl) ?_
      refine gf_X5_39 cx hw hL.1 dX5_odds_52 ?_
      refine gf_X5_147 cx hw (hL.2.2.2.1 0 (by decide)) dX5_odds_55 ?_
      refine lv_iload_n hx hb dX5_odds_58 rfl (lv_at hl 2 rfl) ?_
      refine lv_iadd hx hb dX5_odds_59 ?_
      refine lv_sipush (v := 299) hx hb dX5_odds_60 (by decide) ?_
      refine va_mmin hx hb (cx.2.2.1.trans hl.1.symm) hown (hts _ wd_892) (hts _ wd_344) (hts _ wd_7) (hts _ wd_345) (Nat.le_of_ble_eq_true rfl) (Nat.le_of_ble_eq_true rfl) (Nat.zero_le _) (Nat.zero_le _) dX5_odds_63 ?_
      refine r_leti hf (fun u9 hf => ?_)
      refine lv_istore hx hb dX5_odds_66 hl (by decide) (lv' := [(4, .int u9), (0, .ref (gg_o g 0)), (1, .int x1), (2, .int x2), (3, .int x3)]) rfl (fun ls hl => ?_)
      refine lv_iconst (v := 0) hx hb dX5_odds_68 (by decide) ?_
      refine lv_istore hx hb dX5_odds_69 hl (by decide) (lv' := [(5, .int (0 : Int32)), (4, .int u9), (0, .ref (gg_o g 0)), (1, .int x1), (2, .int x2), (3, .int x3)]) rfl (fun ls hl => ?_)
      refine lv_iconst (v := 0) hx hb dX5_odds_71 (by decide) ?_
      refine lv_istore hx hb dX5_odds_72 hl (by decide) (lv' := [(6, .int (0 : Int32)), (5, .int (0 : Int32)), (4, .int u9), (0, .ref (gg_o g 0)), (1, .int x1), (2, .int x2), (3, .int x3)]) rfl (fun ls hl => ?_)
      have L74 : ∀ (x1 : Int32) (x3 : Int32) (x4 : Int32) (aft74 : Int32 → Option (Int32)), (∀ v : Int32, aft74 v = some q → (some v : Option (Int32)).bind some = some q) → ∀ (n74 : Nat) (ls : Array Slot) (H : Heap) (locs : List Loc) (z74 : Int32 × Int32), lv_has ls 7 [(0, .ref (gg_o g 0)), (1, .int x1), (3, .int x3), (4, .int x4), (5, .int z74.1), (6, .int z74.2)] → HH wd_C g s S H locs → (iter (f_X5_odds_L74  S x1 x3 x4) n74 z74).bind aft74 = some q → W p l e rm_X5_odds s m args below meth c H locs 0 0 (MQ below (qc_i wd_C g S q) args s 0 0 (aw g)) (F0 m 74 ls []) := by
        intro x1 x3 x4 aft74 hR74 n74
        induction n74 with
        | zero => intro ls H locs z74 hl hw hf; exact h_iter0 hf
        | succ n74 ih74 =>
          intro ls H locs z74 hl hw hf
          replace hf := h_iter hf
          unfold f_X5_odds_L74 at hf
          refine lv_iload hx hb dX5_odds_74 (lv_at hl 5 rfl) ?_
          refine lv_iload_n hx hb dX5_odds_76 rfl (lv_at hl 2 rfl) ?_
          refine lv_icmp_ge hx hb dX5_odds_77 (tgt := 109) rfl (fun hc10 => ?_) (fun hc10 => ?_)
          · replace hf := h_pos hc10 hf
            refine lv_iload hx hb dX5_odds_109 (lv_at hl 4 rfl) ?_
            replace hf := hR74 z74.1 hf
            exact r_iret cx hw hr hlk hf dX5_odds_111
          replace hf := h_neg hc10 hf
          refine lv_aload_n hx hb dX5_odds_80 rfl (lv_at hl 0 rfl) ?_
          refine lv_iload_n hx hb dX5_odds_81 rfl (lv_at hl 1 rfl) ?_
          refine lv_aload_n hx hb dX5_odds_82 rfl (lv_at hl 0 rfl) ?_
          obtain ⟨hc11, hf⟩ := h_chk hf
          refine gf_X5_27 cx hw hL.1 dX5_odds_83 ?_
          refine gf_X5_270 cx hw ((allT_at hL.2.2.2.2 hc11).1) dX5_odds_86 ?_
          refine lv_iload hx hb dX5_odds_89 (lv_at hl 5 rfl) ?_
          refine lv_iadd hx hb dX5_odds_91 ?_
          refine lv_iload hx hb dX5_odds_92 (lv_at hl 3 rfl) ?_
          refine r_V_i (As := [.int x1, .int ((st_I S (ky (st_P S (ky 0 4)) 5)) + z74.2), .int x4]) (rest := []) cx hw hf hL.1.2.1 (by rw [hL.1.1]; rfl) lk_X5_273 (fun q12 hq => k_X5_breaksBy l g hg  hL S x1 ((st_I S (ky (st_P S (ky 0 4)) 5)) + z74.2) x4 q12 hq) ⟨⟨rfl, rfl⟩, Nat.le_of_ble_eq_true rfl, Nat.le_of_ble_eq_true rfl⟩ rfl hl.1 rfl (Nat.le_of_ble_eq_true rfl) dX5_odds_94 ⟨Nat.zero_le _, Nat.zero_le _⟩ (fun q12 H locs hw hf => ?_)
          refine lv_if_eq hx hb dX5_odds_97 (tgt := 103) rfl (fun hc13 => ?_) (fun hc13 => ?_)
          · replace hf := h_pos hc13 hf
            refine lv_iinc hx hb dX5_odds_103 hl (k := 5) rfl (congrArg (HAdd.hAdd _) (show Int32.ofInt (1) = 1 by decide)) (by decide) (lv' := [(6, .int (z74.2 + 1)), (0, .ref (gg_o g 0)), (1, .int x1), (3, .int x3), (4, .int x4), (5, .int z74.1)]) rfl (fun ls hl => ?_)
            refine lv_goto hx hb dX5_odds_106 (tgt := 74) rfl ?_
            exact ih74 _ _ _ (z74.1, (z74.2 + 1)) (lv_sub hl [1, 2, 3, 4, 5, 0] rfl) hw hf
          replace hf := h_neg hc13 hf
          refine lv_iinc hx hb dX5_odds_100 hl (k := 4) rfl (congrArg (HAdd.hAdd _) (show Int32.ofInt (1) = 1 by decide)) (by decide) (lv' := [(5, .int (z74.1 + 1)), (0, .ref (gg_o g 0)), (1, .int x1), (3, .int x3), (4, .int x4), (6, .int z74.2)]) rfl (fun ls hl => ?_)
          refine lv_iinc hx hb dX5_odds_103 hl (k := 5) rfl (congrArg (HAdd.hAdd _) (show Int32.ofInt (1) = 1 by decide)) (by decide) (lv' := [(6, .int (z74.2 + 1)), (5, .int (z74.1 + 1)), (0, .ref (gg_o g 0)), (1, .int x1), (3, .int x3), (4, .int x4)]) rfl (fun ls hl => ?_)
          refine lv_goto hx hb dX5_odds_106 (tgt := 74) rfl ?_
          exact ih74 _ _ _ ((z74.1 + 1), (z74.2 + 1)) (lv_sub hl [2, 3, 4, 5, 1, 0] rfl) hw hf
      exact L74 x1 x3 u9 some (fun v h => h) FU _ _ _ ((0 : Int32), (0 : Int32)) (lv_sub hl [3, 4, 6, 2, 1, 0] rfl) hw hf
    replace hf := h_neg hc8 hf
    refine lv_iload_n hx hb dX5_odds_49 rfl (lv_at hl 3 rfl) ?_
    exact r_iret cx hw hr hlk hf dX5_odds_50
  replace hf := h_neg hc6 hf
  refine lv_iconst (v := -1) hx hb dX5_odds_29 (by decide) ?_
  exact r_iret cx hw hr hlk hf dX5_odds_30
theorem dX5_nextRoom_0 : decode cX5_nextRoom 0 = .ok (.iconst 1, 1) := by decide +kernel
theorem dX5_nextRoom_1 : decode cX5_nextRoom 1 = .ok (.istore_n 3, 1) := by decide +kernel
theorem dX5_nextRoom_2 : decode cX5_nextRoom 2 = .ok (.iload_n 3, 1) := by decide +kernel
theorem dX5_nextRoom_3 : decode cX5_nextRoom 3 = .ok (.bipush 12, 2) := by decide +kernel
theorem dX5_nextRoom_5 : decode cX5_nextRoom 5 = .ok (.if_icmp .gt 42, 3) := by decide +kernel
theorem dX5_nextRoom_8 : decode cX5_nextRoom 8 = .ok (.aload_n 0, 1) := by decide +kernel
theorem dX5_nextRoom_9 : decode cX5_nextRoom 9 = .ok (.getfield 27, 3) := by decide +kernel
theorem dX5_nextRoom_12 : decode cX5_nextRoom 12 = .ok (.iload_n 1, 1) := by decide +kernel
theorem dX5_nextRoom_13 : decode cX5_nextRoom 13 = .ok (.iload_n 3, 1) := by decide +kernel
theorem dX5_nextRoom_14 : decode cX5_nextRoom 14 = .ok (.invokevirtual 157, 3) := by decide +kernel
theorem dX5_nextRoom_17 : decode cX5_nextRoom 17 = .ok (.istore 4, 2) := by decide +kernel
theorem dX5_nextRoom_19 : decode cX5_nextRoom 19 = .ok (.iload 4, 2) := by decide +kernel
theorem dX5_nextRoom_21 : decode cX5_nextRoom 21 = .ok (.iconst (-1), 1) := by decide +kernel
theorem dX5_nextRoom_22 : decode cX5_nextRoom 22 = .ok (.if_icmp .eq 19, 3) := by decide +kernel
theorem dX5_nextRoom_25 : decode cX5_nextRoom 25 = .ok (.aload_n 0, 1) := by decide +kernel
theorem dX5_nextRoom_26 : decode cX5_nextRoom 26 = .ok (.getfield 60, 3) := by decide +kernel
theorem dX5_nextRoom_29 : decode cX5_nextRoom 29 = .ok (.iload 4, 2) := by decide +kernel
theorem dX5_nextRoom_31 : decode cX5_nextRoom 31 = .ok (.invokestatic 212, 3) := by decide +kernel
theorem dX5_nextRoom_34 : decode cX5_nextRoom 34 = .ok (.iload_n 2, 1) := by decide +kernel
theorem dX5_nextRoom_35 : decode cX5_nextRoom 35 = .ok (.if_icmp .ne 6, 3) := by decide +kernel
theorem dX5_nextRoom_38 : decode cX5_nextRoom 38 = .ok (.iload 4, 2) := by decide +kernel
theorem dX5_nextRoom_40 : decode cX5_nextRoom 40 = .ok (.ireturn, 1) := by decide +kernel
theorem dX5_nextRoom_41 : decode cX5_nextRoom 41 = .ok (.iinc 3 1, 3) := by decide +kernel
theorem dX5_nextRoom_44 : decode cX5_nextRoom 44 = .ok (.goto (-42), 3) := by decide +kernel
theorem dX5_nextRoom_47 : decode cX5_nextRoom 47 = .ok (.bipush (-2), 2) := by decide +kernel
theorem dX5_nextRoom_49 : decode cX5_nextRoom 49 = .ok (.ireturn, 1) := by decide +kernel
abbrev rm_X5_nextRoom : Room := { frames := 2, cells := 0, slots := 0, locals := 47 }
def f_X5_nextRoom_L2 (S : St) (x1 : Int32) (x2 : Int32) (z2 : Int32) : Option ((Int32) ⊕ (Int32)) :=
  if (12 : Int32) < z2 then (some (.inr (-2 : Int32))) else (chk (isT (st_P S (ky 0 4))) ((f_X4_wayTo (st_P S (ky 0 4)) S x1 z2).bind (fun (q3 : Int32) => if q3 = (-1 : Int32) then (some (.inl (z2 + 1))) else ((f_X5_at (ky 0 13) S q3).bind (fun (q5 : Int32) => if q5 = x2 then (some (.inr q3)) else (some (.inl (z2 + 1))))))))
def f_X5_nextRoom (S : St) (x1 : Int32) (x2 : Int32) : Option (Int32) :=
  iter (f_X5_nextRoom_L2  S x1 x2) FU (1 : Int32)
set_option maxRecDepth 100000 in
set_option maxHeartbeats 4000000 in
theorem k_X5_nextRoom (l : Launch) (g : GG) (hg : gd wd_C g)  (hL : hAll g) (S : St) (x1 : Int32) (x2 : Int32) (q : Int32) (hf : f_X5_nextRoom  S x1 x2 = some q) : Met l yX5_nextRoom (Cond.code yX5_nextRoom cX5_nextRoom 5 (some .int) :: gw_tbl) rm_X5_nextRoom (va_Pc [.ref (gg_o g 0), .int x1, .int x2] (wI wd_C g S)) (qc_i wd_C g S q) 0 0 (aw g) := by
  refine mt_start (own := RX5) hg (by decide) rfl (Nat.le_of_ble_eq_true rfl) (fun p e s m args below meth c ls H locs cx hw hr hlk hl => ?_)
  have hx := cx.1
  have hb := cx.2.1
  have hown := cx.2.2.2.1
  have hts := cx.2.2.2.2.1
  have hl : lv_has ls 5 [(0, .ref (gg_o g 0)), (1, .int x1), (2, .int x2)] := hl
  replace hf := h_top hf
  unfold f_X5_nextRoom at hf
  refine lv_iconst (v := 1) hx hb dX5_nextRoom_0 (by decide) ?_
  refine lv_istore_n hx hb dX5_nextRoom_1 rfl hl (by decide) (lv' := [(3, .int (1 : Int32)), (0, .ref (gg_o g 0)), (1, .int x1), (2, .int x2)]) rfl (fun ls hl => ?_)
  have L2 : ∀ (x1 : Int32) (x2 : Int32) (aft2 : Int32 → Option (Int32)), (∀ v : Int32, aft2 v = some q → (some v : Option (Int32)).bind some = some q) → ∀ (n2 : Nat) (ls : Array Slot) (H : Heap) (locs : List Loc) (z2 : Int32), lv_has ls 5 [(0, .ref (gg_o g 0)), (1, .int x1), (2, .int x2), (3, .int z2)] → HH wd_C g s S H locs → (iter (f_X5_nextRoom_L2  S x1 x2) n2 z2).bind aft2 = some q → W p l e rm_X5_nextRoom s m args below meth c H locs 0 0 (MQ below (qc_i wd_C g S q) args s 0 0 (aw g)) (F0 m 2 ls []) := by
    intro x1 x2 aft2 hR2 n2
    induction n2 with
    | zero => intro ls H locs z2 hl hw hf; exact h_iter0 hf
    | succ n2 ih2 =>
      intro ls H locs z2 hl hw hf
      replace hf := h_iter hf
      unfold f_X5_nextRoom_L2 at hf
      refine lv_iload_n hx hb dX5_nextRoom_2 rfl (lv_at hl 3 rfl) ?_
      refine lv_bipush (v := 12) hx hb dX5_nextRoom_3 (by decide) ?_
      refine lv_icmp_gt hx hb dX5_nextRoom_5 (tgt := 47) rfl (fun hc1 => ?_) (fun hc1 => ?_)
      · replace hf := h_pos hc1 hf
        refine lv_bipush (v := -2) hx hb dX5_nextRoom_47 (by decide) ?_
        replace hf := hR2 (-2 : Int32) hf
        exact r_iret cx hw hr hlk hf dX5_nextRoom_49
      replace hf := h_neg hc1 hf
      refine lv_aload_n hx hb dX5_nextRoom_8 rfl (lv_at hl 0 rfl) ?_
      obtain ⟨hc2, hf⟩ := h_chk hf
      refine gf_X5_27 cx hw hL.1 dX5_nextRoom_9 ?_
      refine lv_iload_n hx hb dX5_nextRoom_12 rfl (lv_at hl 1 rfl) ?_
      refine lv_iload_n hx hb dX5_nextRoom_13 rfl (lv_at hl 3 rfl) ?_
      refine r_VN_i (As := [.int x1, .int z2]) (rest := []) cx hw hf (nw_at cx) ((allT_at hL.2.2.2.2 hc2).1).2.1 (by rw [((allT_at hL.2.2.2.2 hc2).1).1]; rfl) lk_X5_157 (fun q3 hq => k_X4_wayTo l g hg (st_P S (ky 0 4)) (allT_at hL.2.2.2.2 hc2) S x1 z2 q3 hq) ⟨⟨rfl, rfl⟩, Nat.le_of_ble_eq_true rfl, Nat.le_of_ble_eq_true rfl⟩ rfl hl.1 rfl (Nat.le_of_ble_eq_true rfl) dX5_nextRoom_14 ⟨Nat.zero_le _, Nat.zero_le _⟩ (fun q3 H locs hw hf => ?_)
      refine lv_istore hx hb dX5_nextRoom_17 hl (by decide) (lv' := [(4, .int q3), (0, .ref (gg_o g 0)), (1, .int x1), (2, .int x2), (3, .int z2)]) rfl (fun ls hl => ?_)
      refine lv_iload hx hb dX5_nextRoom_19 (lv_at hl 0 rfl) ?_
      refine lv_iconst (v := -1) hx hb dX5_nextRoom_21 (by decide) ?_
      refine lv_icmp_eq hx hb dX5_nextRoom_22 (tgt := 41) rfl (fun hc4 => ?_) (fun hc4 => ?_)
      · replace hf := h_pos hc4 hf
        refine lv_iinc hx hb dX5_nextRoom_41 hl (k := 4) rfl (congrArg (HAdd.hAdd _) (show Int32.ofInt (1) = 1 by decide)) (by decide) (lv' := [(3, .int (z2 + 1)), (4, .int q3), (0, .ref (gg_o g 0)), (1, .int x1), (2, .int x2)]) rfl (fun ls hl => ?_)
        refine lv_goto hx hb dX5_nextRoom_44 (tgt := 2) rfl ?_
        exact ih2 _ _ _ (z2 + 1) (lv_sub hl [2, 3, 4, 0] rfl) hw hf
      replace hf := h_neg hc4 hf
      refine lv_aload_n hx hb dX5_nextRoom_25 rfl (lv_at hl 1 rfl) ?_
      refine gf_X5_60 cx hw hL.1 dX5_nextRoom_26 ?_
      refine lv_iload hx hb dX5_nextRoom_29 (lv_at hl 0 rfl) ?_
      refine r_S_i (As := [.ref (gg_a g (ky 0 13)), .int q3]) (rest := []) cx hw hf lk_X5_212 (fun q5 hq => k_X5_at l g hg (ky 0 13) (hL.1.2.2.1 13 rfl) S q3 q5 hq) ⟨⟨rfl, rfl⟩, Nat.le_of_ble_eq_true rfl, Nat.le_of_ble_eq_true rfl⟩ rfl hl.1 rfl (Nat.le_of_ble_eq_true rfl) dX5_nextRoom_31 ⟨Nat.zero_le _, Nat.zero_le _⟩ (fun q5 H locs hw hf => ?_)
      refine lv_iload_n hx hb dX5_nextRoom_34 rfl (lv_at hl 3 rfl) ?_
      refine lv_icmp_ne hx hb dX5_nextRoom_35 (tgt := 41) rfl (fun hc6 => ?_) (fun hc6 => ?_)
      · replace hf := h_neg hc6 hf
        refine lv_iinc hx hb dX5_nextRoom_41 hl (k := 4) rfl (congrArg (HAdd.hAdd _) (show Int32.ofInt (1) = 1 by decide)) (by decide) (lv' := [(3, .int (z2 + 1)), (4, .int q3), (0, .ref (gg_o g 0)), (1, .int x1), (2, .int x2)]) rfl (fun ls hl => ?_)
        refine lv_goto hx hb dX5_nextRoom_44 (tgt := 2) rfl ?_
        exact ih2 _ _ _ (z2 + 1) (lv_sub hl [2, 3, 4, 0] rfl) hw hf
      replace hf := h_pos hc6 hf
      refine lv_iload hx hb dX5_nextRoom_38 (lv_at hl 0 rfl) ?_
      replace hf := hR2 q3 hf
      exact r_iret cx hw hr hlk hf dX5_nextRoom_40
  exact L2 x1 x2 some (fun v h => h) FU _ _ _ (1 : Int32) (lv_sub hl [1, 2, 3, 0] rfl) hw hf
theorem dX5_hidden_0 : decode cX5_hidden 0 = .ok (.aload_n 0, 1) := by decide +kernel
theorem dX5_hidden_1 : decode cX5_hidden 1 = .ok (.iload_n 1, 1) := by decide +kernel
theorem dX5_hidden_2 : decode cX5_hidden 2 = .ok (.invokevirtual 170, 3) := by decide +kernel
theorem dX5_hidden_5 : decode cX5_hidden 5 = .ok (.ifCond .eq 19, 3) := by decide +kernel
theorem dX5_hidden_8 : decode cX5_hidden 8 = .ok (.aload_n 0, 1) := by decide +kernel
theorem dX5_hidden_9 : decode cX5_hidden 9 = .ok (.iload_n 2, 1) := by decide +kernel
theorem dX5_hidden_10 : decode cX5_hidden 10 = .ok (.invokevirtual 170, 3) := by decide +kernel
theorem dX5_hidden_13 : decode cX5_hidden 13 = .ok (.ifCond .eq 11, 3) := by decide +kernel
theorem dX5_hidden_16 : decode cX5_hidden 16 = .ok (.iload_n 3, 1) := by decide +kernel
theorem dX5_hidden_17 : decode cX5_hidden 17 = .ok (.iconst 2, 1) := by decide +kernel
theorem dX5_hidden_18 : decode cX5_hidden 18 = .ok (.invokestatic 112, 3) := by decide +kernel
theorem dX5_hidden_21 : decode cX5_hidden 21 = .ok (.ifCond .ne 5, 3) := by decide +kernel
theorem dX5_hidden_24 : decode cX5_hidden 24 = .ok (.iconst (-1), 1) := by decide +kernel
theorem dX5_hidden_25 : decode cX5_hidden 25 = .ok (.ireturn, 1) := by decide +kernel
theorem dX5_hidden_26 : decode cX5_hidden 26 = .ok (.aload_n 0, 1) := by decide +kernel
theorem dX5_hidden_27 : decode cX5_hidden 27 = .ok (.iload_n 2, 1) := by decide +kernel
theorem dX5_hidden_28 : decode cX5_hidden 28 = .ok (.aload_n 0, 1) := by decide +kernel
theorem dX5_hidden_29 : decode cX5_hidden 29 = .ok (.getfield 39, 3) := by decide +kernel
theorem dX5_hidden_32 : decode cX5_hidden 32 = .ok (.invokevirtual 280, 3) := by decide +kernel
theorem dX5_hidden_35 : decode cX5_hidden 35 = .ok (.invokevirtual 258, 3) := by decide +kernel
theorem dX5_hidden_38 : decode cX5_hidden 38 = .ok (.aload_n 0, 1) := by decide +kernel
theorem dX5_hidden_39 : decode cX5_hidden 39 = .ok (.getfield 60, 3) := by decide +kernel
theorem dX5_hidden_42 : decode cX5_hidden 42 = .ok (.iload_n 1, 1) := by decide +kernel
theorem dX5_hidden_43 : decode cX5_hidden 43 = .ok (.invokestatic 212, 3) := by decide +kernel
theorem dX5_hidden_46 : decode cX5_hidden 46 = .ok (.istore 4, 2) := by decide +kernel
theorem dX5_hidden_48 : decode cX5_hidden 48 = .ok (.iload 4, 2) := by decide +kernel
theorem dX5_hidden_50 : decode cX5_hidden 50 = .ok (.sipush 1000, 3) := by decide +kernel
theorem dX5_hidden_53 : decode cX5_hidden 53 = .ok (.if_icmp .lt 6, 3) := by decide +kernel
theorem dX5_hidden_56 : decode cX5_hidden 56 = .ok (.bipush (-2), 2) := by decide +kernel
theorem dX5_hidden_58 : decode cX5_hidden 58 = .ok (.ireturn, 1) := by decide +kernel
theorem dX5_hidden_59 : decode cX5_hidden 59 = .ok (.iload_n 3, 1) := by decide +kernel
theorem dX5_hidden_60 : decode cX5_hidden 60 = .ok (.ifCond .ne 8, 3) := by decide +kernel
theorem dX5_hidden_63 : decode cX5_hidden 63 = .ok (.iload 4, 2) := by decide +kernel
theorem dX5_hidden_65 : decode cX5_hidden 65 = .ok (.goto 21, 3) := by decide +kernel
theorem dX5_hidden_68 : decode cX5_hidden 68 = .ok (.iload 4, 2) := by decide +kernel
theorem dX5_hidden_70 : decode cX5_hidden 70 = .ok (.ifCond .ne 7, 3) := by decide +kernel
theorem dX5_hidden_73 : decode cX5_hidden 73 = .ok (.iload_n 1, 1) := by decide +kernel
theorem dX5_hidden_74 : decode cX5_hidden 74 = .ok (.goto 12, 3) := by decide +kernel
theorem dX5_hidden_77 : decode cX5_hidden 77 = .ok (.aload_n 0, 1) := by decide +kernel
theorem dX5_hidden_78 : decode cX5_hidden 78 = .ok (.iload_n 1, 1) := by decide +kernel
theorem dX5_hidden_79 : decode cX5_hidden 79 = .ok (.iload 4, 2) := by decide +kernel
theorem dX5_hidden_81 : decode cX5_hidden 81 = .ok (.iconst 1, 1) := by decide +kernel
theorem dX5_hidden_82 : decode cX5_hidden 82 = .ok (.isub, 1) := by decide +kernel
theorem dX5_hidden_83 : decode cX5_hidden 83 = .ok (.invokevirtual 284, 3) := by decide +kernel
theorem dX5_hidden_86 : decode cX5_hidden 86 = .ok (.ireturn, 1) := by decide +kernel
abbrev rm_X5_hidden : Room := { frames := 3, cells := 0, slots := 0, locals := 71 }
def f_X5_hidden (S : St) (x1 : Int32) (x2 : Int32) (x3 : Int32) : Option (Int32 × St) :=
  (f_X5_isRoom  S x1).bind (fun (q1 : Int32) => if q1 = 0 then (some ((-1 : Int32), S)) else ((f_X5_isRoom  S x2).bind (fun (q3 : Int32) => if q3 = 0 then (some ((-1 : Int32), S)) else ((f_X5_within   x3 (2 : Int32)).bind (fun (q5 : Int32) => if q5 = 0 then (some ((-1 : Int32), S)) else ((f_X0_darkRooms 10 S ).bind (fun (q7 : Int32) => (f_X5_countSteps  S x2 q7).bind (fun (q8 : St) => (f_X5_at (ky 0 13) q8 x1).bind (fun (q9 : Int32) => if q9 < (1000 : Int32) then (if x3 = 0 then (some (q9, q8)) else (if q9 = 0 then (some (x1, q8)) else ((f_X5_nextRoom  q8 x1 (q9 - (1 : Int32))).bind (fun (q13 : Int32) => some (q13, q8))))) else (some ((-2 : Int32), q8)))))))))))
set_option maxRecDepth 100000 in
set_option maxHeartbeats 4000000 in
theorem k_X5_hidden (l : Launch) (g : GG) (hg : gd wd_C g)  (hL : hAll g) (S : St) (x1 : Int32) (x2 : Int32) (x3 : Int32) (q : Int32 × St) (hf : f_X5_hidden  S x1 x2 x3 = some q) : Met l yX5_hidden (Cond.code yX5_hidden cX5_hidden 5 (some .int) :: gw_tbl) rm_X5_hidden (va_Pc [.ref (gg_o g 0), .int x1, .int x2, .int x3] (wI wd_C g S)) (qc_w wd_C g q) 0 0 (aw g) := by
  refine mt_start (own := RX5) hg (by decide) rfl (Nat.le_of_ble_eq_true rfl) (fun p e s m args below meth c ls H locs cx hw hr hlk hl => ?_)
  have hx := cx.1
  have hb := cx.2.1
  have hown := cx.2.2.2.1
  have hts := cx.2.2.2.2.1
  have hl : lv_has ls 5 [(0, .ref (gg_o g 0)), (1, .int x1), (2, .int x2), (3, .int x3)] := hl
  replace hf := h_top hf
  unfold f_X5_hidden at hf
  refine lv_aload_n hx hb dX5_hidden_0 rfl (lv_at hl 0 rfl) ?_
  refine lv_iload_n hx hb dX5_hidden_1 rfl (lv_at hl 1 rfl) ?_
  refine r_V_i (As := [.int x1]) (rest := []) cx hw hf hL.1.2.1 (by rw [hL.1.1]; rfl) lk_X5_170 (fun q1 hq => k_X5_isRoom l g hg  hL S x1 q1 hq) ⟨⟨rfl, rfl⟩, Nat.le_of_ble_eq_true rfl, Nat.le_of_ble_eq_true rfl⟩ rfl hl.1 rfl (Nat.le_of_ble_eq_true rfl) dX5_hidden_2 ⟨Nat.zero_le _, Nat.zero_le _⟩ (fun q1 H locs hw hf => ?_)
  refine lv_if_eq hx hb dX5_hidden_5 (tgt := 24) rfl (fun hc2 => ?_) (fun hc2 => ?_)
  · replace hf := h_pos hc2 hf
    refine lv_iconst (v := -1) hx hb dX5_hidden_24 (by decide) ?_
    exact r_iretw cx hw hr hlk hf dX5_hidden_25
  replace hf := h_neg hc2 hf
  refine lv_aload_n hx hb dX5_hidden_8 rfl (lv_at hl 0 rfl) ?_
  refine lv_iload_n hx hb dX5_hidden_9 rfl (lv_at hl 2 rfl) ?_
  refine r_V_i (As := [.int x2]) (rest := []) cx hw hf hL.1.2.1 (by rw [hL.1.1]; rfl) lk_X5_170 (fun q3 hq => k_X5_isRoom l g hg  hL S x2 q3 hq) ⟨⟨rfl, rfl⟩, Nat.le_of_ble_eq_true rfl, Nat.le_of_ble_eq_true rfl⟩ rfl hl.1 rfl (Nat.le_of_ble_eq_true rfl) dX5_hidden_10 ⟨Nat.zero_le _, Nat.zero_le _⟩ (fun q3 H locs hw hf => ?_)
  refine lv_if_eq hx hb dX5_hidden_13 (tgt := 24) rfl (fun hc4 => ?_) (fun hc4 => ?_)
  · replace hf := h_pos hc4 hf
    refine lv_iconst (v := -1) hx hb dX5_hidden_24 (by decide) ?_
    exact r_iretw cx hw hr hlk hf dX5_hidden_25
  replace hf := h_neg hc4 hf
  refine lv_iload_n hx hb dX5_hidden_16 rfl (lv_at hl 3 rfl) ?_
  refine lv_iconst (v := 2) hx hb dX5_hidden_17 (by decide) ?_
  refine r_S_i (As := [.int x3, .int (2 : Int32)]) (rest := []) cx hw hf lk_X5_112 (fun q5 hq => k_X5_within l g hg   S x3 (2 : Int32) q5 hq) ⟨⟨rfl, rfl⟩, Nat.le_of_ble_eq_true rfl, Nat.le_of_ble_eq_true rfl⟩ rfl hl.1 rfl (Nat.le_of_ble_eq_true rfl) dX5_hidden_18 ⟨Nat.zero_le _, Nat.zero_le _⟩ (fun q5 H locs hw hf => ?_)
  refine lv_if_ne hx hb dX5_hidden_21 (tgt := 26) rfl (fun hc6 => ?_) (fun hc6 => ?_)
  · replace hf := h_neg hc6 hf
    refine lv_aload_n hx hb dX5_hidden_26 rfl (lv_at hl 0 rfl) ?_
    refine lv_iload_n hx hb dX5_hidden_27 rfl (lv_at hl 2 rfl) ?_
    refine lv_aload_n hx hb dX5_hidden_28 rfl (lv_at hl 0 rfl) ?_
    refine gf_X5_39 cx hw hL.1 dX5_hidden_29 ?_
    refine r_VN_i (As := []) (rest := [.int x2, .ref (gg_o g 0)]) cx hw hf (nw_at cx) (hL.2.2.2.1 0 (by decide)).2.1 (by rw [(hL.2.2.2.1 0 (by decide)).1]; rfl) lk_X5_280 (fun q7 hq => k_X0_darkRooms l g hg 10 (hL.2.2.2.1 0 (by decide)) hL.2.2.2.2 S  q7 hq) ⟨⟨rfl, rfl⟩, Nat.le_of_ble_eq_true rfl, Nat.le_of_ble_eq_true rfl⟩ rfl hl.1 rfl (Nat.le_of_ble_eq_true rfl) dX5_hidden_32 ⟨Nat.zero_le _, Nat.zero_le _⟩ (fun q7 H locs hw hf => ?_)
    refine r_V_v (As := [.int x2, .int q7]) (rest := []) cx hw hf hL.1.2.1 (by rw [hL.1.1]; rfl) lk_X5_258 (fun q8 hq => k_X5_countSteps l g hg  hL S x2 q7 q8 hq) ⟨⟨rfl, rfl⟩, Nat.le_of_ble_eq_true rfl, Nat.le_of_ble_eq_true rfl⟩ rfl hl.1 rfl (Nat.le_of_ble_eq_true rfl) dX5_hidden_35 ⟨Nat.zero_le _, Nat.zero_le _⟩ (fun q8 H locs hw hf => ?_)
    refine lv_aload_n hx hb dX5_hidden_38 rfl (lv_at hl 0 rfl) ?_
    refine gf_X5_60 cx hw hL.1 dX5_hidden_39 ?_
    refine lv_iload_n hx hb dX5_hidden_42 rfl (lv_at hl 1 rfl) ?_
    refine r_S_i (As := [.ref (gg_a g (ky 0 13)), .int x1]) (rest := []) cx hw hf lk_X5_212 (fun q9 hq => k_X5_at l g hg (ky 0 13) (hL.1.2.2.1 13 rfl) q8 x1 q9 hq) ⟨⟨rfl, rfl⟩, Nat.le_of_ble_eq_true rfl, Nat.le_of_ble_eq_true rfl⟩ rfl hl.1 rfl (Nat.le_of_ble_eq_true rfl) dX5_hidden_43 ⟨Nat.zero_le _, Nat.zero_le _⟩ (fun q9 H locs hw hf => ?_)
    refine lv_istore hx hb dX5_hidden_46 hl (by decide) (lv' := [(4, .int q9), (0, .ref (gg_o g 0)), (1, .int x1), (2, .int x2), (3, .int x3)]) rfl (fun ls hl => ?_)
    refine lv_iload hx hb dX5_hidden_48 (lv_at hl 0 rfl) ?_
    refine lv_sipush (v := 1000) hx hb dX5_hidden_50 (by decide) ?_
    refine lv_icmp_lt hx hb dX5_hidden_53 (tgt := 59) rfl (fun hc10 => ?_) (fun hc10 => ?_)
    · replace hf := h_pos hc10 hf
      refine lv_iload_n hx hb dX5_hidden_59 rfl (lv_at hl 4 rfl) ?_
      refine lv_if_ne hx hb dX5_hidden_60 (tgt := 68) rfl (fun hc11 => ?_) (fun hc11 => ?_)
      · replace hf := h_neg hc11 hf
        refine lv_iload hx hb dX5_hidden_68 (lv_at hl 0 rfl) ?_
        refine lv_if_ne hx hb dX5_hidden_70 (tgt := 77) rfl (fun hc12 => ?_) (fun hc12 => ?_)
        · replace hf := h_neg hc12 hf
          refine lv_aload_n hx hb dX5_hidden_77 rfl (lv_at hl 1 rfl) ?_
          refine lv_iload_n hx hb dX5_hidden_78 rfl (lv_at hl 2 rfl) ?_
          refine lv_iload hx hb dX5_hidden_79 (lv_at hl 0 rfl) ?_
          refine lv_iconst (v := 1) hx hb dX5_hidden_81 (by decide) ?_
          refine lv_isub hx hb dX5_hidden_82 ?_
          refine r_V_i (As := [.int x1, .int (q9 - (1 : Int32))]) (rest := []) cx hw hf hL.1.2.1 (by rw [hL.1.1]; rfl) lk_X5_284 (fun q13 hq => k_X5_nextRoom l g hg  hL q8 x1 (q9 - (1 : Int32)) q13 hq) ⟨⟨rfl, rfl⟩, Nat.le_of_ble_eq_true rfl, Nat.le_of_ble_eq_true rfl⟩ rfl hl.1 rfl (Nat.le_of_ble_eq_true rfl) dX5_hidden_83 ⟨Nat.zero_le _, Nat.zero_le _⟩ (fun q13 H locs hw hf => ?_)
          exact r_iretw cx hw hr hlk hf dX5_hidden_86
        replace hf := h_pos hc12 hf
        refine lv_iload_n hx hb dX5_hidden_73 rfl (lv_at hl 2 rfl) ?_
        refine lv_goto hx hb dX5_hidden_74 (tgt := 86) rfl ?_
        exact r_iretw cx hw hr hlk hf dX5_hidden_86
      replace hf := h_pos hc11 hf
      refine lv_iload hx hb dX5_hidden_63 (lv_at hl 0 rfl) ?_
      refine lv_goto hx hb dX5_hidden_65 (tgt := 86) rfl ?_
      exact r_iretw cx hw hr hlk hf dX5_hidden_86
    replace hf := h_neg hc10 hf
    refine lv_bipush (v := -2) hx hb dX5_hidden_56 (by decide) ?_
    exact r_iretw cx hw hr hlk hf dX5_hidden_58
  replace hf := h_pos hc6 hf
  refine lv_iconst (v := -1) hx hb dX5_hidden_24 (by decide) ?_
  exact r_iretw cx hw hr hlk hf dX5_hidden_25
