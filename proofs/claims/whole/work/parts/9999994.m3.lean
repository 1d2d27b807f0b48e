set_option maxRecDepth 100000 in
set_option maxHeartbeats 16000000 in
theorem c_X6_init (l : Launch) (b : GG) (h0 sz : Nat) (S1 : St) (hf : f_X6_init s0_M = some S1) : Met l yX6_init (Cond.code yX6_init cX6_init 1 none :: gw_tbl) rm_X6_init (va_Pc [.ref h0] (pr_m b h0 sz [.int 0, .null, .int 0, .null, .int 0, .null, .null, .null, .null, .null, .int 0, .int 0, .int 0, .int 0, .int 0, .int 0, .int 0, .int 0, .int 0, .int 0, .int 0, .null, .null, .null, .null, .null, .null, .null, .null, .null, .null, .null, .null, .null, .null, .null, .null, .null, .int 0, .null, .null, .null, .null, .null, .int 0, .null, .null, .null, .int 0, .null, .null, .int 0, .null, .int 0, .null, .null, .null, .int 0, .null, .null, .int 0, .int 0, .null, .null, .null, .null, .null, .int 0, .null, .null, .null, .null, .null, .null, .null])) (qc_m h0 sz (fun g S => mop b h0 g ∧ S = S1)) 52 69623 (nwA h0 sz) := by
  refine Met.ofW (cc := cX6_init) (maxL := 1) (ret := none) (by decide) rfl ?_
  intro p e s m args below meth c s₁ B hml hv
  obtain ⟨rfl, hsz, hP, hK⟩ := hv
  have hx := B.exec
  have hb := B.bytes
  have hr := B.returns
  have hts0 := atoms_spec (ws := Cond.code yX6_init cX6_init 1 none :: gw_tbl) B.pre
  have hts : ∀ z ∈ gw_tbl, z.before _ s = true := fun z hz => hts0 z (List.mem_cons_of_mem _ hz)
  have hown : s.vm.findClass RX6 = some m.cls := findClass_of_methodNamed B.named
  have hlocks := B.notSynchronized
  have hin : meth.name = "<init>" := (name_of_methodNamed B.named B.method).1
  subst hsz
  have hA : ∀ q : Nat, s.heap.size ≤ q → nwA h0 s.heap.size q := fun q h => Or.inr h
  have hD : va_D (nwA h0 s.heap.size) [(h0, .inr (6, [.int 0, .null, .int 0, .null, .int 0, .null, .null, .null, .null, .null, .int 0, .int 0, .int 0, .int 0, .int 0, .int 0, .int 0, .int 0, .int 0, .int 0, .int 0, .null, .null, .null, .null, .null, .null, .null, .null, .null, .null, .null, .null, .null, .null, .null, .null, .null, .int 0, .null, .null, .null, .null, .null, .int 0, .null, .null, .null, .int 0, .null, .null, .int 0, .null, .int 0, .null, .null, .null, .int 0, .null, .null, .int 0, .int 0, .null, .null, .null, .null, .null, .int 0, .null, .null, .null, .null, .null, .null, .null]))] := vD_iff.mpr ⟨by simp, fun x hx => by rw [List.mem_singleton.mp hx]; exact Or.inl rfl⟩
  have hS : va_S (nwA h0 s.heap.size) s.heap s.heap [] := va_S.rf
  have hl := lv_entry ([.ref h0]) (n := 1) (Nat.le_of_ble_eq_true rfl)
  rw [lg_entry_eq]
  generalize (lg_sl ([.ref h0]) ++ List.replicate (1 - (lg_sl ([.ref h0])).length) Slot.unset).toArray = ls at hl ⊢
  have hl : lv_has ls 1 [(0, .ref h0)] := hl
  have hP : va_P (gg_D b) vwCl (wX h0 [.int 0, .null, .int 0, .null, .int 0, .null, .null, .null, .null, .null, .int 0, .int 0, .int 0, .int 0, .int 0, .int 0, .int 0, .int 0, .int 0, .int 0, .int 0, .null, .null, .null, .null, .null, .null, .null, .null, .null, .null, .null, .null, .null, .null, .null, .null, .null, .int 0, .null, .null, .null, .null, .null, .int 0, .null, .null, .null, .int 0, .null, .null, .int 0, .null, .int 0, .null, .null, .null, .int 0, .null, .null, .int 0, .int 0, .null, .null, .null, .null, .null, .int 0, .null, .null, .null, .null, .null, .null, .null] []) s.heap := hP
  have hD : va_D (nwA h0 s.heap.size) (wX h0 [.int 0, .null, .int 0, .null, .int 0, .null, .null, .null, .null, .null, .int 0, .int 0, .int 0, .int 0, .int 0, .int 0, .int 0, .int 0, .int 0, .int 0, .int 0, .null, .null, .null, .null, .null, .null, .null, .null, .null, .null, .null, .null, .null, .null, .null, .null, .null, .int 0, .null, .null, .null, .null, .null, .int 0, .null, .null, .null, .int 0, .null, .null, .int 0, .null, .int 0, .null, .null, .null, .int 0, .null, .null, .int 0, .int 0, .null, .null, .null, .null, .null, .int 0, .null, .null, .null, .null, .null, .null, .null] []) := hD
  have hK : va_K (gg_D b) vwCl (tX []) s := hK
  have hr75 : ([.int 0, .null, .int 0, .null, .int 0, .null, .null, .null, .null, .null, .int 0, .int 0, .int 0, .int 0, .int 0, .int 0, .int 0, .int 0, .int 0, .int 0, .int 0, .null, .null, .null, .null, .null, .null, .null, .null, .null, .null, .null, .null, .null, .null, .null, .null, .null, .int 0, .null, .null, .null, .null, .null, .int 0, .null, .null, .null, .int 0, .null, .null, .int 0, .null, .int 0, .null, .null, .null, .int 0, .null, .null, .int 0, .int 0, .null, .null, .null, .null, .null, .int 0, .null, .null, .null, .null, .null, .null, .null] : List Value).length = 75 := rfl
  refine lv_aload_n hx hb dX6_init_0 rfl (lv_at hl 0 rfl) ?_
  refine W.objInit hx hb hown (hts _ wd_1073) (hts _ wd_22) (hts _ wd_23) rfl (by rw [hml]; exact hl.1) rfl dX6_init_1 (Nat.le_of_ble_eq_true rfl) (Nat.le_of_ble_eq_true rfl) ?_
  refine W.eq (g2 := F0 m 4 ls []) rfl ?_
  refine lv_aload_n hx hb dX6_init_4 rfl (lv_at hl 0 rfl) ?_
  refine lv_sipush (v := 2000) hx hb dX6_init_5 (by decide) ?_
  refine r_fld (b := b) (aty := .byte) (ty := .byte) (dat := .inl (fun _ => 0)) 1 2000 hx hb hts hown hin hr75 hK hP hD hS hA wd_150 rfl (fun _ => rfl) (by decide) (by decide) (Nat.le_of_ble_eq_true rfl) (Nat.le_of_ble_eq_true rfl) (Nat.le_of_ble_eq_true rfl) dX6_init_8 (by decide) wd_1128 rfl rfl (by decide +kernel) dX6_init_10 (fun q1 c1 H locs hK hP hD hS => ?_)
  refine lv_aload_n hx hb dX6_init_13 rfl (lv_at hl 0 rfl) ?_
  refine lv_sipush (v := 2000) hx hb dX6_init_14 (by decide) ?_
  refine r_fld (b := b) (aty := .byte) (ty := .byte) (dat := .inl (fun _ => 0)) 3 2000 hx hb hts hown hin hr75 hK hP hD hS hA wd_150 rfl (fun _ => rfl) (by decide) (by decide) (Nat.le_of_ble_eq_true rfl) (Nat.le_of_ble_eq_true rfl) (Nat.le_of_ble_eq_true rfl) dX6_init_17 (by decide) wd_1130 rfl rfl (by decide +kernel) dX6_init_19 (fun q2 c2 H locs hK hP hD hS => ?_)
  refine lv_aload_n hx hb dX6_init_22 rfl (lv_at hl 0 rfl) ?_
  refine lv_sipush (v := 403) hx hb dX6_init_23 (by decide) ?_
  refine r_fld (b := b) (aty := .int) (ty := .int) (dat := .inl (fun _ => 0)) 5 403 hx hb hts hown hin hr75 hK hP hD hS hA wd_148 rfl (fun _ => rfl) (by decide) (by decide) (Nat.le_of_ble_eq_true rfl) (Nat.le_of_ble_eq_true rfl) (Nat.le_of_ble_eq_true rfl) dX6_init_26 (by decide) wd_1132 rfl rfl (by decide +kernel) dX6_init_28 (fun q3 c3 H locs hK hP hD hS => ?_)
  refine lv_aload_n hx hb dX6_init_31 rfl (lv_at hl 0 rfl) ?_
  refine lv_sipush (v := 403) hx hb dX6_init_32 (by decide) ?_
  refine r_fld (b := b) (aty := .int) (ty := .int) (dat := .inl (fun _ => 0)) 6 403 hx hb hts hown hin hr75 hK hP hD hS hA wd_148 rfl (fun _ => rfl) (by decide) (by decide) (Nat.le_of_ble_eq_true rfl) (Nat.le_of_ble_eq_true rfl) (Nat.le_of_ble_eq_true rfl) dX6_init_35 (by decide) wd_1133 rfl rfl (by decide +kernel) dX6_init_37 (fun q4 c4 H locs hK hP hD hS => ?_)
  refine lv_aload_n hx hb dX6_init_40 rfl (lv_at hl 0 rfl) ?_
  refine lv_sipush (v := 403) hx hb dX6_init_41 (by decide) ?_
  refine r_fld (b := b) (aty := .int) (ty := .int) (dat := .inl (fun _ => 0)) 7 403 hx hb hts hown hin hr75 hK hP hD hS hA wd_148 rfl (fun _ => rfl) (by decide) (by decide) (Nat.le_of_ble_eq_true rfl) (Nat.le_of_ble_eq_true rfl) (Nat.le_of_ble_eq_true rfl) dX6_init_44 (by decide) wd_1134 rfl rfl (by decide +kernel) dX6_init_46 (fun q5 c5 H locs hK hP hD hS => ?_)
  refine lv_aload_n hx hb dX6_init_49 rfl (lv_at hl 0 rfl) ?_
  refine lv_sipush (v := 403) hx hb dX6_init_50 (by decide) ?_
  refine r_fld (b := b) (aty := .long) (ty := .long) (dat := .inr (.inl (fun _ => 0))) 8 403 hx hb hts hown hin hr75 hK hP hD hS hA wd_149 rfl (fun _ => rfl) (by decide) (by decide) (Nat.le_of_ble_eq_true rfl) (Nat.le_of_ble_eq_true rfl) (Nat.le_of_ble_eq_true rfl) dX6_init_53 (by decide) wd_1135 rfl rfl (by decide +kernel) dX6_init_55 (fun q6 c6 H locs hK hP hD hS => ?_)
  refine lv_aload_n hx hb dX6_init_58 rfl (lv_at hl 0 rfl) ?_
  refine lv_bipush (v := 17) hx hb dX6_init_59 (by decide) ?_
  refine r_fld (b := b) (aty := .long) (ty := .long) (dat := .inr (.inl (fun _ => 0))) 9 17 hx hb hts hown hin hr75 hK hP hD hS hA wd_149 rfl (fun _ => rfl) (by decide) (by decide) (Nat.le_of_ble_eq_true rfl) (Nat.le_of_ble_eq_true rfl) (Nat.le_of_ble_eq_true rfl) dX6_init_61 (by decide) wd_1136 rfl rfl (by decide +kernel) dX6_init_63 (fun q7 c7 H locs hK hP hD hS => ?_)
  refine lv_aload_n hx hb dX6_init_66 rfl (lv_at hl 0 rfl) ?_
  refine lv_iconst (v := -1) hx hb dX6_init_67 (by decide) ?_
  refine va_put (D := gg_D b) (ci := 6) (v := .int (-1)) (ty := .int) (C := RX6) (T := TX6) (N := 75) hx hb hts in_X6 tyX6 tyX6_ok nmX6 hown hK hP hD hS 0 rfl rfl 17 (by decide) (hts _ wd_1144) (fun _ h9 => h9) rfl (by decide +kernel) rfl rfl (by rw [f6_len]; exact Nat.le_of_ble_eq_true rfl) dX6_init_68 (fun H locs hP hD hS => ?_)
  have hP : va_P (gg_D b) vwCl (wX h0 [.int 0, .null, .int 0, .null, .int 0, .null, .null, .null, .null, .null, .int 0, .int 0, .int 0, .int 0, .int 0, .int 0, .int 0, .int (-1), .int 0, .int 0, .int 0, .null, .null, .null, .null, .null, .null, .null, .null, .null, .null, .null, .null, .null, .null, .null, .null, .null, .int 0, .null, .null, .null, .null, .null, .int 0, .null, .null, .null, .int 0, .null, .null, .int 0, .null, .int 0, .null, .null, .null, .int 0, .null, .null, .int 0, .int 0, .null, .null, .null, .null, .null, .int 0, .null, .null, .null, .null, .null, .null, .null] [(1, q1, c1, FieldType.byte, 2000, .inl (fun _ => 0)), (3, q2, c2, FieldType.byte, 2000, .inl (fun _ => 0)), (5, q3, c3, FieldType.int, 403, .inl (fun _ => 0)), (6, q4, c4, FieldType.int, 403, .inl (fun _ => 0)), (7, q5, c5, FieldType.int, 403, .inl (fun _ => 0)), (8, q6, c6, FieldType.long, 403, .inr (.inl (fun _ => 0))), (9, q7, c7, FieldType.long, 17, .inr (.inl (fun _ => 0)))]) H := hP
  have hD : va_D (nwA h0 s.heap.size) (wX h0 [.int 0, .null, .int 0, .null, .int 0, .null, .null, .null, .null, .null, .int 0, .int 0, .int 0, .int 0, .int 0, .int 0, .int 0, .int (-1), .int 0, .int 0, .int 0, .null, .null, .null, .null, .null, .null, .null, .null, .null, .null, .null, .null, .null, .null, .null, .null, .null, .int 0, .null, .null, .null, .null, .null, .int 0, .null, .null, .null, .int 0, .null, .null, .int 0, .null, .int 0, .null, .null, .null, .int 0, .null, .null, .int 0, .int 0, .null, .null, .null, .null, .null, .int 0, .null, .null, .null, .null, .null, .null, .null] [(1, q1, c1, FieldType.byte, 2000, .inl (fun _ => 0)), (3, q2, c2, FieldType.byte, 2000, .inl (fun _ => 0)), (5, q3, c3, FieldType.int, 403, .inl (fun _ => 0)), (6, q4, c4, FieldType.int, 403, .inl (fun _ => 0)), (7, q5, c5, FieldType.int, 403, .inl (fun _ => 0)), (8, q6, c6, FieldType.long, 403, .inr (.inl (fun _ => 0))), (9, q7, c7, FieldType.long, 17, .inr (.inl (fun _ => 0)))]) := hD
  have hK : va_K (gg_D b) vwCl (tX [(1, q1, c1, FieldType.byte, 2000, .inl (fun _ => 0)), (3, q2, c2, FieldType.byte, 2000, .inl (fun _ => 0)), (5, q3, c3, FieldType.int, 403, .inl (fun _ => 0)), (6, q4, c4, FieldType.int, 403, .inl (fun _ => 0)), (7, q5, c5, FieldType.int, 403, .inl (fun _ => 0)), (8, q6, c6, FieldType.long, 403, .inr (.inl (fun _ => 0))), (9, q7, c7, FieldType.long, 17, .inr (.inl (fun _ => 0)))]) s := hK
  have hr75 : ([.int 0, .null, .int 0, .null, .int 0, .null, .null, .null, .null, .null, .int 0, .int 0, .int 0, .int 0, .int 0, .int 0, .int 0, .int (-1), .int 0, .int 0, .int 0, .null, .null, .null, .null, .null, .null, .null, .null, .null, .null, .null, .null, .null, .null, .null, .null, .null, .int 0, .null, .null, .null, .null, .null, .int 0, .null, .null, .null, .int 0, .null, .null, .int 0, .null, .int 0, .null, .null, .null, .int 0, .null, .null, .int 0, .int 0, .null, .null, .null, .null, .null, .int 0, .null, .null, .null, .null, .null, .null, .null] : List Value).length = 75 := rfl
  refine lv_aload_n hx hb dX6_init_71 rfl (lv_at hl 0 rfl) ?_
  refine lv_bipush (v := 22) hx hb dX6_init_72 (by decide) ?_
  refine r_fld (b := b) (aty := .long) (ty := .long) (dat := .inr (.inl (fun _ => 0))) 21 22 hx hb hts hown hin hr75 hK hP hD hS hA wd_149 rfl (fun _ => rfl) (by decide) (by decide) (Nat.le_of_ble_eq_true rfl) (Nat.le_of_ble_eq_true rfl) (Nat.le_of_ble_eq_true rfl) dX6_init_74 (by decide) wd_1148 rfl rfl (by decide +kernel) dX6_init_76 (fun q8 c8 H locs hK hP hD hS => ?_)
  refine lv_aload_n hx hb dX6_init_79 rfl (lv_at hl 0 rfl) ?_
  refine lv_bipush (v := 22) hx hb dX6_init_80 (by decide) ?_
  refine r_fld (b := b) (aty := .int) (ty := .int) (dat := .inl (fun _ => 0)) 22 22 hx hb hts hown hin hr75 hK hP hD hS hA wd_148 rfl (fun _ => rfl) (by decide) (by decide) (Nat.le_of_ble_eq_true rfl) (Nat.le_of_ble_eq_true rfl) (Nat.le_of_ble_eq_true rfl) dX6_init_82 (by decide) wd_1149 rfl rfl (by decide +kernel) dX6_init_84 (fun q9 c9 H locs hK hP hD hS => ?_)
  refine lv_aload_n hx hb dX6_init_87 rfl (lv_at hl 0 rfl) ?_
  refine lv_bipush (v := 22) hx hb dX6_init_88 (by decide) ?_
  refine r_fld (b := b) (aty := .int) (ty := .int) (dat := .inl (fun _ => 0)) 23 22 hx hb hts hown hin hr75 hK hP hD hS hA wd_148 rfl (fun _ => rfl) (by decide) (by decide) (Nat.le_of_ble_eq_true rfl) (Nat.le_of_ble_eq_true rfl) (Nat.le_of_ble_eq_true rfl) dX6_init_90 (by decide) wd_1150 rfl rfl (by decide +kernel) dX6_init_92 (fun q10 c10 H locs hK hP hD hS => ?_)
  refine lv_aload_n hx hb dX6_init_95 rfl (lv_at hl 0 rfl) ?_
  refine lv_iconst (v := 2) hx hb dX6_init_96 (by decide) ?_
  refine r_fld (b := b) (aty := .int) (ty := .int) (dat := .inl (fun _ => 0)) 24 2 hx hb hts hown hin hr75 hK hP hD hS hA wd_148 rfl (fun _ => rfl) (by decide) (by decide) (Nat.le_of_ble_eq_true rfl) (Nat.le_of_ble_eq_true rfl) (Nat.le_of_ble_eq_true rfl) dX6_init_97 (by decide) wd_1151 rfl rfl (by decide +kernel) dX6_init_99 (fun q11 c11 H locs hK hP hD hS => ?_)
  refine lv_aload_n hx hb dX6_init_102 rfl (lv_at hl 0 rfl) ?_
  refine lv_iconst (v := 2) hx hb dX6_init_103 (by decide) ?_
  refine r_fld (b := b) (aty := .int) (ty := .int) (dat := .inl (fun _ => 0)) 25 2 hx hb hts hown hin hr75 hK hP hD hS hA wd_148 rfl (fun _ => rfl) (by decide) (by decide) (Nat.le_of_ble_eq_true rfl) (Nat.le_of_ble_eq_true rfl) (Nat.le_of_ble_eq_true rfl) dX6_init_104 (by decide) wd_1152 rfl rfl (by decide +kernel) dX6_init_106 (fun q12 c12 H locs hK hP hD hS => ?_)
  refine lv_aload_n hx hb dX6_init_109 rfl (lv_at hl 0 rfl) ?_
  refine lv_bipush (v := 24) hx hb dX6_init_110 (by decide) ?_
  refine r_fld (b := b) (aty := .int) (ty := .int) (dat := .inl (fun _ => 0)) 26 24 hx hb hts hown hin hr75 hK hP hD hS hA wd_148 rfl (fun _ => rfl) (by decide) (by decide) (Nat.le_of_ble_eq_true rfl) (Nat.le_of_ble_eq_true rfl) (Nat.le_of_ble_eq_true rfl) dX6_init_112 (by decide) wd_1153 rfl rfl (by decide +kernel) dX6_init_114 (fun q13 c13 H locs hK hP hD hS => ?_)
  refine lv_aload_n hx hb dX6_init_117 rfl (lv_at hl 0 rfl) ?_
  refine lv_bipush (v := 24) hx hb dX6_init_118 (by decide) ?_
  refine r_fld (b := b) (aty := .int) (ty := .int) (dat := .inl (fun _ => 0)) 27 24 hx hb hts hown hin hr75 hK hP hD hS hA wd_148 rfl (fun _ => rfl) (by decide) (by decide) (Nat.le_of_ble_eq_true rfl) (Nat.le_of_ble_eq_true rfl) (Nat.le_of_ble_eq_true rfl) dX6_init_120 (by decide) wd_1154 rfl rfl (by decide +kernel) dX6_init_122 (fun q14 c14 H locs hK hP hD hS => ?_)
  refine lv_aload_n hx hb dX6_init_125 rfl (lv_at hl 0 rfl) ?_
  refine lv_iconst (v := 2) hx hb dX6_init_126 (by decide) ?_
  refine r_fld (b := b) (aty := .int) (ty := .int) (dat := .inl (fun _ => 0)) 28 2 hx hb hts hown hin hr75 hK hP hD hS hA wd_148 rfl (fun _ => rfl) (by decide) (by decide) (Nat.le_of_ble_eq_true rfl) (Nat.le_of_ble_eq_true rfl) (Nat.le_of_ble_eq_true rfl) dX6_init_127 (by decide) wd_1155 rfl rfl (by decide +kernel) dX6_init_129 (fun q15 c15 H locs hK hP hD hS => ?_)
  refine lv_aload_n hx hb dX6_init_132 rfl (lv_at hl 0 rfl) ?_
  refine lv_bipush (v := 12) hx hb dX6_init_133 (by decide) ?_
  refine r_fld (b := b) (aty := .int) (ty := .int) (dat := .inl (fun _ => 0)) 29 12 hx hb hts hown hin hr75 hK hP hD hS hA wd_148 rfl (fun _ => rfl) (by decide) (by decide) (Nat.le_of_ble_eq_true rfl) (Nat.le_of_ble_eq_true rfl) (Nat.le_of_ble_eq_true rfl) dX6_init_135 (by decide) wd_1156 rfl rfl (by decide +kernel) dX6_init_137 (fun q16 c16 H locs hK hP hD hS => ?_)
  refine lv_aload_n hx hb dX6_init_140 rfl (lv_at hl 0 rfl) ?_
  refine lv_bipush (v := 12) hx hb dX6_init_141 (by decide) ?_
  refine r_fld (b := b) (aty := .int) (ty := .int) (dat := .inl (fun _ => 0)) 30 12 hx hb hts hown hin hr75 hK hP hD hS hA wd_148 rfl (fun _ => rfl) (by decide) (by decide) (Nat.le_of_ble_eq_true rfl) (Nat.le_of_ble_eq_true rfl) (Nat.le_of_ble_eq_true rfl) dX6_init_143 (by decide) wd_1157 rfl rfl (by decide +kernel) dX6_init_145 (fun q17 c17 H locs hK hP hD hS => ?_)
  refine lv_aload_n hx hb dX6_init_148 rfl (lv_at hl 0 rfl) ?_
  refine lv_iconst (v := 2) hx hb dX6_init_149 (by decide) ?_
  refine r_fld (b := b) (aty := .int) (ty := .int) (dat := .inl (fun _ => 0)) 31 2 hx hb hts hown hin hr75 hK hP hD hS hA wd_148 rfl (fun _ => rfl) (by decide) (by decide) (Nat.le_of_ble_eq_true rfl) (Nat.le_of_ble_eq_true rfl) (Nat.le_of_ble_eq_true rfl) dX6_init_150 (by decide) wd_1158 rfl rfl (by decide +kernel) dX6_init_152 (fun q18 c18 H locs hK hP hD hS => ?_)
  refine lv_aload_n hx hb dX6_init_155 rfl (lv_at hl 0 rfl) ?_
  refine lv_bipush (v := 16) hx hb dX6_init_156 (by decide) ?_
  refine r_fld (b := b) (aty := .int) (ty := .int) (dat := .inl (fun _ => 0)) 32 16 hx hb hts hown hin hr75 hK hP hD hS hA wd_148 rfl (fun _ => rfl) (by decide) (by decide) (Nat.le_of_ble_eq_true rfl) (Nat.le_of_ble_eq_true rfl) (Nat.le_of_ble_eq_true rfl) dX6_init_158 (by decide) wd_1159 rfl rfl (by decide +kernel) dX6_init_160 (fun q19 c19 H locs hK hP hD hS => ?_)
  refine lv_aload_n hx hb dX6_init_163 rfl (lv_at hl 0 rfl) ?_
  refine lv_bipush (v := 16) hx hb dX6_init_164 (by decide) ?_
  refine r_fld (b := b) (aty := .int) (ty := .int) (dat := .inl (fun _ => 0)) 33 16 hx hb hts hown hin hr75 hK hP hD hS hA wd_148 rfl (fun _ => rfl) (by decide) (by decide) (Nat.le_of_ble_eq_true rfl) (Nat.le_of_ble_eq_true rfl) (Nat.le_of_ble_eq_true rfl) dX6_init_166 (by decide) wd_1160 rfl rfl (by decide +kernel) dX6_init_168 (fun q20 c20 H locs hK hP hD hS => ?_)
  refine lv_aload_n hx hb dX6_init_171 rfl (lv_at hl 0 rfl) ?_
  refine lv_iconst (v := 2) hx hb dX6_init_172 (by decide) ?_
  refine r_fld (b := b) (aty := .int) (ty := .int) (dat := .inl (fun _ => 0)) 34 2 hx hb hts hown hin hr75 hK hP hD hS hA wd_148 rfl (fun _ => rfl) (by decide) (by decide) (Nat.le_of_ble_eq_true rfl) (Nat.le_of_ble_eq_true rfl) (Nat.le_of_ble_eq_true rfl) dX6_init_173 (by decide) wd_1161 rfl rfl (by decide +kernel) dX6_init_175 (fun q21 c21 H locs hK hP hD hS => ?_)
  refine lv_aload_n hx hb dX6_init_178 rfl (lv_at hl 0 rfl) ?_
  refine lv_iconst (v := 2) hx hb dX6_init_179 (by decide) ?_
  refine r_fld (b := b) (aty := .int) (ty := .int) (dat := .inl (fun _ => 0)) 35 2 hx hb hts hown hin hr75 hK hP hD hS hA wd_148 rfl (fun _ => rfl) (by decide) (by decide) (Nat.le_of_ble_eq_true rfl) (Nat.le_of_ble_eq_true rfl) (Nat.le_of_ble_eq_true rfl) dX6_init_180 (by decide) wd_1162 rfl rfl (by decide +kernel) dX6_init_182 (fun q22 c22 H locs hK hP hD hS => ?_)
  refine lv_aload_n hx hb dX6_init_185 rfl (lv_at hl 0 rfl) ?_
  refine lv_bipush (v := 14) hx hb dX6_init_186 (by decide) ?_
  refine r_fld (b := b) (aty := .int) (ty := .int) (dat := .inl (fun _ => 0)) 36 14 hx hb hts hown hin hr75 hK hP hD hS hA wd_148 rfl (fun _ => rfl) (by decide) (by decide) (Nat.le_of_ble_eq_true rfl) (Nat.le_of_ble_eq_true rfl) (Nat.le_of_ble_eq_true rfl) dX6_init_188 (by decide) wd_1163 rfl rfl (by decide +kernel) dX6_init_190 (fun q23 c23 H locs hK hP hD hS => ?_)
  refine lv_aload_n hx hb dX6_init_193 rfl (lv_at hl 0 rfl) ?_
  refine lv_bipush (v := 14) hx hb dX6_init_194 (by decide) ?_
  refine r_fld (b := b) (aty := .int) (ty := .int) (dat := .inl (fun _ => 0)) 37 14 hx hb hts hown hin hr75 hK hP hD hS hA wd_148 rfl (fun _ => rfl) (by decide) (by decide) (Nat.le_of_ble_eq_true rfl) (Nat.le_of_ble_eq_true rfl) (Nat.le_of_ble_eq_true rfl) dX6_init_196 (by decide) wd_1164 rfl rfl (by decide +kernel) dX6_init_198 (fun q24 c24 H locs hK hP hD hS => ?_)
  refine lv_aload_n hx hb dX6_init_201 rfl (lv_at hl 0 rfl) ?_
  refine lv_sipush (v := 260) hx hb dX6_init_202 (by decide) ?_
  refine r_fld (b := b) (aty := .boolean) (ty := .boolean) (dat := .inl (fun _ => 0)) 39 260 hx hb hts hown hin hr75 hK hP hD hS hA wd_1353 rfl (fun _ => rfl) (by decide) (by decide) (Nat.le_of_ble_eq_true rfl) (Nat.le_of_ble_eq_true rfl) (Nat.le_of_ble_eq_true rfl) dX6_init_205 (by decide) wd_1166 rfl rfl (by decide +kernel) dX6_init_207 (fun q25 c25 H locs hK hP hD hS => ?_)
  refine lv_aload_n hx hb dX6_init_210 rfl (lv_at hl 0 rfl) ?_
  refine lv_sipush (v := 260) hx hb dX6_init_211 (by decide) ?_
  refine r_fld (b := b) (aty := .int) (ty := .int) (dat := .inl (fun _ => 0)) 40 260 hx hb hts hown hin hr75 hK hP hD hS hA wd_148 rfl (fun _ => rfl) (by decide) (by decide) (Nat.le_of_ble_eq_true rfl) (Nat.le_of_ble_eq_true rfl) (Nat.le_of_ble_eq_true rfl) dX6_init_214 (by decide) wd_1167 rfl rfl (by decide +kernel) dX6_init_216 (fun q26 c26 H locs hK hP hD hS => ?_)
  refine lv_aload_n hx hb dX6_init_219 rfl (lv_at hl 0 rfl) ?_
  refine lv_sipush (v := 260) hx hb dX6_init_220 (by decide) ?_
  refine r_fld (b := b) (aty := .int) (ty := .int) (dat := .inl (fun _ => 0)) 41 260 hx hb hts hown hin hr75 hK hP hD hS hA wd_148 rfl (fun _ => rfl) (by decide) (by decide) (Nat.le_of_ble_eq_true rfl) (Nat.le_of_ble_eq_true rfl) (Nat.le_of_ble_eq_true rfl) dX6_init_223 (by decide) wd_1168 rfl rfl (by decide +kernel) dX6_init_225 (fun q27 c27 H locs hK hP hD hS => ?_)
  refine lv_aload_n hx hb dX6_init_228 rfl (lv_at hl 0 rfl) ?_
  refine lv_sipush (v := 260) hx hb dX6_init_229 (by decide) ?_
  refine r_fld (b := b) (aty := .int) (ty := .int) (dat := .inl (fun _ => 0)) 42 260 hx hb hts hown hin hr75 hK hP hD hS hA wd_148 rfl (fun _ => rfl) (by decide) (by decide) (Nat.le_of_ble_eq_true rfl) (Nat.le_of_ble_eq_true rfl) (Nat.le_of_ble_eq_true rfl) dX6_init_232 (by decide) wd_1169 rfl rfl (by decide +kernel) dX6_init_234 (fun q28 c28 H locs hK hP hD hS => ?_)
  refine lv_aload_n hx hb dX6_init_237 rfl (lv_at hl 0 rfl) ?_
  refine lv_sipush (v := 260) hx hb dX6_init_238 (by decide) ?_
  refine r_fld (b := b) (aty := .int) (ty := .int) (dat := .inl (fun _ => 0)) 43 260 hx hb hts hown hin hr75 hK hP hD hS hA wd_148 rfl (fun _ => rfl) (by decide) (by decide) (Nat.le_of_ble_eq_true rfl) (Nat.le_of_ble_eq_true rfl) (Nat.le_of_ble_eq_true rfl) dX6_init_241 (by decide) wd_1170 rfl rfl (by decide +kernel) dX6_init_243 (fun q29 c29 H locs hK hP hD hS => ?_)
  refine lv_aload_n hx hb dX6_init_246 rfl (lv_at hl 0 rfl) ?_
  refine lv_sipush (v := 840) hx hb dX6_init_247 (by decide) ?_
  refine r_fld (b := b) (aty := .int) (ty := .int) (dat := .inl (fun _ => 0)) 45 840 hx hb hts hown hin hr75 hK hP hD hS hA wd_148 rfl (fun _ => rfl) (by decide) (by decide) (Nat.le_of_ble_eq_true rfl) (Nat.le_of_ble_eq_true rfl) (Nat.le_of_ble_eq_true rfl) dX6_init_250 (by decide) wd_1172 rfl rfl (by decide +kernel) dX6_init_252 (fun q30 c30 H locs hK hP hD hS => ?_)
  refine lv_aload_n hx hb dX6_init_255 rfl (lv_at hl 0 rfl) ?_
  refine lv_sipush (v := 840) hx hb dX6_init_256 (by decide) ?_
  refine r_fld (b := b) (aty := .int) (ty := .int) (dat := .inl (fun _ => 0)) 46 840 hx hb hts hown hin hr75 hK hP hD hS hA wd_148 rfl (fun _ => rfl) (by decide) (by decide) (Nat.le_of_ble_eq_true rfl) (Nat.le_of_ble_eq_true rfl) (Nat.le_of_ble_eq_true rfl) dX6_init_259 (by decide) wd_1173 rfl rfl (by decide +kernel) dX6_init_261 (fun q31 c31 H locs hK hP hD hS => ?_)
  refine lv_aload_n hx hb dX6_init_264 rfl (lv_at hl 0 rfl) ?_
  refine lv_bipush (v := 64) hx hb dX6_init_265 (by decide) ?_
  refine r_fld (b := b) (aty := .int) (ty := .int) (dat := .inl (fun _ => 0)) 47 64 hx hb hts hown hin hr75 hK hP hD hS hA wd_148 rfl (fun _ => rfl) (by decide) (by decide) (Nat.le_of_ble_eq_true rfl) (Nat.le_of_ble_eq_true rfl) (Nat.le_of_ble_eq_true rfl) dX6_init_267 (by decide) wd_1174 rfl rfl (by decide +kernel) dX6_init_269 (fun q32 c32 H locs hK hP hD hS => ?_)
  refine lv_aload_n hx hb dX6_init_272 rfl (lv_at hl 0 rfl) ?_
  refine lv_bipush (v := 6) hx hb dX6_init_273 (by decide) ?_
  refine r_fld (b := b) (aty := .int) (ty := .int) (dat := .inl (fun _ => 0)) 49 6 hx hb hts hown hin hr75 hK hP hD hS hA wd_148 rfl (fun _ => rfl) (by decide) (by decide) (Nat.le_of_ble_eq_true rfl) (Nat.le_of_ble_eq_true rfl) (Nat.le_of_ble_eq_true rfl) dX6_init_275 (by decide) wd_1176 rfl rfl (by decide +kernel) dX6_init_277 (fun q33 c33 H locs hK hP hD hS => ?_)
  refine lv_aload_n hx hb dX6_init_280 rfl (lv_at hl 0 rfl) ?_
  refine lv_sipush (v := 400) hx hb dX6_init_281 (by decide) ?_
  refine r_fld (b := b) (aty := .int) (ty := .int) (dat := .inl (fun _ => 0)) 50 400 hx hb hts hown hin hr75 hK hP hD hS hA wd_148 rfl (fun _ => rfl) (by decide) (by decide) (Nat.le_of_ble_eq_true rfl) (Nat.le_of_ble_eq_true rfl) (Nat.le_of_ble_eq_true rfl) dX6_init_284 (by decide) wd_1177 rfl rfl (by decide +kernel) dX6_init_286 (fun q34 c34 H locs hK hP hD hS => ?_)
  refine lv_aload_n hx hb dX6_init_289 rfl (lv_at hl 0 rfl) ?_
  refine lv_sipush (v := 10800) hx hb dX6_init_290 (by decide) ?_
  refine r_fld (b := b) (aty := .int) (ty := .int) (dat := .inl (fun _ => 0)) 52 10800 hx hb hts hown hin hr75 hK hP hD hS hA wd_148 rfl (fun _ => rfl) (by decide) (by decide) (Nat.le_of_ble_eq_true rfl) (Nat.le_of_ble_eq_true rfl) (Nat.le_of_ble_eq_true rfl) dX6_init_293 (by decide) wd_1179 rfl rfl (by decide +kernel) dX6_init_295 (fun q35 c35 H locs hK hP hD hS => ?_)
  refine lv_aload_n hx hb dX6_init_298 rfl (lv_at hl 0 rfl) ?_
  refine lv_bipush (v := 8) hx hb dX6_init_299 (by decide) ?_
  refine r_fld (b := b) (aty := .int) (ty := .int) (dat := .inl (fun _ => 0)) 54 8 hx hb hts hown hin hr75 hK hP hD hS hA wd_148 rfl (fun _ => rfl) (by decide) (by decide) (Nat.le_of_ble_eq_true rfl) (Nat.le_of_ble_eq_true rfl) (Nat.le_of_ble_eq_true rfl) dX6_init_301 (by decide) wd_1181 rfl rfl (by decide +kernel) dX6_init_303 (fun q36 c36 H locs hK hP hD hS => ?_)
  refine lv_aload_n hx hb dX6_init_306 rfl (lv_at hl 0 rfl) ?_
  refine lv_bipush (v := 8) hx hb dX6_init_307 (by decide) ?_
  refine r_fld (b := b) (aty := .int) (ty := .int) (dat := .inl (fun _ => 0)) 55 8 hx hb hts hown hin hr75 hK hP hD hS hA wd_148 rfl (fun _ => rfl) (by decide) (by decide) (Nat.le_of_ble_eq_true rfl) (Nat.le_of_ble_eq_true rfl) (Nat.le_of_ble_eq_true rfl) dX6_init_309 (by decide) wd_1182 rfl rfl (by decide +kernel) dX6_init_311 (fun q37 c37 H locs hK hP hD hS => ?_)
  refine lv_aload_n hx hb dX6_init_314 rfl (lv_at hl 0 rfl) ?_
  refine lv_sipush (v := 10800) hx hb dX6_init_315 (by decide) ?_
  refine r_fld (b := b) (aty := .int) (ty := .int) (dat := .inl (fun _ => 0)) 56 10800 hx hb hts hown hin hr75 hK hP hD hS hA wd_148 rfl (fun _ => rfl) (by decide) (by decide) (Nat.le_of_ble_eq_true rfl) (Nat.le_of_ble_eq_true rfl) (Nat.le_of_ble_eq_true rfl) dX6_init_318 (by decide) wd_1183 rfl rfl (by decide +kernel) dX6_init_320 (fun q38 c38 H locs hK hP hD hS => ?_)
  refine lv_aload_n hx hb dX6_init_323 rfl (lv_at hl 0 rfl) ?_
  refine lv_bipush (v := 8) hx hb dX6_init_324 (by decide) ?_
  refine r_fld (b := b) (aty := .int) (ty := .int) (dat := .inl (fun _ => 0)) 58 8 hx hb hts hown hin hr75 hK hP hD hS hA wd_148 rfl (fun _ => rfl) (by decide) (by decide) (Nat.le_of_ble_eq_true rfl) (Nat.le_of_ble_eq_true rfl) (Nat.le_of_ble_eq_true rfl) dX6_init_326 (by decide) wd_1185 rfl rfl (by decide +kernel) dX6_init_328 (fun q39 c39 H locs hK hP hD hS => ?_)
  refine lv_aload_n hx hb dX6_init_331 rfl (lv_at hl 0 rfl) ?_
  refine lv_bipush (v := 8) hx hb dX6_init_332 (by decide) ?_
  refine r_fld (b := b) (aty := .int) (ty := .int) (dat := .inl (fun _ => 0)) 59 8 hx hb hts hown hin hr75 hK hP hD hS hA wd_148 rfl (fun _ => rfl) (by decide) (by decide) (Nat.le_of_ble_eq_true rfl) (Nat.le_of_ble_eq_true rfl) (Nat.le_of_ble_eq_true rfl) dX6_init_334 (by decide) wd_1186 rfl rfl (by decide +kernel) dX6_init_336 (fun q40 c40 H locs hK hP hD hS => ?_)
  refine lv_aload_n hx hb dX6_init_339 rfl (lv_at hl 0 rfl) ?_
  refine lv_sipush (v := 1060) hx hb dX6_init_340 (by decide) ?_
  refine r_fld (b := b) (aty := .int) (ty := .int) (dat := .inl (fun _ => 0)) 62 1060 hx hb hts hown hin hr75 hK hP hD hS hA wd_148 rfl (fun _ => rfl) (by decide) (by decide) (Nat.le_of_ble_eq_true rfl) (Nat.le_of_ble_eq_true rfl) (Nat.le_of_ble_eq_true rfl) dX6_init_343 (by decide) wd_1189 rfl rfl (by decide +kernel) dX6_init_345 (fun q41 c41 H locs hK hP hD hS => ?_)
  refine lv_aload_n hx hb dX6_init_348 rfl (lv_at hl 0 rfl) ?_
  refine lv_sipush (v := 2400) hx hb dX6_init_349 (by decide) ?_
  refine r_fld (b := b) (aty := .boolean) (ty := .boolean) (dat := .inl (fun _ => 0)) 63 2400 hx hb hts hown hin hr75 hK hP hD hS hA wd_1353 rfl (fun _ => rfl) (by decide) (by decide) (Nat.le_of_ble_eq_true rfl) (Nat.le_of_ble_eq_true rfl) (Nat.le_of_ble_eq_true rfl) dX6_init_352 (by decide) wd_1190 rfl rfl (by decide +kernel) dX6_init_354 (fun q42 c42 H locs hK hP hD hS => ?_)
  refine lv_aload_n hx hb dX6_init_357 rfl (lv_at hl 0 rfl) ?_
  refine lv_sipush (v := 2400) hx hb dX6_init_358 (by decide) ?_
  refine r_fld (b := b) (aty := .boolean) (ty := .boolean) (dat := .inl (fun _ => 0)) 64 2400 hx hb hts hown hin hr75 hK hP hD hS hA wd_1353 rfl (fun _ => rfl) (by decide) (by decide) (Nat.le_of_ble_eq_true rfl) (Nat.le_of_ble_eq_true rfl) (Nat.le_of_ble_eq_true rfl) dX6_init_361 (by decide) wd_1191 rfl rfl (by decide +kernel) dX6_init_363 (fun q43 c43 H locs hK hP hD hS => ?_)
  refine lv_aload_n hx hb dX6_init_366 rfl (lv_at hl 0 rfl) ?_
  refine lv_sipush (v := 300) hx hb dX6_init_367 (by decide) ?_
  refine r_fld (b := b) (aty := .int) (ty := .int) (dat := .inl (fun _ => 0)) 65 300 hx hb hts hown hin hr75 hK hP hD hS hA wd_148 rfl (fun _ => rfl) (by decide) (by decide) (Nat.le_of_ble_eq_true rfl) (Nat.le_of_ble_eq_true rfl) (Nat.le_of_ble_eq_true rfl) dX6_init_370 (by decide) wd_1192 rfl rfl (by decide +kernel) dX6_init_372 (fun q44 c44 H locs hK hP hD hS => ?_)
  refine lv_aload_n hx hb dX6_init_375 rfl (lv_at hl 0 rfl) ?_
  refine lv_bipush (v := 8) hx hb dX6_init_376 (by decide) ?_
  refine r_fld (b := b) (aty := .int) (ty := .int) (dat := .inl (fun _ => 0)) 66 8 hx hb hts hown hin hr75 hK hP hD hS hA wd_148 rfl (fun _ => rfl) (by decide) (by decide) (Nat.le_of_ble_eq_true rfl) (Nat.le_of_ble_eq_true rfl) (Nat.le_of_ble_eq_true rfl) dX6_init_378 (by decide) wd_1193 rfl rfl (by decide +kernel) dX6_init_380 (fun q45 c45 H locs hK hP hD hS => ?_)
  refine lv_aload_n hx hb dX6_init_383 rfl (lv_at hl 0 rfl) ?_
  refine lv_bipush (v := 20) hx hb dX6_init_384 (by decide) ?_
  refine r_fld (b := b) (aty := .int) (ty := .int) (dat := .inl (fun _ => 0)) 68 20 hx hb hts hown hin hr75 hK hP hD hS hA wd_148 rfl (fun _ => rfl) (by decide) (by decide) (Nat.le_of_ble_eq_true rfl) (Nat.le_of_ble_eq_true rfl) (Nat.le_of_ble_eq_true rfl) dX6_init_386 (by decide) wd_1195 rfl rfl (by decide +kernel) dX6_init_388 (fun q46 c46 H locs hK hP hD hS => ?_)
  refine lv_aload_n hx hb dX6_init_391 rfl (lv_at hl 0 rfl) ?_
  refine lv_bipush (v := 20) hx hb dX6_init_392 (by decide) ?_
  refine r_fld (b := b) (aty := .int) (ty := .int) (dat := .inl (fun _ => 0)) 69 20 hx hb hts hown hin hr75 hK hP hD hS hA wd_148 rfl (fun _ => rfl) (by decide) (by decide) (Nat.le_of_ble_eq_true rfl) (Nat.le_of_ble_eq_true rfl) (Nat.le_of_ble_eq_true rfl) dX6_init_394 (by decide) wd_1196 rfl rfl (by decide +kernel) dX6_init_396 (fun q47 c47 H locs hK hP hD hS => ?_)
  refine lv_aload_n hx hb dX6_init_399 rfl (lv_at hl 0 rfl) ?_
  refine lv_bipush (v := 20) hx hb dX6_init_400 (by decide) ?_
  refine r_fld (b := b) (aty := .int) (ty := .int) (dat := .inl (fun _ => 0)) 70 20 hx hb hts hown hin hr75 hK hP hD hS hA wd_148 rfl (fun _ => rfl) (by decide) (by decide) (Nat.le_of_ble_eq_true rfl) (Nat.le_of_ble_eq_true rfl) (Nat.le_of_ble_eq_true rfl) dX6_init_402 (by decide) wd_1197 rfl rfl (by decide +kernel) dX6_init_404 (fun q48 c48 H locs hK hP hD hS => ?_)
  refine lv_aload_n hx hb dX6_init_407 rfl (lv_at hl 0 rfl) ?_
  refine lv_bipush (v := 20) hx hb dX6_init_408 (by decide) ?_
  refine r_fld (b := b) (aty := .boolean) (ty := .boolean) (dat := .inl (fun _ => 0)) 71 20 hx hb hts hown hin hr75 hK hP hD hS hA wd_1353 rfl (fun _ => rfl) (by decide) (by decide) (Nat.le_of_ble_eq_true rfl) (Nat.le_of_ble_eq_true rfl) (Nat.le_of_ble_eq_true rfl) dX6_init_410 (by decide) wd_1198 rfl rfl (by decide +kernel) dX6_init_412 (fun q49 c49 H locs hK hP hD hS => ?_)
  refine lv_aload_n hx hb dX6_init_415 rfl (lv_at hl 0 rfl) ?_
  refine lv_iconst (v := 3) hx hb dX6_init_416 (by decide) ?_
  refine r_fld (b := b) (aty := .boolean) (ty := .boolean) (dat := .inl (fun _ => 0)) 72 3 hx hb hts hown hin hr75 hK hP hD hS hA wd_1353 rfl (fun _ => rfl) (by decide) (by decide) (Nat.le_of_ble_eq_true rfl) (Nat.le_of_ble_eq_true rfl) (Nat.le_of_ble_eq_true rfl) dX6_init_417 (by decide) wd_1199 rfl rfl (by decide +kernel) dX6_init_419 (fun q50 c50 H locs hK hP hD hS => ?_)
  refine lv_aload_n hx hb dX6_init_422 rfl (lv_at hl 0 rfl) ?_
  refine lv_sipush (v := 32400) hx hb dX6_init_423 (by decide) ?_
  refine r_fld (b := b) (aty := .int) (ty := .int) (dat := .inl (fun _ => 0)) 73 32400 hx hb hts hown hin hr75 hK hP hD hS hA wd_148 rfl (fun _ => rfl) (by decide) (by decide) (Nat.le_of_ble_eq_true rfl) (Nat.le_of_ble_eq_true rfl) (Nat.le_of_ble_eq_true rfl) dX6_init_426 (by decide) wd_1200 rfl rfl (by decide +kernel) dX6_init_428 (fun q51 c51 H locs hK hP hD hS => ?_)
  refine lv_aload_n hx hb dX6_init_431 rfl (lv_at hl 0 rfl) ?_
  refine lv_bipush (v := 51) hx hb dX6_init_432 (by decide) ?_
  refine r_fld (b := b) (aty := .int) (ty := .int) (dat := .inl (fun _ => 0)) 74 51 hx hb hts hown hin hr75 hK hP hD hS hA wd_148 rfl (fun _ => rfl) (by decide) (by decide) (Nat.le_of_ble_eq_true rfl) (Nat.le_of_ble_eq_true rfl) (Nat.le_of_ble_eq_true rfl) dX6_init_434 (by decide) wd_1201 rfl rfl (by decide +kernel) dX6_init_436 (fun q52 c52 H locs hK hP hD hS => ?_)
  obtain ⟨gt, hgd, h1, hDD, hgo, hPt, hKt, hDt⟩ := m_fin q1 q2 q3 q4 q5 q6 q7 q8 q9 q10 q11 q12 q13 q14 q15 q16 q17 q18 q19 q20 q21 q22 q23 q24 q25 q26 q27 q28 q29 q30 q31 q32 q33 q34 q35 q36 q37 q38 q39 q40 q41 q42 q43 q44 q45 q46 q47 q48 q49 q50 q51 q52 c1 c2 c3 c4 c5 c6 c7 c8 c9 c10 c11 c12 c13 c14 c15 c16 c17 c18 c19 c20 c21 c22 c23 c24 c25 c26 c27 c28 c29 c30 c31 c32 c33 c34 c35 c36 c37 c38 c39 c40 c41 c42 c43 c44 c45 c46 c47 c48 c49 c50 c51 c52 hP hD hK
  have hF2 : ∀ q, aw gt q → nwA h0 s.heap.size q := wA_sub hDt
  have haw : aw gt h0 := Or.inl ⟨0, h1.2.1, hgo.symm⟩
  refine w_old (fun locs1 hlo => ?_)
  have hSt : va_S (aw gt) s.heap H locs1 := ⟨hS.1, fun q a1 a2 => hS.2.1 q a1 (fun h => by
    rcases h with rfl | h
    · exact a2 haw
    · omega), fun z hz => by
    rcases hS.2.2 z (hlo z hz).1 with h | h
    · rw [h]; exact haw
    · exact absurd (hlo z hz).2 (Nat.not_lt.mpr h)⟩
  have cx : CX wd_M gt p s m _ c cX6_init 1 RX6 := ⟨hx, hb, hml, hown, hts, hKt, trivial, hgd⟩
  exact w_mono (mq_m hF2 ⟨⟨hgd, h1, hDD, hgo⟩, rfl⟩ (wD_any hDt S1)) (kt_X6_init hgd cx h1 ⟨hPt, hSt⟩ hr hlocks (by rw [hgo]; exact hl) hf)
