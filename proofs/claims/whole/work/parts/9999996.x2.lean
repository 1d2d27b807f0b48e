/-! THE CLASS'S CONSTRUCTOR. -/
theorem dX5_init_0 : decode cX5_init 0 = .ok (.aload_n 0, 1) := by decide +kernel
theorem dX5_init_1 : decode cX5_init 1 = .ok (.invokespecial 1, 3) := by decide +kernel
theorem dX5_init_4 : decode cX5_init 4 = .ok (.aload_n 0, 1) := by decide +kernel
theorem dX5_init_5 : decode cX5_init 5 = .ok (.sipush 2000, 3) := by decide +kernel
theorem dX5_init_8 : decode cX5_init 8 = .ok (.newarray .int, 2) := by decide +kernel
theorem dX5_init_10 : decode cX5_init 10 = .ok (.putfield 9, 3) := by decide +kernel
theorem dX5_init_13 : decode cX5_init 13 = .ok (.aload_n 0, 1) := by decide +kernel
theorem dX5_init_14 : decode cX5_init 14 = .ok (.iconst (-1), 1) := by decide +kernel
theorem dX5_init_15 : decode cX5_init 15 = .ok (.putfield 13, 3) := by decide +kernel
theorem dX5_init_18 : decode cX5_init 18 = .ok (.aload_n 0, 1) := by decide +kernel
theorem dX5_init_19 : decode cX5_init 19 = .ok (.new 17, 3) := by decide +kernel
theorem dX5_init_22 : decode cX5_init 22 = .ok (.dup, 1) := by decide +kernel
theorem dX5_init_23 : decode cX5_init 23 = .ok (.invokespecial 19, 3) := by decide +kernel
theorem dX5_init_26 : decode cX5_init 26 = .ok (.putfield 20, 3) := by decide +kernel
theorem dX5_init_29 : decode cX5_init 29 = .ok (.aload_n 0, 1) := by decide +kernel
theorem dX5_init_30 : decode cX5_init 30 = .ok (.new 24, 3) := by decide +kernel
theorem dX5_init_33 : decode cX5_init 33 = .ok (.dup, 1) := by decide +kernel
theorem dX5_init_34 : decode cX5_init 34 = .ok (.invokespecial 26, 3) := by decide +kernel
theorem dX5_init_37 : decode cX5_init 37 = .ok (.putfield 27, 3) := by decide +kernel
theorem dX5_init_40 : decode cX5_init 40 = .ok (.aload_n 0, 1) := by decide +kernel
theorem dX5_init_41 : decode cX5_init 41 = .ok (.new 24, 3) := by decide +kernel
theorem dX5_init_44 : decode cX5_init 44 = .ok (.dup, 1) := by decide +kernel
theorem dX5_init_45 : decode cX5_init 45 = .ok (.invokespecial 26, 3) := by decide +kernel
theorem dX5_init_48 : decode cX5_init 48 = .ok (.putfield 31, 3) := by decide +kernel
theorem dX5_init_51 : decode cX5_init 51 = .ok (.aload_n 0, 1) := by decide +kernel
theorem dX5_init_52 : decode cX5_init 52 = .ok (.new 34, 3) := by decide +kernel
theorem dX5_init_55 : decode cX5_init 55 = .ok (.dup, 1) := by decide +kernel
theorem dX5_init_56 : decode cX5_init 56 = .ok (.aload_n 0, 1) := by decide +kernel
theorem dX5_init_57 : decode cX5_init 57 = .ok (.getfield 27, 3) := by decide +kernel
theorem dX5_init_60 : decode cX5_init 60 = .ok (.invokespecial 36, 3) := by decide +kernel
theorem dX5_init_63 : decode cX5_init 63 = .ok (.putfield 39, 3) := by decide +kernel
theorem dX5_init_66 : decode cX5_init 66 = .ok (.aload_n 0, 1) := by decide +kernel
theorem dX5_init_67 : decode cX5_init 67 = .ok (.new 34, 3) := by decide +kernel
theorem dX5_init_70 : decode cX5_init 70 = .ok (.dup, 1) := by decide +kernel
theorem dX5_init_71 : decode cX5_init 71 = .ok (.aload_n 0, 1) := by decide +kernel
theorem dX5_init_72 : decode cX5_init 72 = .ok (.getfield 27, 3) := by decide +kernel
theorem dX5_init_75 : decode cX5_init 75 = .ok (.invokespecial 36, 3) := by decide +kernel
theorem dX5_init_78 : decode cX5_init 78 = .ok (.putfield 43, 3) := by decide +kernel
theorem dX5_init_81 : decode cX5_init 81 = .ok (.aload_n 0, 1) := by decide +kernel
theorem dX5_init_82 : decode cX5_init 82 = .ok (.new 46, 3) := by decide +kernel
theorem dX5_init_85 : decode cX5_init 85 = .ok (.dup, 1) := by decide +kernel
theorem dX5_init_86 : decode cX5_init 86 = .ok (.invokespecial 48, 3) := by decide +kernel
theorem dX5_init_89 : decode cX5_init 89 = .ok (.putfield 49, 3) := by decide +kernel
theorem dX5_init_92 : decode cX5_init 92 = .ok (.aload_n 0, 1) := by decide +kernel
theorem dX5_init_93 : decode cX5_init 93 = .ok (.iconst 3, 1) := by decide +kernel
theorem dX5_init_94 : decode cX5_init 94 = .ok (.anewarray 34, 3) := by decide +kernel
theorem dX5_init_97 : decode cX5_init 97 = .ok (.putfield 53, 3) := by decide +kernel
theorem dX5_init_100 : decode cX5_init 100 = .ok (.aload_n 0, 1) := by decide +kernel
theorem dX5_init_101 : decode cX5_init 101 = .ok (.bipush 80, 2) := by decide +kernel
theorem dX5_init_103 : decode cX5_init 103 = .ok (.newarray .int, 2) := by decide +kernel
theorem dX5_init_105 : decode cX5_init 105 = .ok (.putfield 57, 3) := by decide +kernel
theorem dX5_init_108 : decode cX5_init 108 = .ok (.aload_n 0, 1) := by decide +kernel
theorem dX5_init_109 : decode cX5_init 109 = .ok (.bipush 8, 2) := by decide +kernel
theorem dX5_init_111 : decode cX5_init 111 = .ok (.newarray .int, 2) := by decide +kernel
theorem dX5_init_113 : decode cX5_init 113 = .ok (.putfield 60, 3) := by decide +kernel
theorem dX5_init_116 : decode cX5_init 116 = .ok (.aload_n 0, 1) := by decide +kernel
theorem dX5_init_117 : decode cX5_init 117 = .ok (.bipush 8, 2) := by decide +kernel
theorem dX5_init_119 : decode cX5_init 119 = .ok (.newarray .int, 2) := by decide +kernel
theorem dX5_init_121 : decode cX5_init 121 = .ok (.putfield 63, 3) := by decide +kernel
theorem dX5_init_124 : decode cX5_init 124 = .ok (.aload_n 0, 1) := by decide +kernel
theorem dX5_init_125 : decode cX5_init 125 = .ok (.sipush 300, 3) := by decide +kernel
theorem dX5_init_128 : decode cX5_init 128 = .ok (.newarray .int, 2) := by decide +kernel
theorem dX5_init_130 : decode cX5_init 130 = .ok (.putfield 66, 3) := by decide +kernel
theorem dX5_init_133 : decode cX5_init 133 = .ok (.iconst 0, 1) := by decide +kernel
theorem dX5_init_134 : decode cX5_init 134 = .ok (.istore_n 1, 1) := by decide +kernel
theorem dX5_init_135 : decode cX5_init 135 = .ok (.iload_n 1, 1) := by decide +kernel
theorem dX5_init_136 : decode cX5_init 136 = .ok (.aload_n 0, 1) := by decide +kernel
theorem dX5_init_137 : decode cX5_init 137 = .ok (.getfield 53, 3) := by decide +kernel
theorem dX5_init_140 : decode cX5_init 140 = .ok (.arraylength, 1) := by decide +kernel
theorem dX5_init_141 : decode cX5_init 141 = .ok (.if_icmp .ge 26, 3) := by decide +kernel
theorem dX5_init_144 : decode cX5_init 144 = .ok (.aload_n 0, 1) := by decide +kernel
theorem dX5_init_145 : decode cX5_init 145 = .ok (.getfield 53, 3) := by decide +kernel
theorem dX5_init_148 : decode cX5_init 148 = .ok (.iload_n 1, 1) := by decide +kernel
theorem dX5_init_149 : decode cX5_init 149 = .ok (.new 34, 3) := by decide +kernel
theorem dX5_init_152 : decode cX5_init 152 = .ok (.dup, 1) := by decide +kernel
theorem dX5_init_153 : decode cX5_init 153 = .ok (.aload_n 0, 1) := by decide +kernel
theorem dX5_init_154 : decode cX5_init 154 = .ok (.getfield 27, 3) := by decide +kernel
theorem dX5_init_157 : decode cX5_init 157 = .ok (.invokespecial 36, 3) := by decide +kernel
theorem dX5_init_160 : decode cX5_init 160 = .ok (.aastore, 1) := by decide +kernel
theorem dX5_init_161 : decode cX5_init 161 = .ok (.iinc 1 1, 3) := by decide +kernel
theorem dX5_init_164 : decode cX5_init 164 = .ok (.goto (-29), 3) := by decide +kernel
theorem dX5_init_167 : decode cX5_init 167 = .ok (.return_, 1) := by decide +kernel
abbrev cI (q : Nat) (c : ClassId) (N : Nat) : Nat × va_E := (q, .inl (c, N, .inl (fun _ => 0)))
abbrev cZ (q : Nat) (c : ClassId) (f : Nat → Option Nat) : Nat × va_E := (q, .inl (c, 3, .inr (.inr (.inr (.inr f)))))
abbrev oX (h0 : Nat) (fs : List Value) : Nat × va_E := (h0, .inr (5, fs))
def cop (b : GG) (h0 : Nat) (g : GG) (S : St) : Prop := gd wd_C g ∧ hAll g ∧ kn g b ∧ gg_o g 0 = h0 ∧ RC 2 A00 S
def pr_x (b : GG) (h0 sz : Nat) (fs : List Value) (U : State) : Prop := pr_n b h0 sz 5 fs U ∧ va_AO RX0 U
theorem px_blind {b : GG} {h0 sz : Nat} {fs av : List Value} : FrameBlind (va_Pc av (pr_x b h0 sz fs)) := by
  intro a U g mk h
  obtain ⟨h0, h1, h2⟩ := h
  have h3 := (pr_blind (fs := fs) (av := av)) a U g mk ⟨h0, h1⟩
  exact ⟨h3.1, h3.2, va_AO.moved (u := U) (U := U.calling g mk a) (Vm.Alike.refl U.vm) h2⟩
abbrev rm_X5_init : Room := { frames := 12, cells := 84, slots := 50439, locals := 400 }
set_option maxRecDepth 100000 in
set_option maxHeartbeats 16000000 in
theorem c_X5_init (l : Launch) (b : GG) (h0 sz : Nat) : Met l yX5_init (Cond.code yX5_init cX5_init 2 none :: gw_tbl) rm_X5_init (va_Pc [.ref h0] (pr_x b h0 sz [.null, .int 0, .int 0, .null, .null, .null, .null, .null, .null, .null, .int 0, .null, .int 0, .null, .null, .null])) (qc_n h0 sz (cop b h0)) 84 50439 (nwA h0 sz) := by
  obtain ⟨Ss, S2, S3, S0, SA, SB, SC, SD, SE, ⟨es, e2, e3⟩, ⟨o2, o3, o1, o0⟩, ⟨eA, eB, eC, eD, eE⟩, ⟨pA1, pB1, pC1, pD1, pE1⟩, hRC⟩ := C_start
  refine Met.ofW (cc := cX5_init) (maxL := 2) (ret := none) (by decide) rfl ?_
  intro p e s m args below meth c s₁ B hml hv
  obtain ⟨rfl, ⟨hsz, hP, hK, hcs⟩, hAO⟩ := hv
  have hx := B.exec
  have hb := B.bytes
  have hr := B.returns
  have hts0 := atoms_spec (ws := Cond.code yX5_init cX5_init 2 none :: gw_tbl) B.pre
  have hts : ∀ z ∈ gw_tbl, z.before _ s = true := fun z hz => hts0 z (List.mem_cons_of_mem _ hz)
  have hown : s.vm.findClass RX5 = some m.cls := findClass_of_methodNamed B.named
  have hlocks := B.notSynchronized
  have hin : meth.name = "<init>" := (name_of_methodNamed B.named B.method).1
  subst hsz
  have hA : ∀ q : Nat, s.heap.size ≤ q → nwA h0 s.heap.size q := fun q h => Or.inr h
  have hD : va_D (nwA h0 s.heap.size) [(h0, .inr (5, [.null, .int 0, .int 0, .null, .null, .null, .null, .null, .null, .null, .int 0, .null, .int 0, .null, .null, .null]))] := vD_iff.mpr ⟨by simp, fun x hx => by rw [List.mem_singleton.mp hx]; exact Or.inl rfl⟩
  have hS : va_S (nwA h0 s.heap.size) s.heap s.heap [] := va_S.rf
  have hl := lv_entry ([.ref h0]) (n := 2) (Nat.le_of_ble_eq_true rfl)
  rw [lg_entry_eq]
  generalize (lg_sl ([.ref h0]) ++ List.replicate (2 - (lg_sl ([.ref h0])).length) Slot.unset).toArray = ls at hl ⊢
  have hl : lv_has ls 2 [(0, .ref h0)] := hl
  refine lv_aload_n hx hb dX5_init_0 rfl (lv_at hl 0 rfl) ?_
  refine W.objInit hx hb hown (hts _ wd_21) (hts _ wd_22) (hts _ wd_23) rfl (by rw [hml]; exact hl.1) rfl dX5_init_1 (Nat.le_of_ble_eq_true rfl) (Nat.le_of_ble_eq_true rfl) ?_
  refine W.eq (g2 := F0 m 4 ls []) rfl ?_
  refine lv_aload_n hx hb dX5_init_4 rfl (lv_at hl 0 rfl) ?_
  refine lv_sipush (v := 2000) hx hb dX5_init_5 (by decide) ?_
  refine va_newa (atype := .int) hx hb (hts _ wd_148) (ty := .int) rfl hK hP hD hS hA (N' := 2000) (a0 := (2000, .inl (fun _ => 0))) (fun _ => rfl) (by decide) (by decide) (Nat.le_of_ble_eq_true rfl) (Nat.le_of_ble_eq_true rfl) (Nat.le_of_ble_eq_true rfl) dX5_init_8 (fun q1 c1 H hK hP hD hS => ?_)
  have hP : va_P (gg_D b) vwCl ((oX h0 [.null, .int 0, .int 0, .null, .null, .null, .null, .null, .null, .null, .int 0, .null, .int 0, .null, .null, .null]) :: [cI q1 c1 2000]) H := hP
  have hD : va_D (nwA h0 s.heap.size) ((oX h0 [.null, .int 0, .int 0, .null, .null, .null, .null, .null, .null, .null, .int 0, .null, .int 0, .null, .null, .null]) :: [cI q1 c1 2000]) := hD
  have hK : va_K (gg_D b) vwCl [(c1, FieldType.int)] s := hK
  refine va_putF (D := gg_D b) (ci := 5) (v := .ref q1) (ty := (.array .int)) (C := RX5) (T := TX5) (N := 16) hx hb hts in_X5 tyX5 tyX5_ok nmX5 hown hK hP hD hS 0 rfl rfl 0 (by decide) (hts _ wd_394) (fun _ h9 => h9) rfl hin rfl (by decide +kernel) rfl rfl (Nat.le_of_ble_eq_true rfl) dX5_init_10 (fun H locs hP hD hS => ?_)
  have hP : va_P (gg_D b) vwCl ((oX h0 [.ref q1, .int 0, .int 0, .null, .null, .null, .null, .null, .null, .null, .int 0, .null, .int 0, .null, .null, .null]) :: [cI q1 c1 2000]) H := hP
  have hD : va_D (nwA h0 s.heap.size) ((oX h0 [.ref q1, .int 0, .int 0, .null, .null, .null, .null, .null, .null, .null, .int 0, .null, .int 0, .null, .null, .null]) :: [cI q1 c1 2000]) := hD
  refine lv_aload_n hx hb dX5_init_13 rfl (lv_at hl 0 rfl) ?_
  refine lv_iconst (v := -1) hx hb dX5_init_14 (by decide) ?_
  refine va_put (D := gg_D b) (ci := 5) (v := .int (-1)) (ty := .int) (C := RX5) (T := TX5) (N := 16) hx hb hts in_X5 tyX5 tyX5_ok nmX5 hown hK hP hD hS 0 rfl rfl 2 (by decide) (hts _ wd_396) (fun _ h9 => h9) rfl (by decide +kernel) rfl rfl (Nat.le_of_ble_eq_true rfl) dX5_init_15 (fun H locs hP hD hS => ?_)
  have hP : va_P (gg_D b) vwCl ((oX h0 [.ref q1, .int 0, .int (-1), .null, .null, .null, .null, .null, .null, .null, .int 0, .null, .int 0, .null, .null, .null]) :: [cI q1 c1 2000]) H := hP
  have hD : va_D (nwA h0 s.heap.size) ((oX h0 [.ref q1, .int 0, .int (-1), .null, .null, .null, .null, .null, .null, .null, .int 0, .null, .int 0, .null, .null, .null]) :: [cI q1 c1 2000]) := hD
  refine lv_aload_n hx hb dX5_init_18 rfl (lv_at hl 0 rfl) ?_
  refine va_new (ci := 3) (fs := [.null, .null, .null, .null, .int 0, .int 0, .long 0, .null, .int 0, .int 0, .int 0, .int 0, .int 0, .int 0, .int 0]) (C := RX3) (T := TX3) (N := 15) hx hb hts in_X3 tyX3 tyX3_ok hown (hts _ wd_24) (hts _ wd_25) (hts _ wd_2) hK hP hD hS hA rfl (fun j hj => by rcases (show j = 0 ∨ j = 1 ∨ j = 2 ∨ j = 3 ∨ j = 4 ∨ j = 5 ∨ j = 6 ∨ j = 7 ∨ j = 8 ∨ j = 9 ∨ j = 10 ∨ j = 11 ∨ j = 12 ∨ j = 13 ∨ j = 14 by omega) with rfl | rfl | rfl | rfl | rfl | rfl | rfl | rfl | rfl | rfl | rfl | rfl | rfl | rfl | rfl <;> rfl) (Nat.le_of_ble_eq_true rfl) (Nat.le_of_ble_eq_true rfl) dX5_init_19 (fun n1 H hP hD hS => ?_)
  refine lv_dup hx hb dX5_init_22 rfl ?_
  refine r_sub (pre := ((oX h0 [.ref q1, .int 0, .int (-1), .null, .null, .null, .null, .null, .null, .null, .int 0, .null, .int 0, .null, .null, .null]) :: [cI q1 c1 2000])) (post := fun g S => scp b n1 g ∧ S = Ss) hx hb hml hown hts hcs lk_X5_19 (c_X3_init l b n1 H.size Ss es) ⟨rfl, rfl⟩ ⟨Nat.le_of_ble_eq_true rfl, Nat.le_of_ble_eq_true rfl⟩ (fun g S h => h.1.2.2.2.1.1) hP hD (hK.sub (tys' := []) [] rfl) hS hA hl.1 (Nat.le_of_ble_eq_true rfl) dX5_init_23 ⟨Nat.le_of_ble_eq_true rfl, Nat.le_of_ble_eq_true rfl⟩ (fun gs S9 H locs hp9 hP hD hK9 hS => ?_)
  obtain ⟨hsc, e9⟩ := hp9
  rw [e9, wl_on hsc.2.2.1 o1 (fun z hz h => h (List.mem_singleton.mp (by rw [← hsc.2.2.2.2.2.1]; exact hz)))] at hP hD
  have hP : va_P (gg_D b) vwCl ((oX h0 [.ref q1, .int 0, .int (-1), .null, .null, .null, .null, .null, .null, .null, .int 0, .null, .int 0, .null, .null, .null]) :: ([cI q1 c1 2000] ++ wl wd_C gs SE)) H := hP
  have hD : va_D (nwA h0 s.heap.size) ((oX h0 [.ref q1, .int 0, .int (-1), .null, .null, .null, .null, .null, .null, .null, .int 0, .null, .int 0, .null, .null, .null]) :: ([cI q1 c1 2000] ++ wl wd_C gs SE)) := hD
  have hKs := hK9
  refine va_putF (D := gg_D b) (ci := 5) (v := .ref n1) (ty := (.object "LateMirrors$Scanner")) (C := RX5) (T := TX5) (N := 16) hx hb hts in_X5 tyX5 tyX5_ok nmX5 hown hK hP hD hS 0 rfl rfl 3 (by decide) (hts _ wd_397) (fun _ h9 => h9) rfl hin rfl (by decide +kernel) rfl rfl (Nat.le_of_ble_eq_true rfl) dX5_init_26 (fun H locs hP hD hS => ?_)
  have hP : va_P (gg_D b) vwCl ((oX h0 [.ref q1, .int 0, .int (-1), .ref n1, .null, .null, .null, .null, .null, .null, .int 0, .null, .int 0, .null, .null, .null]) :: ([cI q1 c1 2000] ++ wl wd_C gs SE)) H := hP
  have hD : va_D (nwA h0 s.heap.size) ((oX h0 [.ref q1, .int 0, .int (-1), .ref n1, .null, .null, .null, .null, .null, .null, .int 0, .null, .int 0, .null, .null, .null]) :: ([cI q1 c1 2000] ++ wl wd_C gs SE)) := hD
  refine lv_aload_n hx hb dX5_init_29 rfl (lv_at hl 0 rfl) ?_
  refine va_new (ci := 4) (fs := [.int 0, .int 0, .int 0, .int 0, .int 0, .int 0, .int 0, .null, .null, .null, .null, .null, .null, .null, .null, .int 0, .null, .int 0, .int 0]) (C := RX4) (T := TX4) (N := 19) hx hb hts in_X4 tyX4 tyX4_ok hown (hts _ wd_151) (hts _ wd_152) (hts _ wd_8) hK hP hD hS hA rfl (fun j hj => by rcases (show j = 0 ∨ j = 1 ∨ j = 2 ∨ j = 3 ∨ j = 4 ∨ j = 5 ∨ j = 6 ∨ j = 7 ∨ j = 8 ∨ j = 9 ∨ j = 10 ∨ j = 11 ∨ j = 12 ∨ j = 13 ∨ j = 14 ∨ j = 15 ∨ j = 16 ∨ j = 17 ∨ j = 18 by omega) with rfl | rfl | rfl | rfl | rfl | rfl | rfl | rfl | rfl | rfl | rfl | rfl | rfl | rfl | rfl | rfl | rfl | rfl | rfl <;> rfl) (Nat.le_of_ble_eq_true rfl) (Nat.le_of_ble_eq_true rfl) dX5_init_30 (fun n2 H hP hD hS => ?_)
  refine lv_dup hx hb dX5_init_33 rfl ?_
  refine r_sub (pre := ((oX h0 [.ref q1, .int 0, .int (-1), .ref n1, .null, .null, .null, .null, .null, .null, .int 0, .null, .int 0, .null, .null, .null]) :: ([cI q1 c1 2000] ++ wl wd_C gs SE))) (post := fun g S => txp b 2 n2 g ∧ S = S2) hx hb hml hown hts hcs lk_X5_26 (c_X4_init l b 2 n2 H.size (Or.inl rfl) S2 e2) ⟨rfl, rfl⟩ ⟨Nat.le_of_ble_eq_true rfl, Nat.le_of_ble_eq_true rfl⟩ (fun g S h => h.1.2.2.2.1.1) hP hD (hK.sub (tys' := []) [] rfl) hS hA hl.1 (Nat.le_of_ble_eq_true rfl) dX5_init_34 ⟨Nat.le_of_ble_eq_true rfl, Nat.le_of_ble_eq_true rfl⟩ (fun g2 S9 H locs hp9 hP hD hK9 hS => ?_)
  obtain ⟨ht2, e9⟩ := hp9
  rw [e9, wl_on ht2.2.2.1 o2 (fun z hz h => h ((by decide : ∀ z ∈ ([2, 4] : List Nat), z = 2 ∨ z = 4) _ (by rw [show gg_os g2 = [2, 4] from ht2.2.2.2.2.2.1] at hz; exact hz)))] at hP hD
  have hP : va_P (gg_D b) vwCl ((oX h0 [.ref q1, .int 0, .int (-1), .ref n1, .null, .null, .null, .null, .null, .null, .int 0, .null, .int 0, .null, .null, .null]) :: (([cI q1 c1 2000] ++ wl wd_C gs SE) ++ wl wd_C g2 S0)) H := hP
  have hD : va_D (nwA h0 s.heap.size) ((oX h0 [.ref q1, .int 0, .int (-1), .ref n1, .null, .null, .null, .null, .null, .null, .int 0, .null, .int 0, .null, .null, .null]) :: (([cI q1 c1 2000] ++ wl wd_C gs SE) ++ wl wd_C g2 S0)) := hD
  have hK2 := hK9
  refine va_put (D := gg_D b) (ci := 5) (v := .ref n2) (ty := (.object "LateMirrors$Text")) (C := RX5) (T := TX5) (N := 16) hx hb hts in_X5 tyX5 tyX5_ok nmX5 hown hK hP hD hS 0 rfl rfl 4 (by decide) (hts _ wd_398) (fun _ h9 => h9) rfl (by decide +kernel) rfl rfl (Nat.le_of_ble_eq_true rfl) dX5_init_37 (fun H locs hP hD hS => ?_)
  have hP : va_P (gg_D b) vwCl ((oX h0 [.ref q1, .int 0, .int (-1), .ref n1, .ref n2, .null, .null, .null, .null, .null, .int 0, .null, .int 0, .null, .null, .null]) :: (([cI q1 c1 2000] ++ wl wd_C gs SE) ++ wl wd_C g2 S0)) H := hP
  have hD : va_D (nwA h0 s.heap.size) ((oX h0 [.ref q1, .int 0, .int (-1), .ref n1, .ref n2, .null, .null, .null, .null, .null, .int 0, .null, .int 0, .null, .null, .null]) :: (([cI q1 c1 2000] ++ wl wd_C gs SE) ++ wl wd_C g2 S0)) := hD
  refine lv_aload_n hx hb dX5_init_40 rfl (lv_at hl 0 rfl) ?_
  refine va_new (ci := 4) (fs := [.int 0, .int 0, .int 0, .int 0, .int 0, .int 0, .int 0, .null, .null, .null, .null, .null, .null, .null, .null, .int 0, .null, .int 0, .int 0]) (C := RX4) (T := TX4) (N := 19) hx hb hts in_X4 tyX4 tyX4_ok hown (hts _ wd_151) (hts _ wd_152) (hts _ wd_8) hK hP hD hS hA rfl (fun j hj => by rcases (show j = 0 ∨ j = 1 ∨ j = 2 ∨ j = 3 ∨ j = 4 ∨ j = 5 ∨ j = 6 ∨ j = 7 ∨ j = 8 ∨ j = 9 ∨ j = 10 ∨ j = 11 ∨ j = 12 ∨ j = 13 ∨ j = 14 ∨ j = 15 ∨ j = 16 ∨ j = 17 ∨ j = 18 by omega) with rfl | rfl | rfl | rfl | rfl | rfl | rfl | rfl | rfl | rfl | rfl | rfl | rfl | rfl | rfl | rfl | rfl | rfl | rfl <;> rfl) (Nat.le_of_ble_eq_true rfl) (Nat.le_of_ble_eq_true rfl) dX5_init_41 (fun n3 H hP hD hS => ?_)
  refine lv_dup hx hb dX5_init_44 rfl ?_
  refine r_sub (pre := ((oX h0 [.ref q1, .int 0, .int (-1), .ref n1, .ref n2, .null, .null, .null, .null, .null, .int 0, .null, .int 0, .null, .null, .null]) :: (([cI q1 c1 2000] ++ wl wd_C gs SE) ++ wl wd_C g2 S0))) (post := fun g S => txp b 3 n3 g ∧ S = S3) hx hb hml hown hts hcs lk_X5_26 (c_X4_init l b 3 n3 H.size (Or.inr rfl) S3 e3) ⟨rfl, rfl⟩ ⟨Nat.le_of_ble_eq_true rfl, Nat.le_of_ble_eq_true rfl⟩ (fun g S h => h.1.2.2.2.1.1) hP hD (hK.sub (tys' := []) [] rfl) hS hA hl.1 (Nat.le_of_ble_eq_true rfl) dX5_init_45 ⟨Nat.le_of_ble_eq_true rfl, Nat.le_of_ble_eq_true rfl⟩ (fun g3 S9 H locs hp9 hP hD hK9 hS => ?_)
  obtain ⟨ht3, e9⟩ := hp9
  rw [e9, wl_on ht3.2.2.1 o3 (fun z hz h => h ((by decide : ∀ z ∈ ([3, 5] : List Nat), z = 3 ∨ z = 5) _ (by rw [show gg_os g3 = [3, 5] from ht3.2.2.2.2.2.1] at hz; exact hz)))] at hP hD
  have hP : va_P (gg_D b) vwCl ((oX h0 [.ref q1, .int 0, .int (-1), .ref n1, .ref n2, .null, .null, .null, .null, .null, .int 0, .null, .int 0, .null, .null, .null]) :: ((([cI q1 c1 2000] ++ wl wd_C gs SE) ++ wl wd_C g2 S0) ++ wl wd_C g3 S0)) H := hP
  have hD : va_D (nwA h0 s.heap.size) ((oX h0 [.ref q1, .int 0, .int (-1), .ref n1, .ref n2, .null, .null, .null, .null, .null, .int 0, .null, .int 0, .null, .null, .null]) :: ((([cI q1 c1 2000] ++ wl wd_C gs SE) ++ wl wd_C g2 S0) ++ wl wd_C g3 S0)) := hD
  have hK3 := hK9
  refine va_put (D := gg_D b) (ci := 5) (v := .ref n3) (ty := (.object "LateMirrors$Text")) (C := RX5) (T := TX5) (N := 16) hx hb hts in_X5 tyX5 tyX5_ok nmX5 hown hK hP hD hS 0 rfl rfl 5 (by decide) (hts _ wd_399) (fun _ h9 => h9) rfl (by decide +kernel) rfl rfl (Nat.le_of_ble_eq_true rfl) dX5_init_48 (fun H locs hP hD hS => ?_)
  have hP : va_P (gg_D b) vwCl ((oX h0 [.ref q1, .int 0, .int (-1), .ref n1, .ref n2, .ref n3, .null, .null, .null, .null, .int 0, .null, .int 0, .null, .null, .null]) :: ((([cI q1 c1 2000] ++ wl wd_C gs SE) ++ wl wd_C g2 S0) ++ wl wd_C g3 S0)) H := hP
  have hD : va_D (nwA h0 s.heap.size) ((oX h0 [.ref q1, .int 0, .int (-1), .ref n1, .ref n2, .ref n3, .null, .null, .null, .null, .int 0, .null, .int 0, .null, .null, .null]) :: ((([cI q1 c1 2000] ++ wl wd_C gs SE) ++ wl wd_C g2 S0) ++ wl wd_C g3 S0)) := hD
  have os2 : gg_os g2 = [2, 4] := ht2.2.2.2.2.2.1
  have os3 : gg_os g3 = [3, 5] := ht3.2.2.2.2.2.1
  have qs2 : gg_qs g2 = [] := ht2.2.2.2.2.2.2
  have qs3 : gg_qs g3 = [] := ht3.2.2.2.2.2.2
  have dj : ∀ z ∈ gg_os g3, z ∉ gg_os g2 := by rw [os2, os3]; decide
  have pb := gM_wl (S := S0) qs2 qs3 ht2.2.2.1 ht3.2.2.1 dj (clo_T (Or.inl rfl) os2) (clo_T (Or.inr rfl) os3)
  have pA : ((oX h0 [.ref q1, .int 0, .int (-1), .ref n1, .ref n2, .ref n3, .null, .null, .null, .null, .int 0, .null, .int 0, .null, .null, .null]) :: ((([cI q1 c1 2000] ++ wl wd_C gs SE) ++ wl wd_C g2 S0) ++ wl wd_C g3 S0)).Perm ((oX h0 [.ref q1, .int 0, .int (-1), .ref n1, .ref n2, .ref n3, .null, .null, .null, .null, .int 0, .null, .int 0, .null, .null, .null]) :: (([cI q1 c1 2000] ++ wl wd_C gs SE) ++ wl wd_C (gM g2 g3) S0)) := List.Perm.cons _ (by rw [List.append_assoc]; exact List.Perm.append_left _ pb.symm)
  have hP := vP_perm pA hP
  have hD := vD_perm pA hD
  have hD1 : va_D (nwA h0 s.heap.size) (wl wd_C (gM g2 g3) S0) := (vD_app.mp (show va_D (nwA h0 s.heap.size) (((oX h0 [.ref q1, .int 0, .int (-1), .ref n1, .ref n2, .ref n3, .null, .null, .null, .null, .int 0, .null, .int 0, .null, .null, .null]) :: ([cI q1 c1 2000] ++ wl wd_C gs SE)) ++ wl wd_C (gM g2 g3) S0) from hD)).2.1
  have os1 : gg_os (gM g2 g3) = [2, 4, 3, 5] := by
    show gg_os g2 ++ gg_os g3 = _
    rw [os2, os3]
    rfl
  have bs1 : bas (gM g2 g3) S0 := ⟨gd_C (gM_nd ht2.2.2.1 ht3.2.2.1 dj ht2.1.2.1 ht3.1.2.1) hD1, ⟨⟨hs_gM1 ht2.2.1.1 qs2, hs_gM1 ht2.2.1.2 qs2⟩, ⟨hs_gM2 ht3.2.1.1, hs_gM2 ht3.2.1.2⟩⟩, gM_kb ht2.2.2.1 ht3.2.2.1, qs3, by rw [os1]; decide, by rw [os1]; exact fun z hz h10 => absurd h10 ((by decide : ∀ z ∈ ([2, 4, 3, 5] : List Nat), ¬ 10 ≤ z) z hz)⟩
  have kn1 : kn (gM g2 g3) b := ht2.2.2.2.1
  have hKb : va_K (gg_D b) vwCl (tl wd_C (gM g2 g3)) s := by
    have x1 : va_K (gg_D g2) vwCl (tl wd_C g2) s := by rw [ht2.2.2.2.1.1]; exact hK2
    have x2 : va_K (gg_D g3) vwCl (tl wd_C g3) s := by rw [ht3.2.2.2.1.1]; exact hK3
    have x3 := gM_tl ht2.2.2.1 ht3.2.2.1 dj qs2 (by rw [ht2.2.2.2.1.1, ht3.2.2.2.1.1]) x1 x2
    rw [kn1.1] at x3
    exact x3
  have w2 : gg_o (gM g2 g3) 2 = n2 := (gM_o1 (by rw [os2]; decide)).trans ht2.2.2.2.2.1
  have w3 : gg_o (gM g2 g3) 3 = n3 := (gM_o2 (by rw [os2]; decide)).trans ht3.2.2.2.2.1
  generalize gM g2 g3 = b1 at hP hD os1 bs1 kn1 hKb w2 w3
  have hP : va_P (gg_D b) vwCl ((oX h0 [.ref q1, .int 0, .int (-1), .ref n1, .ref n2, .ref n3, .null, .null, .null, .null, .int 0, .null, .int 0, .null, .null, .null]) :: (([cI q1 c1 2000] ++ wl wd_C gs SE) ++ wl wd_C b1 S0)) H := hP
  have hD : va_D (nwA h0 s.heap.size) ((oX h0 [.ref q1, .int 0, .int (-1), .ref n1, .ref n2, .ref n3, .null, .null, .null, .null, .int 0, .null, .int 0, .null, .null, .null]) :: (([cI q1 c1 2000] ++ wl wd_C gs SE) ++ wl wd_C b1 S0)) := hD
  refine lv_aload_n hx hb dX5_init_51 rfl (lv_at hl 0 rfl) ?_
  refine va_new (ci := 0) (fs := [.null, .int 0, .null, .null, .null, .null, .null, .null, .null]) (C := RX0) (T := TX0) (N := 9) hx hb hts in_X0 tyX0 tyX0_ok hown (hts _ wd_274) (hts _ wd_275) (hts _ wd_10) hK hP hD hS hA rfl (fun j hj => by rcases (show j = 0 ∨ j = 1 ∨ j = 2 ∨ j = 3 ∨ j = 4 ∨ j = 5 ∨ j = 6 ∨ j = 7 ∨ j = 8 by omega) with rfl | rfl | rfl | rfl | rfl | rfl | rfl | rfl | rfl <;> rfl) (Nat.le_of_ble_eq_true rfl) (Nat.le_of_ble_eq_true rfl) dX5_init_52 (fun n10 H hP hD hS => ?_)
  refine lv_dup hx hb dX5_init_55 rfl ?_
  refine lv_aload_n hx hb dX5_init_56 rfl (lv_at hl 0 rfl) ?_
  refine va_get (C := RX5) (T := TX5) (N := 16) hx hb hts in_X5 hown hK hP 0 rfl rfl 4 (by decide) (hts _ wd_398) (fun _ h9 => h9) (v := .ref n2) rfl dX5_init_57 ?_
  rw [show (Value.ref n2) = Value.ref (gg_o b1 2) from by rw [w2]]
  refine r_crt (pre := ((oX h0 [.ref q1, .int 0, .int (-1), .ref n1, .ref n2, .ref n3, .null, .null, .null, .null, .int 0, .null, .int 0, .null, .null, .null]) :: ([cI q1 c1 2000] ++ wl wd_C gs SE))) (b' := b1) (k := 10) (kt := 2) (S := S0) (S1 := SA) hx hb hml hown hts hcs lk_X5_36 ⟨Nat.le_of_ble_eq_true rfl, Nat.le_of_ble_eq_true rfl⟩ bs1 kn1 (by decide) (Or.inl rfl) (by rw [os1]; decide) eA hP hD hKb hS hA hl.1 (Nat.le_of_ble_eq_true rfl) dX5_init_60 ⟨Nat.le_of_ble_eq_true rfl, Nat.le_of_ble_eq_true rfl⟩ (fun b2 H locs hc hkn hP hD hKb hS => ?_)
  have os2 : gg_os b2 = [10, 2, 4, 3, 5] := hc.2.2.2.2.2.1.trans (by rw [os1])
  have bs2 : bas b2 SA := ⟨hc.1, hc.2.1, hc.2.2.1, hc.2.2.2.2.1, by rw [os2]; decide, fun z hz h10 => Or.inl (pA1 z ((by decide : ∀ z ∈ ([10, 2, 4, 3, 5] : List Nat), 10 ≤ z → z ∈ ([10] : List Nat)) z (by rw [← os2]; exact hz) h10))⟩
  have kn2 := hkn
  have w2 : gg_o b2 2 = n2 := (hc.2.2.2.2.2.2.2.2.1 2 (by rw [os1]; decide)).trans w2
  have w3 : gg_o b2 3 = n3 := (hc.2.2.2.2.2.2.2.2.1 3 (by rw [os1]; decide)).trans w3
  have w10 : gg_o b2 10 = n10 := hc.2.2.2.2.2.2.2.1
  have x10 : hs wd_C b2 10 0 := hc.2.2.2.2.2.2.1
  have hP : va_P (gg_D b) vwCl ((oX h0 [.ref q1, .int 0, .int (-1), .ref n1, .ref n2, .ref n3, .null, .null, .null, .null, .int 0, .null, .int 0, .null, .null, .null]) :: (([cI q1 c1 2000] ++ wl wd_C gs SE) ++ wl wd_C b2 SA)) H := hP
  have hD : va_D (nwA h0 s.heap.size) ((oX h0 [.ref q1, .int 0, .int (-1), .ref n1, .ref n2, .ref n3, .null, .null, .null, .null, .int 0, .null, .int 0, .null, .null, .null]) :: (([cI q1 c1 2000] ++ wl wd_C gs SE) ++ wl wd_C b2 SA)) := hD
  refine va_putF (D := gg_D b) (ci := 5) (v := .ref n10) (ty := (.object "LateMirrors$Court")) (C := RX5) (T := TX5) (N := 16) hx hb hts in_X5 tyX5 tyX5_ok nmX5 hown hK hP hD hS 0 rfl rfl 6 (by decide) (hts _ wd_400) (fun _ h9 => h9) rfl hin rfl (by decide +kernel) rfl rfl (Nat.le_of_ble_eq_true rfl) dX5_init_63 (fun H locs hP hD hS => ?_)
  have hP : va_P (gg_D b) vwCl ((oX h0 [.ref q1, .int 0, .int (-1), .ref n1, .ref n2, .ref n3, .ref n10, .null, .null, .null, .int 0, .null, .int 0, .null, .null, .null]) :: (([cI q1 c1 2000] ++ wl wd_C gs SE) ++ wl wd_C b2 SA)) H := hP
  have hD : va_D (nwA h0 s.heap.size) ((oX h0 [.ref q1, .int 0, .int (-1), .ref n1, .ref n2, .ref n3, .ref n10, .null, .null, .null, .int 0, .null, .int 0, .null, .null, .null]) :: (([cI q1 c1 2000] ++ wl wd_C gs SE) ++ wl wd_C b2 SA)) := hD
  refine lv_aload_n hx hb dX5_init_66 rfl (lv_at hl 0 rfl) ?_
  refine va_new (ci := 0) (fs := [.null, .int 0, .null, .null, .null, .null, .null, .null, .null]) (C := RX0) (T := TX0) (N := 9) hx hb hts in_X0 tyX0 tyX0_ok hown (hts _ wd_274) (hts _ wd_275) (hts _ wd_10) hK hP hD hS hA rfl (fun j hj => by rcases (show j = 0 ∨ j = 1 ∨ j = 2 ∨ j = 3 ∨ j = 4 ∨ j = 5 ∨ j = 6 ∨ j = 7 ∨ j = 8 by omega) with rfl | rfl | rfl | rfl | rfl | rfl | rfl | rfl | rfl <;> rfl) (Nat.le_of_ble_eq_true rfl) (Nat.le_of_ble_eq_true rfl) dX5_init_67 (fun n11 H hP hD hS => ?_)
  refine lv_dup hx hb dX5_init_70 rfl ?_
  refine lv_aload_n hx hb dX5_init_71 rfl (lv_at hl 0 rfl) ?_
  refine va_get (C := RX5) (T := TX5) (N := 16) hx hb hts in_X5 hown hK hP 0 rfl rfl 4 (by decide) (hts _ wd_398) (fun _ h9 => h9) (v := .ref n2) rfl dX5_init_72 ?_
  rw [show (Value.ref n2) = Value.ref (gg_o b2 2) from by rw [w2]]
  refine r_crt (pre := ((oX h0 [.ref q1, .int 0, .int (-1), .ref n1, .ref n2, .ref n3, .ref n10, .null, .null, .null, .int 0, .null, .int 0, .null, .null, .null]) :: ([cI q1 c1 2000] ++ wl wd_C gs SE))) (b' := b2) (k := 11) (kt := 2) (S := SA) (S1 := SB) hx hb hml hown hts hcs lk_X5_36 ⟨Nat.le_of_ble_eq_true rfl, Nat.le_of_ble_eq_true rfl⟩ bs2 kn2 (by decide) (Or.inl rfl) (by rw [os2]; decide) eB hP hD hKb hS hA hl.1 (Nat.le_of_ble_eq_true rfl) dX5_init_75 ⟨Nat.le_of_ble_eq_true rfl, Nat.le_of_ble_eq_true rfl⟩ (fun b3 H locs hc hkn hP hD hKb hS => ?_)
  have os3 : gg_os b3 = [11, 10, 2, 4, 3, 5] := hc.2.2.2.2.2.1.trans (by rw [os2])
  have bs3 : bas b3 SB := ⟨hc.1, hc.2.1, hc.2.2.1, hc.2.2.2.2.1, by rw [os3]; decide, fun z hz h10 => Or.inl (pB1 z ((by decide : ∀ z ∈ ([11, 10, 2, 4, 3, 5] : List Nat), 10 ≤ z → z ∈ ([11, 10] : List Nat)) z (by rw [← os3]; exact hz) h10))⟩
  have kn3 := hkn
  have w2 : gg_o b3 2 = n2 := (hc.2.2.2.2.2.2.2.2.1 2 (by rw [os2]; decide)).trans w2
  have w3 : gg_o b3 3 = n3 := (hc.2.2.2.2.2.2.2.2.1 3 (by rw [os2]; decide)).trans w3
  have w10 : gg_o b3 10 = n10 := (hc.2.2.2.2.2.2.2.2.1 10 (by rw [os2]; decide)).trans w10
  have x10 : hs wd_C b3 10 0 := hc.2.2.2.2.2.2.2.2.2 _ _ x10
  have w11 : gg_o b3 11 = n11 := hc.2.2.2.2.2.2.2.1
  have x11 : hs wd_C b3 11 0 := hc.2.2.2.2.2.2.1
  have hP : va_P (gg_D b) vwCl ((oX h0 [.ref q1, .int 0, .int (-1), .ref n1, .ref n2, .ref n3, .ref n10, .null, .null, .null, .int 0, .null, .int 0, .null, .null, .null]) :: (([cI q1 c1 2000] ++ wl wd_C gs SE) ++ wl wd_C b3 SB)) H := hP
  have hD : va_D (nwA h0 s.heap.size) ((oX h0 [.ref q1, .int 0, .int (-1), .ref n1, .ref n2, .ref n3, .ref n10, .null, .null, .null, .int 0, .null, .int 0, .null, .null, .null]) :: (([cI q1 c1 2000] ++ wl wd_C gs SE) ++ wl wd_C b3 SB)) := hD
  refine va_putF (D := gg_D b) (ci := 5) (v := .ref n11) (ty := (.object "LateMirrors$Court")) (C := RX5) (T := TX5) (N := 16) hx hb hts in_X5 tyX5 tyX5_ok nmX5 hown hK hP hD hS 0 rfl rfl 7 (by decide) (hts _ wd_401) (fun _ h9 => h9) rfl hin rfl (by decide +kernel) rfl rfl (Nat.le_of_ble_eq_true rfl) dX5_init_78 (fun H locs hP hD hS => ?_)
  have hP : va_P (gg_D b) vwCl ((oX h0 [.ref q1, .int 0, .int (-1), .ref n1, .ref n2, .ref n3, .ref n10, .ref n11, .null, .null, .int 0, .null, .int 0, .null, .null, .null]) :: (([cI q1 c1 2000] ++ wl wd_C gs SE) ++ wl wd_C b3 SB)) H := hP
  have hD : va_D (nwA h0 s.heap.size) ((oX h0 [.ref q1, .int 0, .int (-1), .ref n1, .ref n2, .ref n3, .ref n10, .ref n11, .null, .null, .int 0, .null, .int 0, .null, .null, .null]) :: (([cI q1 c1 2000] ++ wl wd_C gs SE) ++ wl wd_C b3 SB)) := hD
  refine lv_aload_n hx hb dX5_init_81 rfl (lv_at hl 0 rfl) ?_
  refine va_new (ci := 2) (fs := [.null, .int 0, .int 0]) (C := RX2) (T := TX2) (N := 3) hx hb hts in_X2 tyX2 tyX2_ok hown (hts _ wd_376) (hts _ wd_377) (hts _ wd_13) hK hP hD hS hA rfl (fun j hj => by rcases (show j = 0 ∨ j = 1 ∨ j = 2 by omega) with rfl | rfl | rfl <;> rfl) (Nat.le_of_ble_eq_true rfl) (Nat.le_of_ble_eq_true rfl) dX5_init_82 (fun n6 H hP hD hS => ?_)
  refine lv_dup hx hb dX5_init_85 rfl ?_
  refine r_sub (pre := ((oX h0 [.ref q1, .int 0, .int (-1), .ref n1, .ref n2, .ref n3, .ref n10, .ref n11, .null, .null, .int 0, .null, .int 0, .null, .null, .null]) :: (([cI q1 c1 2000] ++ wl wd_C gs SE) ++ wl wd_C b3 SB))) (post := fun g S => ∃ qa ca ql cl, g = gO b 6 n6 qa ca ql cl [0] [] ∧ S = s0_C) hx hb hml hown hts hcs lk_X5_48 (c_X2_init l b 6 n6 H.size rfl (fun f h => (by decide : ∀ f < 3, s0_I (ky 6 f) = 0) f (List.getElem?_eq_some_iff.mp h).1)) ⟨rfl, rfl⟩ ⟨Nat.le_of_ble_eq_true rfl, Nat.le_of_ble_eq_true rfl⟩ (fun g S h => by obtain ⟨_, _, _, _, rfl, _⟩ := h; rfl) hP hD (hK.sub (tys' := []) [] rfl) hS hA hl.1 (Nat.le_of_ble_eq_true rfl) dX5_init_86 ⟨Nat.le_of_ble_eq_true rfl, Nat.le_of_ble_eq_true rfl⟩ (fun gp S9 H locs hp9 hP hD hK9 hS => ?_)
  obtain ⟨pqa, pca, pql, pcl, ep, e9⟩ := hp9
  have hp6 : pst b gp n6 := by rw [ep]; exact gO_pst pqa pca pql pcl
  rw [e9, wl_on hp6.2.1 o0 (fun z hz h => h (Or.inr (List.mem_singleton.mp (by rw [← hp6.1]; exact hz))))] at hP hD
  have hKp := hK9
  have pB := pm1 [(oX h0 [.ref q1, .int 0, .int (-1), .ref n1, .ref n2, .ref n3, .ref n10, .ref n11, .null, .null, .int 0, .null, .int 0, .null, .null, .null])] ([cI q1 c1 2000] ++ wl wd_C gs SE) (wl wd_C b3 SB) (wl wd_C gp SE)
  have hP := vP_perm pB hP
  have hD := vD_perm pB hD
  have hP : va_P (gg_D b) vwCl ((oX h0 [.ref q1, .int 0, .int (-1), .ref n1, .ref n2, .ref n3, .ref n10, .ref n11, .null, .null, .int 0, .null, .int 0, .null, .null, .null]) :: ((([cI q1 c1 2000] ++ wl wd_C gs SE) ++ wl wd_C gp SE) ++ wl wd_C b3 SB)) H := hP
  have hD : va_D (nwA h0 s.heap.size) ((oX h0 [.ref q1, .int 0, .int (-1), .ref n1, .ref n2, .ref n3, .ref n10, .ref n11, .null, .null, .int 0, .null, .int 0, .null, .null, .null]) :: ((([cI q1 c1 2000] ++ wl wd_C gs SE) ++ wl wd_C gp SE) ++ wl wd_C b3 SB)) := hD
  refine va_putF (D := gg_D b) (ci := 5) (v := .ref n6) (ty := (.object "LateMirrors$Past")) (C := RX5) (T := TX5) (N := 16) hx hb hts in_X5 tyX5 tyX5_ok nmX5 hown hK hP hD hS 0 rfl rfl 8 (by decide) (hts _ wd_402) (fun _ h9 => h9) rfl hin rfl (by decide +kernel) rfl rfl (Nat.le_of_ble_eq_true rfl) dX5_init_89 (fun H locs hP hD hS => ?_)
  have hP : va_P (gg_D b) vwCl ((oX h0 [.ref q1, .int 0, .int (-1), .ref n1, .ref n2, .ref n3, .ref n10, .ref n11, .ref n6, .null, .int 0, .null, .int 0, .null, .null, .null]) :: ((([cI q1 c1 2000] ++ wl wd_C gs SE) ++ wl wd_C gp SE) ++ wl wd_C b3 SB)) H := hP
  have hD : va_D (nwA h0 s.heap.size) ((oX h0 [.ref q1, .int 0, .int (-1), .ref n1, .ref n2, .ref n3, .ref n10, .ref n11, .ref n6, .null, .int 0, .null, .int 0, .null, .null, .null]) :: ((([cI q1 c1 2000] ++ wl wd_C gs SE) ++ wl wd_C gp SE) ++ wl wd_C b3 SB)) := hD
  refine lv_aload_n hx hb dX5_init_92 rfl (lv_at hl 0 rfl) ?_
  refine lv_iconst (v := 3) hx hb dX5_init_93 (by decide) ?_
  refine va_newq (C := RX0) hx hb hown (hts _ wd_274) hAO hK hP hD hS hA (n := 3) (N' := 3) (by decide) rfl (Nat.le_of_ble_eq_true rfl) (Nat.le_of_ble_eq_true rfl) (Nat.le_of_ble_eq_true rfl) dX5_init_94 (fun qs cs H hK hP hD hS => ?_)
  have pC := pm2 (oX h0 [.ref q1, .int 0, .int (-1), .ref n1, .ref n2, .ref n3, .ref n10, .ref n11, .ref n6, .null, .int 0, .null, .int 0, .null, .null, .null]) (cZ qs cs (fun _ => none)) ((([cI q1 c1 2000] ++ wl wd_C gs SE) ++ wl wd_C gp SE) ++ wl wd_C b3 SB)
  have hP := vP_perm pC hP
  have hD := vD_perm pC hD
  have hP : va_P (gg_D b) vwCl ((oX h0 [.ref q1, .int 0, .int (-1), .ref n1, .ref n2, .ref n3, .ref n10, .ref n11, .ref n6, .null, .int 0, .null, .int 0, .null, .null, .null]) :: (cZ qs cs (fun _ => none)) :: ((([cI q1 c1 2000] ++ wl wd_C gs SE) ++ wl wd_C gp SE) ++ wl wd_C b3 SB)) H := hP
  have hD : va_D (nwA h0 s.heap.size) ((oX h0 [.ref q1, .int 0, .int (-1), .ref n1, .ref n2, .ref n3, .ref n10, .ref n11, .ref n6, .null, .int 0, .null, .int 0, .null, .null, .null]) :: (cZ qs cs (fun _ => none)) :: ((([cI q1 c1 2000] ++ wl wd_C gs SE) ++ wl wd_C gp SE) ++ wl wd_C b3 SB)) := hD
  have hK : va_K (gg_D b) vwCl [(c1, FieldType.int), (cs, FieldType.object RX0)] s := hK
  refine va_putF (D := gg_D b) (ci := 5) (v := .ref qs) (ty := (.array (.object "LateMirrors$Court"))) (C := RX5) (T := TX5) (N := 16) hx hb hts in_X5 tyX5 tyX5_ok nmX5 hown hK hP hD hS 0 rfl rfl 9 (by decide) (hts _ wd_403) (fun _ h9 => h9) rfl hin rfl (by decide +kernel) rfl rfl (Nat.le_of_ble_eq_true rfl) dX5_init_97 (fun H locs hP hD hS => ?_)
  have hP : va_P (gg_D b) vwCl ((oX h0 [.ref q1, .int 0, .int (-1), .ref n1, .ref n2, .ref n3, .ref n10, .ref n11, .ref n6, .ref qs, .int 0, .null, .int 0, .null, .null, .null]) :: (cZ qs cs (fun _ => none)) :: ((([cI q1 c1 2000] ++ wl wd_C gs SE) ++ wl wd_C gp SE) ++ wl wd_C b3 SB)) H := hP
  have hD : va_D (nwA h0 s.heap.size) ((oX h0 [.ref q1, .int 0, .int (-1), .ref n1, .ref n2, .ref n3, .ref n10, .ref n11, .ref n6, .ref qs, .int 0, .null, .int 0, .null, .null, .null]) :: (cZ qs cs (fun _ => none)) :: ((([cI q1 c1 2000] ++ wl wd_C gs SE) ++ wl wd_C gp SE) ++ wl wd_C b3 SB)) := hD
  refine lv_aload_n hx hb dX5_init_100 rfl (lv_at hl 0 rfl) ?_
  refine lv_bipush (v := 80) hx hb dX5_init_101 (by decide) ?_
  refine va_newa (atype := .int) hx hb (hts _ wd_148) (ty := .int) rfl hK hP hD hS hA (N' := 80) (a0 := (80, .inl (fun _ => 0))) (fun _ => rfl) (by decide) (by decide) (Nat.le_of_ble_eq_true rfl) (Nat.le_of_ble_eq_true rfl) (Nat.le_of_ble_eq_true rfl) dX5_init_103 (fun q2 c2 H hK hP hD hS => ?_)
  have pD2 := pm1 [(oX h0 [.ref q1, .int 0, .int (-1), .ref n1, .ref n2, .ref n3, .ref n10, .ref n11, .ref n6, .ref qs, .int 0, .null, .int 0, .null, .null, .null]), (cZ qs cs (fun _ => none))] (([cI q1 c1 2000] ++ wl wd_C gs SE) ++ wl wd_C gp SE) (wl wd_C b3 SB) [cI q2 c2 80]
  have hP := vP_perm pD2 hP
  have hD := vD_perm pD2 hD
  have hP : va_P (gg_D b) vwCl ((oX h0 [.ref q1, .int 0, .int (-1), .ref n1, .ref n2, .ref n3, .ref n10, .ref n11, .ref n6, .ref qs, .int 0, .null, .int 0, .null, .null, .null]) :: (cZ qs cs (fun _ => none)) :: (((([cI q1 c1 2000] ++ wl wd_C gs SE) ++ wl wd_C gp SE) ++ [cI q2 c2 80]) ++ wl wd_C b3 SB)) H := hP
  have hD : va_D (nwA h0 s.heap.size) ((oX h0 [.ref q1, .int 0, .int (-1), .ref n1, .ref n2, .ref n3, .ref n10, .ref n11, .ref n6, .ref qs, .int 0, .null, .int 0, .null, .null, .null]) :: (cZ qs cs (fun _ => none)) :: (((([cI q1 c1 2000] ++ wl wd_C gs SE) ++ wl wd_C gp SE) ++ [cI q2 c2 80]) ++ wl wd_C b3 SB)) := hD
  have hK : va_K (gg_D b) vwCl [(c1, FieldType.int), (cs, FieldType.object RX0), (c2, FieldType.int)] s := hK
  refine va_putF (D := gg_D b) (ci := 5) (v := .ref q2) (ty := (.array .int)) (C := RX5) (T := TX5) (N := 16) hx hb hts in_X5 tyX5 tyX5_ok nmX5 hown hK hP hD hS 0 rfl rfl 11 (by decide) (hts _ wd_405) (fun _ h9 => h9) rfl hin rfl (by decide +kernel) rfl rfl (Nat.le_of_ble_eq_true rfl) dX5_init_105 (fun H locs hP hD hS => ?_)
  have hP : va_P (gg_D b) vwCl ((oX h0 [.ref q1, .int 0, .int (-1), .ref n1, .ref n2, .ref n3, .ref n10, .ref n11, .ref n6, .ref qs, .int 0, .ref q2, .int 0, .null, .null, .null]) :: (cZ qs cs (fun _ => none)) :: (((([cI q1 c1 2000] ++ wl wd_C gs SE) ++ wl wd_C gp SE) ++ [cI q2 c2 80]) ++ wl wd_C b3 SB)) H := hP
  have hD : va_D (nwA h0 s.heap.size) ((oX h0 [.ref q1, .int 0, .int (-1), .ref n1, .ref n2, .ref n3, .ref n10, .ref n11, .ref n6, .ref qs, .int 0, .ref q2, .int 0, .null, .null, .null]) :: (cZ qs cs (fun _ => none)) :: (((([cI q1 c1 2000] ++ wl wd_C gs SE) ++ wl wd_C gp SE) ++ [cI q2 c2 80]) ++ wl wd_C b3 SB)) := hD
  refine lv_aload_n hx hb dX5_init_108 rfl (lv_at hl 0 rfl) ?_
  refine lv_bipush (v := 8) hx hb dX5_init_109 (by decide) ?_
  refine va_newa (atype := .int) hx hb (hts _ wd_148) (ty := .int) rfl hK hP hD hS hA (N' := 8) (a0 := (8, .inl (fun _ => 0))) (fun _ => rfl) (by decide) (by decide) (Nat.le_of_ble_eq_true rfl) (Nat.le_of_ble_eq_true rfl) (Nat.le_of_ble_eq_true rfl) dX5_init_111 (fun q3 c3 H hK hP hD hS => ?_)
  have pD3 := pm1 [(oX h0 [.ref q1, .int 0, .int (-1), .ref n1, .ref n2, .ref n3, .ref n10, .ref n11, .ref n6, .ref qs, .int 0, .ref q2, .int 0, .null, .null, .null]), (cZ qs cs (fun _ => none))] ((([cI q1 c1 2000] ++ wl wd_C gs SE) ++ wl wd_C gp SE) ++ [cI q2 c2 80]) (wl wd_C b3 SB) [cI q3 c3 8]
  have hP := vP_perm pD3 hP
  have hD := vD_perm pD3 hD
  have hP : va_P (gg_D b) vwCl ((oX h0 [.ref q1, .int 0, .int (-1), .ref n1, .ref n2, .ref n3, .ref n10, .ref n11, .ref n6, .ref qs, .int 0, .ref q2, .int 0, .null, .null, .null]) :: (cZ qs cs (fun _ => none)) :: ((((([cI q1 c1 2000] ++ wl wd_C gs SE) ++ wl wd_C gp SE) ++ [cI q2 c2 80]) ++ [cI q3 c3 8]) ++ wl wd_C b3 SB)) H := hP
  have hD : va_D (nwA h0 s.heap.size) ((oX h0 [.ref q1, .int 0, .int (-1), .ref n1, .ref n2, .ref n3, .ref n10, .ref n11, .ref n6, .ref qs, .int 0, .ref q2, .int 0, .null, .null, .null]) :: (cZ qs cs (fun _ => none)) :: ((((([cI q1 c1 2000] ++ wl wd_C gs SE) ++ wl wd_C gp SE) ++ [cI q2 c2 80]) ++ [cI q3 c3 8]) ++ wl wd_C b3 SB)) := hD
  have hK : va_K (gg_D b) vwCl [(c1, FieldType.int), (cs, FieldType.object RX0), (c2, FieldType.int), (c3, FieldType.int)] s := hK
  refine va_putF (D := gg_D b) (ci := 5) (v := .ref q3) (ty := (.array .int)) (C := RX5) (T := TX5) (N := 16) hx hb hts in_X5 tyX5 tyX5_ok nmX5 hown hK hP hD hS 0 rfl rfl 13 (by decide) (hts _ wd_407) (fun _ h9 => h9) rfl hin rfl (by decide +kernel) rfl rfl (Nat.le_of_ble_eq_true rfl) dX5_init_113 (fun H locs hP hD hS => ?_)
  have hP : va_P (gg_D b) vwCl ((oX h0 [.ref q1, .int 0, .int (-1), .ref n1, .ref n2, .ref n3, .ref n10, .ref n11, .ref n6, .ref qs, .int 0, .ref q2, .int 0, .ref q3, .null, .null]) :: (cZ qs cs (fun _ => none)) :: ((((([cI q1 c1 2000] ++ wl wd_C gs SE) ++ wl wd_C gp SE) ++ [cI q2 c2 80]) ++ [cI q3 c3 8]) ++ wl wd_C b3 SB)) H := hP
  have hD : va_D (nwA h0 s.heap.size) ((oX h0 [.ref q1, .int 0, .int (-1), .ref n1, .ref n2, .ref n3, .ref n10, .ref n11, .ref n6, .ref qs, .int 0, .ref q2, .int 0, .ref q3, .null, .null]) :: (cZ qs cs (fun _ => none)) :: ((((([cI q1 c1 2000] ++ wl wd_C gs SE) ++ wl wd_C gp SE) ++ [cI q2 c2 80]) ++ [cI q3 c3 8]) ++ wl wd_C b3 SB)) := hD
  refine lv_aload_n hx hb dX5_init_116 rfl (lv_at hl 0 rfl) ?_
  refine lv_bipush (v := 8) hx hb dX5_init_117 (by decide) ?_
  refine va_newa (atype := .int) hx hb (hts _ wd_148) (ty := .int) rfl hK hP hD hS hA (N' := 8) (a0 := (8, .inl (fun _ => 0))) (fun _ => rfl) (by decide) (by decide) (Nat.le_of_ble_eq_true rfl) (Nat.le_of_ble_eq_true rfl) (Nat.le_of_ble_eq_true rfl) dX5_init_119 (fun q4 c4 H hK hP hD hS => ?_)
  have pD4 := pm1 [(oX h0 [.ref q1, .int 0, .int (-1), .ref n1, .ref n2, .ref n3, .ref n10, .ref n11, .ref n6, .ref qs, .int 0, .ref q2, .int 0, .ref q3, .null, .null]), (cZ qs cs (fun _ => none))] (((([cI q1 c1 2000] ++ wl wd_C gs SE) ++ wl wd_C gp SE) ++ [cI q2 c2 80]) ++ [cI q3 c3 8]) (wl wd_C b3 SB) [cI q4 c4 8]
  have hP := vP_perm pD4 hP
  have hD := vD_perm pD4 hD
  have hP : va_P (gg_D b) vwCl ((oX h0 [.ref q1, .int 0, .int (-1), .ref n1, .ref n2, .ref n3, .ref n10, .ref n11, .ref n6, .ref qs, .int 0, .ref q2, .int 0, .ref q3, .null, .null]) :: (cZ qs cs (fun _ => none)) :: (((((([cI q1 c1 2000] ++ wl wd_C gs SE) ++ wl wd_C gp SE) ++ [cI q2 c2 80]) ++ [cI q3 c3 8]) ++ [cI q4 c4 8]) ++ wl wd_C b3 SB)) H := hP
  have hD : va_D (nwA h0 s.heap.size) ((oX h0 [.ref q1, .int 0, .int (-1), .ref n1, .ref n2, .ref n3, .ref n10, .ref n11, .ref n6, .ref qs, .int 0, .ref q2, .int 0, .ref q3, .null, .null]) :: (cZ qs cs (fun _ => none)) :: (((((([cI q1 c1 2000] ++ wl wd_C gs SE) ++ wl wd_C gp SE) ++ [cI q2 c2 80]) ++ [cI q3 c3 8]) ++ [cI q4 c4 8]) ++ wl wd_C b3 SB)) := hD
  have hK : va_K (gg_D b) vwCl [(c1, FieldType.int), (cs, FieldType.object RX0), (c2, FieldType.int), (c3, FieldType.int), (c4, FieldType.int)] s := hK
  refine va_putF (D := gg_D b) (ci := 5) (v := .ref q4) (ty := (.array .int)) (C := RX5) (T := TX5) (N := 16) hx hb hts in_X5 tyX5 tyX5_ok nmX5 hown hK hP hD hS 0 rfl rfl 14 (by decide) (hts _ wd_408) (fun _ h9 => h9) rfl hin rfl (by decide +kernel) rfl rfl (Nat.le_of_ble_eq_true rfl) dX5_init_121 (fun H locs hP hD hS => ?_)
  have hP : va_P (gg_D b) vwCl ((oX h0 [.ref q1, .int 0, .int (-1), .ref n1, .ref n2, .ref n3, .ref n10, .ref n11, .ref n6, .ref qs, .int 0, .ref q2, .int 0, .ref q3, .ref q4, .null]) :: (cZ qs cs (fun _ => none)) :: (((((([cI q1 c1 2000] ++ wl wd_C gs SE) ++ wl wd_C gp SE) ++ [cI q2 c2 80]) ++ [cI q3 c3 8]) ++ [cI q4 c4 8]) ++ wl wd_C b3 SB)) H := hP
  have hD : va_D (nwA h0 s.heap.size) ((oX h0 [.ref q1, .int 0, .int (-1), .ref n1, .ref n2, .ref n3, .ref n10, .ref n11, .ref n6, .ref qs, .int 0, .ref q2, .int 0, .ref q3, .ref q4, .null]) :: (cZ qs cs (fun _ => none)) :: (((((([cI q1 c1 2000] ++ wl wd_C gs SE) ++ wl wd_C gp SE) ++ [cI q2 c2 80]) ++ [cI q3 c3 8]) ++ [cI q4 c4 8]) ++ wl wd_C b3 SB)) := hD
  refine lv_aload_n hx hb dX5_init_124 rfl (lv_at hl 0 rfl) ?_
  refine lv_sipush (v := 300) hx hb dX5_init_125 (by decide) ?_
  refine va_newa (atype := .int) hx hb (hts _ wd_148) (ty := .int) rfl hK hP hD hS hA (N' := 300) (a0 := (300, .inl (fun _ => 0))) (fun _ => rfl) (by decide) (by decide) (Nat.le_of_ble_eq_true rfl) (Nat.le_of_ble_eq_true rfl) (Nat.le_of_ble_eq_true rfl) dX5_init_128 (fun q5 c5 H hK hP hD hS => ?_)
  have pD5 := pm1 [(oX h0 [.ref q1, .int 0, .int (-1), .ref n1, .ref n2, .ref n3, .ref n10, .ref n11, .ref n6, .ref qs, .int 0, .ref q2, .int 0, .ref q3, .ref q4, .null]), (cZ qs cs (fun _ => none))] ((((([cI q1 c1 2000] ++ wl wd_C gs SE) ++ wl wd_C gp SE) ++ [cI q2 c2 80]) ++ [cI q3 c3 8]) ++ [cI q4 c4 8]) (wl wd_C b3 SB) [cI q5 c5 300]
  have hP := vP_perm pD5 hP
  have hD := vD_perm pD5 hD
  have hP : va_P (gg_D b) vwCl ((oX h0 [.ref q1, .int 0, .int (-1), .ref n1, .ref n2, .ref n3, .ref n10, .ref n11, .ref n6, .ref qs, .int 0, .ref q2, .int 0, .ref q3, .ref q4, .null]) :: (cZ qs cs (fun _ => none)) :: ((((((([cI q1 c1 2000] ++ wl wd_C gs SE) ++ wl wd_C gp SE) ++ [cI q2 c2 80]) ++ [cI q3 c3 8]) ++ [cI q4 c4 8]) ++ [cI q5 c5 300]) ++ wl wd_C b3 SB)) H := hP
  have hD : va_D (nwA h0 s.heap.size) ((oX h0 [.ref q1, .int 0, .int (-1), .ref n1, .ref n2, .ref n3, .ref n10, .ref n11, .ref n6, .ref qs, .int 0, .ref q2, .int 0, .ref q3, .ref q4, .null]) :: (cZ qs cs (fun _ => none)) :: ((((((([cI q1 c1 2000] ++ wl wd_C gs SE) ++ wl wd_C gp SE) ++ [cI q2 c2 80]) ++ [cI q3 c3 8]) ++ [cI q4 c4 8]) ++ [cI q5 c5 300]) ++ wl wd_C b3 SB)) := hD
  have hK : va_K (gg_D b) vwCl [(c1, FieldType.int), (cs, FieldType.object RX0), (c2, FieldType.int), (c3, FieldType.int), (c4, FieldType.int), (c5, FieldType.int)] s := hK
  refine va_putF (D := gg_D b) (ci := 5) (v := .ref q5) (ty := (.array .int)) (C := RX5) (T := TX5) (N := 16) hx hb hts in_X5 tyX5 tyX5_ok nmX5 hown hK hP hD hS 0 rfl rfl 15 (by decide) (hts _ wd_409) (fun _ h9 => h9) rfl hin rfl (by decide +kernel) rfl rfl (Nat.le_of_ble_eq_true rfl) dX5_init_130 (fun H locs hP hD hS => ?_)
  have hP : va_P (gg_D b) vwCl ((oX h0 [.ref q1, .int 0, .int (-1), .ref n1, .ref n2, .ref n3, .ref n10, .ref n11, .ref n6, .ref qs, .int 0, .ref q2, .int 0, .ref q3, .ref q4, .ref q5]) :: (cZ qs cs (fun _ => none)) :: ((((((([cI q1 c1 2000] ++ wl wd_C gs SE) ++ wl wd_C gp SE) ++ [cI q2 c2 80]) ++ [cI q3 c3 8]) ++ [cI q4 c4 8]) ++ [cI q5 c5 300]) ++ wl wd_C b3 SB)) H := hP
  have hD : va_D (nwA h0 s.heap.size) ((oX h0 [.ref q1, .int 0, .int (-1), .ref n1, .ref n2, .ref n3, .ref n10, .ref n11, .ref n6, .ref qs, .int 0, .ref q2, .int 0, .ref q3, .ref q4, .ref q5]) :: (cZ qs cs (fun _ => none)) :: ((((((([cI q1 c1 2000] ++ wl wd_C gs SE) ++ wl wd_C gp SE) ++ [cI q2 c2 80]) ++ [cI q3 c3 8]) ++ [cI q4 c4 8]) ++ [cI q5 c5 300]) ++ wl wd_C b3 SB)) := hD
  refine lv_iconst (v := 0) hx hb dX5_init_133 (by decide) ?_
  refine lv_istore_n (lv' := [(1, .int 0), (0, .ref h0)]) hx hb dX5_init_134 rfl hl (by decide) rfl (fun ls hl => ?_)
  refine lv_iload_n hx hb dX5_init_135 rfl (lv_at hl 0 rfl) ?_
  refine lv_aload_n hx hb dX5_init_136 rfl (lv_at hl 1 rfl) ?_
  refine va_get (C := RX5) (T := TX5) (N := 16) hx hb hts in_X5 hown hK hP 0 rfl rfl 9 (by decide) (hts _ wd_403) (fun _ h9 => h9) (v := .ref qs) rfl dX5_init_137 ?_
  refine va_alen hx hb hK hP 1 1 rfl rfl (v := 3) rfl dX5_init_140 ?_
  refine lv_icmp_ge (tgt := 167) hx hb dX5_init_141 rfl (fun hz => ?_) (fun hz => ?_)
  · exact absurd hz (by decide)
  refine lv_aload_n hx hb dX5_init_144 rfl (lv_at hl 1 rfl) ?_
  refine va_get (C := RX5) (T := TX5) (N := 16) hx hb hts in_X5 hown hK hP 0 rfl rfl 9 (by decide) (hts _ wd_403) (fun _ h9 => h9) (v := .ref qs) rfl dX5_init_145 ?_
  refine lv_iload_n hx hb dX5_init_148 rfl (lv_at hl 0 rfl) ?_
  refine va_new (ci := 0) (fs := [.null, .int 0, .null, .null, .null, .null, .null, .null, .null]) (C := RX0) (T := TX0) (N := 9) hx hb hts in_X0 tyX0 tyX0_ok hown (hts _ wd_274) (hts _ wd_275) (hts _ wd_10) hK hP hD hS hA rfl (fun j hj => by rcases (show j = 0 ∨ j = 1 ∨ j = 2 ∨ j = 3 ∨ j = 4 ∨ j = 5 ∨ j = 6 ∨ j = 7 ∨ j = 8 by omega) with rfl | rfl | rfl | rfl | rfl | rfl | rfl | rfl | rfl <;> rfl) (Nat.le_of_ble_eq_true rfl) (Nat.le_of_ble_eq_true rfl) dX5_init_149 (fun n12 H hP hD hS => ?_)
  refine lv_dup hx hb dX5_init_152 rfl ?_
  refine lv_aload_n hx hb dX5_init_153 rfl (lv_at hl 1 rfl) ?_
  refine va_get (C := RX5) (T := TX5) (N := 16) hx hb hts in_X5 hown hK hP 0 rfl rfl 4 (by decide) (hts _ wd_398) (fun _ h9 => h9) (v := .ref n2) rfl dX5_init_154 ?_
  rw [show (Value.ref n2) = Value.ref (gg_o b3 2) from by rw [w2]]
  refine r_crt (pre := ((oX h0 [.ref q1, .int 0, .int (-1), .ref n1, .ref n2, .ref n3, .ref n10, .ref n11, .ref n6, .ref qs, .int 0, .ref q2, .int 0, .ref q3, .ref q4, .ref q5]) :: (cZ qs cs (fun _ => none)) :: (((((([cI q1 c1 2000] ++ wl wd_C gs SE) ++ wl wd_C gp SE) ++ [cI q2 c2 80]) ++ [cI q3 c3 8]) ++ [cI q4 c4 8]) ++ [cI q5 c5 300]))) (b' := b3) (k := 12) (kt := 2) (S := SB) (S1 := SC) hx hb hml hown hts hcs lk_X5_36 ⟨Nat.le_of_ble_eq_true rfl, Nat.le_of_ble_eq_true rfl⟩ bs3 kn3 (by decide) (Or.inl rfl) (by rw [os3]; decide) eC hP hD hKb hS hA hl.1 (Nat.le_of_ble_eq_true rfl) dX5_init_157 ⟨Nat.le_of_ble_eq_true rfl, Nat.le_of_ble_eq_true rfl⟩ (fun b4 H locs hc hkn hP hD hKb hS => ?_)
  have os4 : gg_os b4 = [12, 11, 10, 2, 4, 3, 5] := hc.2.2.2.2.2.1.trans (by rw [os3])
  have bs4 : bas b4 SC := ⟨hc.1, hc.2.1, hc.2.2.1, hc.2.2.2.2.1, by rw [os4]; decide, fun z hz h10 => Or.inl (pC1 z ((by decide : ∀ z ∈ ([12, 11, 10, 2, 4, 3, 5] : List Nat), 10 ≤ z → z ∈ ([12, 11, 10] : List Nat)) z (by rw [← os4]; exact hz) h10))⟩
  have kn4 := hkn
  have w2 : gg_o b4 2 = n2 := (hc.2.2.2.2.2.2.2.2.1 2 (by rw [os3]; decide)).trans w2
  have w3 : gg_o b4 3 = n3 := (hc.2.2.2.2.2.2.2.2.1 3 (by rw [os3]; decide)).trans w3
  have w10 : gg_o b4 10 = n10 := (hc.2.2.2.2.2.2.2.2.1 10 (by rw [os3]; decide)).trans w10
  have x10 : hs wd_C b4 10 0 := hc.2.2.2.2.2.2.2.2.2 _ _ x10
  have w11 : gg_o b4 11 = n11 := (hc.2.2.2.2.2.2.2.2.1 11 (by rw [os3]; decide)).trans w11
  have x11 : hs wd_C b4 11 0 := hc.2.2.2.2.2.2.2.2.2 _ _ x11
  have w12 : gg_o b4 12 = n12 := hc.2.2.2.2.2.2.2.1
  have x12 : hs wd_C b4 12 0 := hc.2.2.2.2.2.2.1
  have hP : va_P (gg_D b) vwCl ((oX h0 [.ref q1, .int 0, .int (-1), .ref n1, .ref n2, .ref n3, .ref n10, .ref n11, .ref n6, .ref qs, .int 0, .ref q2, .int 0, .ref q3, .ref q4, .ref q5]) :: (cZ qs cs (fun _ => none)) :: ((((((([cI q1 c1 2000] ++ wl wd_C gs SE) ++ wl wd_C gp SE) ++ [cI q2 c2 80]) ++ [cI q3 c3 8]) ++ [cI q4 c4 8]) ++ [cI q5 c5 300]) ++ wl wd_C b4 SC)) H := hP
  have hD : va_D (nwA h0 s.heap.size) ((oX h0 [.ref q1, .int 0, .int (-1), .ref n1, .ref n2, .ref n3, .ref n10, .ref n11, .ref n6, .ref qs, .int 0, .ref q2, .int 0, .ref q3, .ref q4, .ref q5]) :: (cZ qs cs (fun _ => none)) :: ((((((([cI q1 c1 2000] ++ wl wd_C gs SE) ++ wl wd_C gp SE) ++ [cI q2 c2 80]) ++ [cI q3 c3 8]) ++ [cI q4 c4 8]) ++ [cI q5 c5 300]) ++ wl wd_C b4 SC)) := hD
  obtain ⟨ix, _, hix⟩ := wl_o (w := wd_C) (g := b4) SC (k := 12) (by rw [os4]; decide)
  have hv : ((oX h0 [.ref q1, .int 0, .int (-1), .ref n1, .ref n2, .ref n3, .ref n10, .ref n11, .ref n6, .ref qs, .int 0, .ref q2, .int 0, .ref q3, .ref q4, .ref q5]) :: (cZ qs cs (fun _ => none)) :: ((((((([cI q1 c1 2000] ++ wl wd_C gs SE) ++ wl wd_C gp SE) ++ [cI q2 c2 80]) ++ [cI q3 c3 8]) ++ [cI q4 c4 8]) ++ [cI q5 c5 300]) ++ wl wd_C b4 SC))[(((((([cI q1 c1 2000] ++ wl wd_C gs SE) ++ wl wd_C gp SE) ++ [cI q2 c2 80]) ++ [cI q3 c3 8]) ++ [cI q4 c4 8]) ++ [cI q5 c5 300]).length + ix + 2]? = some (n12, .inr (0, fl wd_C b4 SC 12)) := by
    show ((((((([cI q1 c1 2000] ++ wl wd_C gs SE) ++ wl wd_C gp SE) ++ [cI q2 c2 80]) ++ [cI q3 c3 8]) ++ [cI q4 c4 8]) ++ [cI q5 c5 300]) ++ wl wd_C b4 SC)[(((((([cI q1 c1 2000] ++ wl wd_C gs SE) ++ wl wd_C gp SE) ++ [cI q2 c2 80]) ++ [cI q3 c3 8]) ++ [cI q4 c4 8]) ++ [cI q5 c5 300]).length + ix]? = _
    rw [List.getElem?_append_right (Nat.le_add_right _ _), Nat.add_sub_cancel_left, hix, w12]
    rfl
  refine va_astq hx hb hK hP hD hS 1 1 ((((((([cI q1 c1 2000] ++ wl wd_C gs SE) ++ wl wd_C gp SE) ++ [cI q2 c2 80]) ++ [cI q3 c3 8]) ++ [cI q4 c4 8]) ++ [cI q5 c5 300]).length + ix + 2) 0 rfl rfl hv rfl (i := 0) (show vp_in (0 : Int32) 3 from vp_in_nI (n := 0) (N := 3) (by decide) (by decide)) dX5_init_160 (fun H locs hP hD hS => ?_)
  have hP : va_P (gg_D b) vwCl ((oX h0 [.ref q1, .int 0, .int (-1), .ref n1, .ref n2, .ref n3, .ref n10, .ref n11, .ref n6, .ref qs, .int 0, .ref q2, .int 0, .ref q3, .ref q4, .ref q5]) :: (cZ qs cs (va_up (fun _ => none) (0 : Int32).toNatClampNeg (some n12))) :: ((((((([cI q1 c1 2000] ++ wl wd_C gs SE) ++ wl wd_C gp SE) ++ [cI q2 c2 80]) ++ [cI q3 c3 8]) ++ [cI q4 c4 8]) ++ [cI q5 c5 300]) ++ wl wd_C b4 SC)) H := hP
  have hD : va_D (nwA h0 s.heap.size) ((oX h0 [.ref q1, .int 0, .int (-1), .ref n1, .ref n2, .ref n3, .ref n10, .ref n11, .ref n6, .ref qs, .int 0, .ref q2, .int 0, .ref q3, .ref q4, .ref q5]) :: (cZ qs cs (va_up (fun _ => none) (0 : Int32).toNatClampNeg (some n12))) :: ((((((([cI q1 c1 2000] ++ wl wd_C gs SE) ++ wl wd_C gp SE) ++ [cI q2 c2 80]) ++ [cI q3 c3 8]) ++ [cI q4 c4 8]) ++ [cI q5 c5 300]) ++ wl wd_C b4 SC)) := hD
  refine lv_iinc (v := 1) (lv' := [(1, .int 1), (0, .ref h0)]) hx hb dX5_init_161 hl (k := 0) rfl (by decide) (by decide) rfl (fun ls hl => ?_)
  refine lv_goto (tgt := 135) hx hb dX5_init_164 rfl ?_
  refine lv_iload_n hx hb dX5_init_135 rfl (lv_at hl 0 rfl) ?_
  refine lv_aload_n hx hb dX5_init_136 rfl (lv_at hl 1 rfl) ?_
  refine va_get (C := RX5) (T := TX5) (N := 16) hx hb hts in_X5 hown hK hP 0 rfl rfl 9 (by decide) (hts _ wd_403) (fun _ h9 => h9) (v := .ref qs) rfl dX5_init_137 ?_
  refine va_alen hx hb hK hP 1 1 rfl rfl (v := 3) rfl dX5_init_140 ?_
  refine lv_icmp_ge (tgt := 167) hx hb dX5_init_141 rfl (fun hz => ?_) (fun hz => ?_)
  · exact absurd hz (by decide)
  refine lv_aload_n hx hb dX5_init_144 rfl (lv_at hl 1 rfl) ?_
  refine va_get (C := RX5) (T := TX5) (N := 16) hx hb hts in_X5 hown hK hP 0 rfl rfl 9 (by decide) (hts _ wd_403) (fun _ h9 => h9) (v := .ref qs) rfl dX5_init_145 ?_
  refine lv_iload_n hx hb dX5_init_148 rfl (lv_at hl 0 rfl) ?_
  refine va_new (ci := 0) (fs := [.null, .int 0, .null, .null, .null, .null, .null, .null, .null]) (C := RX0) (T := TX0) (N := 9) hx hb hts in_X0 tyX0 tyX0_ok hown (hts _ wd_274) (hts _ wd_275) (hts _ wd_10) hK hP hD hS hA rfl (fun j hj => by rcases (show j = 0 ∨ j = 1 ∨ j = 2 ∨ j = 3 ∨ j = 4 ∨ j = 5 ∨ j = 6 ∨ j = 7 ∨ j = 8 by omega) with rfl | rfl | rfl | rfl | rfl | rfl | rfl | rfl | rfl <;> rfl) (Nat.le_of_ble_eq_true rfl) (Nat.le_of_ble_eq_true rfl) dX5_init_149 (fun n13 H hP hD hS => ?_)
  refine lv_dup hx hb dX5_init_152 rfl ?_
  refine lv_aload_n hx hb dX5_init_153 rfl (lv_at hl 1 rfl) ?_
  refine va_get (C := RX5) (T := TX5) (N := 16) hx hb hts in_X5 hown hK hP 0 rfl rfl 4 (by decide) (hts _ wd_398) (fun _ h9 => h9) (v := .ref n2) rfl dX5_init_154 ?_
  rw [show (Value.ref n2) = Value.ref (gg_o b4 2) from by rw [w2]]
  refine r_crt (pre := ((oX h0 [.ref q1, .int 0, .int (-1), .ref n1, .ref n2, .ref n3, .ref n10, .ref n11, .ref n6, .ref qs, .int 0, .ref q2, .int 0, .ref q3, .ref q4, .ref q5]) :: (cZ qs cs (va_up (fun _ => none) (0 : Int32).toNatClampNeg (some n12))) :: (((((([cI q1 c1 2000] ++ wl wd_C gs SE) ++ wl wd_C gp SE) ++ [cI q2 c2 80]) ++ [cI q3 c3 8]) ++ [cI q4 c4 8]) ++ [cI q5 c5 300]))) (b' := b4) (k := 13) (kt := 2) (S := SC) (S1 := SD) hx hb hml hown hts hcs lk_X5_36 ⟨Nat.le_of_ble_eq_true rfl, Nat.le_of_ble_eq_true rfl⟩ bs4 kn4 (by decide) (Or.inl rfl) (by rw [os4]; decide) eD hP hD hKb hS hA hl.1 (Nat.le_of_ble_eq_true rfl) dX5_init_157 ⟨Nat.le_of_ble_eq_true rfl, Nat.le_of_ble_eq_true rfl⟩ (fun b5 H locs hc hkn hP hD hKb hS => ?_)
  have os5 : gg_os b5 = [13, 12, 11, 10, 2, 4, 3, 5] := hc.2.2.2.2.2.1.trans (by rw [os4])
  have bs5 : bas b5 SD := ⟨hc.1, hc.2.1, hc.2.2.1, hc.2.2.2.2.1, by rw [os5]; decide, fun z hz h10 => Or.inl (pD1 z ((by decide : ∀ z ∈ ([13, 12, 11, 10, 2, 4, 3, 5] : List Nat), 10 ≤ z → z ∈ ([13, 12, 11, 10] : List Nat)) z (by rw [← os5]; exact hz) h10))⟩
  have kn5 := hkn
  have w2 : gg_o b5 2 = n2 := (hc.2.2.2.2.2.2.2.2.1 2 (by rw [os4]; decide)).trans w2
  have w3 : gg_o b5 3 = n3 := (hc.2.2.2.2.2.2.2.2.1 3 (by rw [os4]; decide)).trans w3
  have w10 : gg_o b5 10 = n10 := (hc.2.2.2.2.2.2.2.2.1 10 (by rw [os4]; decide)).trans w10
  have x10 : hs wd_C b5 10 0 := hc.2.2.2.2.2.2.2.2.2 _ _ x10
  have w11 : gg_o b5 11 = n11 := (hc.2.2.2.2.2.2.2.2.1 11 (by rw [os4]; decide)).trans w11
  have x11 : hs wd_C b5 11 0 := hc.2.2.2.2.2.2.2.2.2 _ _ x11
  have w12 : gg_o b5 12 = n12 := (hc.2.2.2.2.2.2.2.2.1 12 (by rw [os4]; decide)).trans w12
  have x12 : hs wd_C b5 12 0 := hc.2.2.2.2.2.2.2.2.2 _ _ x12
  have w13 : gg_o b5 13 = n13 := hc.2.2.2.2.2.2.2.1
  have x13 : hs wd_C b5 13 0 := hc.2.2.2.2.2.2.1
  have hP : va_P (gg_D b) vwCl ((oX h0 [.ref q1, .int 0, .int (-1), .ref n1, .ref n2, .ref n3, .ref n10, .ref n11, .ref n6, .ref qs, .int 0, .ref q2, .int 0, .ref q3, .ref q4, .ref q5]) :: (cZ qs cs (va_up (fun _ => none) (0 : Int32).toNatClampNeg (some n12))) :: ((((((([cI q1 c1 2000] ++ wl wd_C gs SE) ++ wl wd_C gp SE) ++ [cI q2 c2 80]) ++ [cI q3 c3 8]) ++ [cI q4 c4 8]) ++ [cI q5 c5 300]) ++ wl wd_C b5 SD)) H := hP
  have hD : va_D (nwA h0 s.heap.size) ((oX h0 [.ref q1, .int 0, .int (-1), .ref n1, .ref n2, .ref n3, .ref n10, .ref n11, .ref n6, .ref qs, .int 0, .ref q2, .int 0, .ref q3, .ref q4, .ref q5]) :: (cZ qs cs (va_up (fun _ => none) (0 : Int32).toNatClampNeg (some n12))) :: ((((((([cI q1 c1 2000] ++ wl wd_C gs SE) ++ wl wd_C gp SE) ++ [cI q2 c2 80]) ++ [cI q3 c3 8]) ++ [cI q4 c4 8]) ++ [cI q5 c5 300]) ++ wl wd_C b5 SD)) := hD
  obtain ⟨ix, _, hix⟩ := wl_o (w := wd_C) (g := b5) SD (k := 13) (by rw [os5]; decide)
  have hv : ((oX h0 [.ref q1, .int 0, .int (-1), .ref n1, .ref n2, .ref n3, .ref n10, .ref n11, .ref n6, .ref qs, .int 0, .ref q2, .int 0, .ref q3, .ref q4, .ref q5]) :: (cZ qs cs (va_up (fun _ => none) (0 : Int32).toNatClampNeg (some n12))) :: ((((((([cI q1 c1 2000] ++ wl wd_C gs SE) ++ wl wd_C gp SE) ++ [cI q2 c2 80]) ++ [cI q3 c3 8]) ++ [cI q4 c4 8]) ++ [cI q5 c5 300]) ++ wl wd_C b5 SD))[(((((([cI q1 c1 2000] ++ wl wd_C gs SE) ++ wl wd_C gp SE) ++ [cI q2 c2 80]) ++ [cI q3 c3 8]) ++ [cI q4 c4 8]) ++ [cI q5 c5 300]).length + ix + 2]? = some (n13, .inr (0, fl wd_C b5 SD 13)) := by
    show ((((((([cI q1 c1 2000] ++ wl wd_C gs SE) ++ wl wd_C gp SE) ++ [cI q2 c2 80]) ++ [cI q3 c3 8]) ++ [cI q4 c4 8]) ++ [cI q5 c5 300]) ++ wl wd_C b5 SD)[(((((([cI q1 c1 2000] ++ wl wd_C gs SE) ++ wl wd_C gp SE) ++ [cI q2 c2 80]) ++ [cI q3 c3 8]) ++ [cI q4 c4 8]) ++ [cI q5 c5 300]).length + ix]? = _
    rw [List.getElem?_append_right (Nat.le_add_right _ _), Nat.add_sub_cancel_left, hix, w13]
    rfl
  refine va_astq hx hb hK hP hD hS 1 1 ((((((([cI q1 c1 2000] ++ wl wd_C gs SE) ++ wl wd_C gp SE) ++ [cI q2 c2 80]) ++ [cI q3 c3 8]) ++ [cI q4 c4 8]) ++ [cI q5 c5 300]).length + ix + 2) 0 rfl rfl hv rfl (i := 1) (show vp_in (1 : Int32) 3 from vp_in_nI (n := 1) (N := 3) (by decide) (by decide)) dX5_init_160 (fun H locs hP hD hS => ?_)
  have hP : va_P (gg_D b) vwCl ((oX h0 [.ref q1, .int 0, .int (-1), .ref n1, .ref n2, .ref n3, .ref n10, .ref n11, .ref n6, .ref qs, .int 0, .ref q2, .int 0, .ref q3, .ref q4, .ref q5]) :: (cZ qs cs (va_up (va_up (fun _ => none) (0 : Int32).toNatClampNeg (some n12)) (1 : Int32).toNatClampNeg (some n13))) :: ((((((([cI q1 c1 2000] ++ wl wd_C gs SE) ++ wl wd_C gp SE) ++ [cI q2 c2 80]) ++ [cI q3 c3 8]) ++ [cI q4 c4 8]) ++ [cI q5 c5 300]) ++ wl wd_C b5 SD)) H := hP
  have hD : va_D (nwA h0 s.heap.size) ((oX h0 [.ref q1, .int 0, .int (-1), .ref n1, .ref n2, .ref n3, .ref n10, .ref n11, .ref n6, .ref qs, .int 0, .ref q2, .int 0, .ref q3, .ref q4, .ref q5]) :: (cZ qs cs (va_up (va_up (fun _ => none) (0 : Int32).toNatClampNeg (some n12)) (1 : Int32).toNatClampNeg (some n13))) :: ((((((([cI q1 c1 2000] ++ wl wd_C gs SE) ++ wl wd_C gp SE) ++ [cI q2 c2 80]) ++ [cI q3 c3 8]) ++ [cI q4 c4 8]) ++ [cI q5 c5 300]) ++ wl wd_C b5 SD)) := hD
  refine lv_iinc (v := 2) (lv' := [(1, .int 2), (0, .ref h0)]) hx hb dX5_init_161 hl (k := 0) rfl (by decide) (by decide) rfl (fun ls hl => ?_)
  refine lv_goto (tgt := 135) hx hb dX5_init_164 rfl ?_
  refine lv_iload_n hx hb dX5_init_135 rfl (lv_at hl 0 rfl) ?_
  refine lv_aload_n hx hb dX5_init_136 rfl (lv_at hl 1 rfl) ?_
  refine va_get (C := RX5) (T := TX5) (N := 16) hx hb hts in_X5 hown hK hP 0 rfl rfl 9 (by decide) (hts _ wd_403) (fun _ h9 => h9) (v := .ref qs) rfl dX5_init_137 ?_
  refine va_alen hx hb hK hP 1 1 rfl rfl (v := 3) rfl dX5_init_140 ?_
  refine lv_icmp_ge (tgt := 167) hx hb dX5_init_141 rfl (fun hz => ?_) (fun hz => ?_)
  · exact absurd hz (by decide)
  refine lv_aload_n hx hb dX5_init_144 rfl (lv_at hl 1 rfl) ?_
  refine va_get (C := RX5) (T := TX5) (N := 16) hx hb hts in_X5 hown hK hP 0 rfl rfl 9 (by decide) (hts _ wd_403) (fun _ h9 => h9) (v := .ref qs) rfl dX5_init_145 ?_
  refine lv_iload_n hx hb dX5_init_148 rfl (lv_at hl 0 rfl) ?_
  refine va_new (ci := 0) (fs := [.null, .int 0, .null, .null, .null, .null, .null, .null, .null]) (C := RX0) (T := TX0) (N := 9) hx hb hts in_X0 tyX0 tyX0_ok hown (hts _ wd_274) (hts _ wd_275) (hts _ wd_10) hK hP hD hS hA rfl (fun j hj => by rcases (show j = 0 ∨ j = 1 ∨ j = 2 ∨ j = 3 ∨ j = 4 ∨ j = 5 ∨ j = 6 ∨ j = 7 ∨ j = 8 by omega) with rfl | rfl | rfl | rfl | rfl | rfl | rfl | rfl | rfl <;> rfl) (Nat.le_of_ble_eq_true rfl) (Nat.le_of_ble_eq_true rfl) dX5_init_149 (fun n14 H hP hD hS => ?_)
  refine lv_dup hx hb dX5_init_152 rfl ?_
  refine lv_aload_n hx hb dX5_init_153 rfl (lv_at hl 1 rfl) ?_
  refine va_get (C := RX5) (T := TX5) (N := 16) hx hb hts in_X5 hown hK hP 0 rfl rfl 4 (by decide) (hts _ wd_398) (fun _ h9 => h9) (v := .ref n2) rfl dX5_init_154 ?_
  rw [show (Value.ref n2) = Value.ref (gg_o b5 2) from by rw [w2]]
  refine r_crt (pre := ((oX h0 [.ref q1, .int 0, .int (-1), .ref n1, .ref n2, .ref n3, .ref n10, .ref n11, .ref n6, .ref qs, .int 0, .ref q2, .int 0, .ref q3, .ref q4, .ref q5]) :: (cZ qs cs (va_up (va_up (fun _ => none) (0 : Int32).toNatClampNeg (some n12)) (1 : Int32).toNatClampNeg (some n13))) :: (((((([cI q1 c1 2000] ++ wl wd_C gs SE) ++ wl wd_C gp SE) ++ [cI q2 c2 80]) ++ [cI q3 c3 8]) ++ [cI q4 c4 8]) ++ [cI q5 c5 300]))) (b' := b5) (k := 14) (kt := 2) (S := SD) (S1 := SE) hx hb hml hown hts hcs lk_X5_36 ⟨Nat.le_of_ble_eq_true rfl, Nat.le_of_ble_eq_true rfl⟩ bs5 kn5 (by decide) (Or.inl rfl) (by rw [os5]; decide) eE hP hD hKb hS hA hl.1 (Nat.le_of_ble_eq_true rfl) dX5_init_157 ⟨Nat.le_of_ble_eq_true rfl, Nat.le_of_ble_eq_true rfl⟩ (fun b6 H locs hc hkn hP hD hKb hS => ?_)
  have os6 : gg_os b6 = [14, 13, 12, 11, 10, 2, 4, 3, 5] := hc.2.2.2.2.2.1.trans (by rw [os5])
  have bs6 : bas b6 SE := ⟨hc.1, hc.2.1, hc.2.2.1, hc.2.2.2.2.1, by rw [os6]; decide, fun z hz h10 => Or.inl (pE1 z ((by decide : ∀ z ∈ ([14, 13, 12, 11, 10, 2, 4, 3, 5] : List Nat), 10 ≤ z → z ∈ ([14, 13, 12, 11, 10] : List Nat)) z (by rw [← os6]; exact hz) h10))⟩
  have kn6 := hkn
  have w2 : gg_o b6 2 = n2 := (hc.2.2.2.2.2.2.2.2.1 2 (by rw [os5]; decide)).trans w2
  have w3 : gg_o b6 3 = n3 := (hc.2.2.2.2.2.2.2.2.1 3 (by rw [os5]; decide)).trans w3
  have w10 : gg_o b6 10 = n10 := (hc.2.2.2.2.2.2.2.2.1 10 (by rw [os5]; decide)).trans w10
  have x10 : hs wd_C b6 10 0 := hc.2.2.2.2.2.2.2.2.2 _ _ x10
  have w11 : gg_o b6 11 = n11 := (hc.2.2.2.2.2.2.2.2.1 11 (by rw [os5]; decide)).trans w11
  have x11 : hs wd_C b6 11 0 := hc.2.2.2.2.2.2.2.2.2 _ _ x11
  have w12 : gg_o b6 12 = n12 := (hc.2.2.2.2.2.2.2.2.1 12 (by rw [os5]; decide)).trans w12
  have x12 : hs wd_C b6 12 0 := hc.2.2.2.2.2.2.2.2.2 _ _ x12
  have w13 : gg_o b6 13 = n13 := (hc.2.2.2.2.2.2.2.2.1 13 (by rw [os5]; decide)).trans w13
  have x13 : hs wd_C b6 13 0 := hc.2.2.2.2.2.2.2.2.2 _ _ x13
  have w14 : gg_o b6 14 = n14 := hc.2.2.2.2.2.2.2.1
  have x14 : hs wd_C b6 14 0 := hc.2.2.2.2.2.2.1
  have hP : va_P (gg_D b) vwCl ((oX h0 [.ref q1, .int 0, .int (-1), .ref n1, .ref n2, .ref n3, .ref n10, .ref n11, .ref n6, .ref qs, .int 0, .ref q2, .int 0, .ref q3, .ref q4, .ref q5]) :: (cZ qs cs (va_up (va_up (fun _ => none) (0 : Int32).toNatClampNeg (some n12)) (1 : Int32).toNatClampNeg (some n13))) :: ((((((([cI q1 c1 2000] ++ wl wd_C gs SE) ++ wl wd_C gp SE) ++ [cI q2 c2 80]) ++ [cI q3 c3 8]) ++ [cI q4 c4 8]) ++ [cI q5 c5 300]) ++ wl wd_C b6 SE)) H := hP
  have hD : va_D (nwA h0 s.heap.size) ((oX h0 [.ref q1, .int 0, .int (-1), .ref n1, .ref n2, .ref n3, .ref n10, .ref n11, .ref n6, .ref qs, .int 0, .ref q2, .int 0, .ref q3, .ref q4, .ref q5]) :: (cZ qs cs (va_up (va_up (fun _ => none) (0 : Int32).toNatClampNeg (some n12)) (1 : Int32).toNatClampNeg (some n13))) :: ((((((([cI q1 c1 2000] ++ wl wd_C gs SE) ++ wl wd_C gp SE) ++ [cI q2 c2 80]) ++ [cI q3 c3 8]) ++ [cI q4 c4 8]) ++ [cI q5 c5 300]) ++ wl wd_C b6 SE)) := hD
  obtain ⟨ix, _, hix⟩ := wl_o (w := wd_C) (g := b6) SE (k := 14) (by rw [os6]; decide)
  have hv : ((oX h0 [.ref q1, .int 0, .int (-1), .ref n1, .ref n2, .ref n3, .ref n10, .ref n11, .ref n6, .ref qs, .int 0, .ref q2, .int 0, .ref q3, .ref q4, .ref q5]) :: (cZ qs cs (va_up (va_up (fun _ => none) (0 : Int32).toNatClampNeg (some n12)) (1 : Int32).toNatClampNeg (some n13))) :: ((((((([cI q1 c1 2000] ++ wl wd_C gs SE) ++ wl wd_C gp SE) ++ [cI q2 c2 80]) ++ [cI q3 c3 8]) ++ [cI q4 c4 8]) ++ [cI q5 c5 300]) ++ wl wd_C b6 SE))[(((((([cI q1 c1 2000] ++ wl wd_C gs SE) ++ wl wd_C gp SE) ++ [cI q2 c2 80]) ++ [cI q3 c3 8]) ++ [cI q4 c4 8]) ++ [cI q5 c5 300]).length + ix + 2]? = some (n14, .inr (0, fl wd_C b6 SE 14)) := by
    show ((((((([cI q1 c1 2000] ++ wl wd_C gs SE) ++ wl wd_C gp SE) ++ [cI q2 c2 80]) ++ [cI q3 c3 8]) ++ [cI q4 c4 8]) ++ [cI q5 c5 300]) ++ wl wd_C b6 SE)[(((((([cI q1 c1 2000] ++ wl wd_C gs SE) ++ wl wd_C gp SE) ++ [cI q2 c2 80]) ++ [cI q3 c3 8]) ++ [cI q4 c4 8]) ++ [cI q5 c5 300]).length + ix]? = _
    rw [List.getElem?_append_right (Nat.le_add_right _ _), Nat.add_sub_cancel_left, hix, w14]
    rfl
  refine va_astq hx hb hK hP hD hS 1 1 ((((((([cI q1 c1 2000] ++ wl wd_C gs SE) ++ wl wd_C gp SE) ++ [cI q2 c2 80]) ++ [cI q3 c3 8]) ++ [cI q4 c4 8]) ++ [cI q5 c5 300]).length + ix + 2) 0 rfl rfl hv rfl (i := 2) (show vp_in (2 : Int32) 3 from vp_in_nI (n := 2) (N := 3) (by decide) (by decide)) dX5_init_160 (fun H locs hP hD hS => ?_)
  have hP : va_P (gg_D b) vwCl ((oX h0 [.ref q1, .int 0, .int (-1), .ref n1, .ref n2, .ref n3, .ref n10, .ref n11, .ref n6, .ref qs, .int 0, .ref q2, .int 0, .ref q3, .ref q4, .ref q5]) :: (cZ qs cs (va_up (va_up (va_up (fun _ => none) (0 : Int32).toNatClampNeg (some n12)) (1 : Int32).toNatClampNeg (some n13)) (2 : Int32).toNatClampNeg (some n14))) :: ((((((([cI q1 c1 2000] ++ wl wd_C gs SE) ++ wl wd_C gp SE) ++ [cI q2 c2 80]) ++ [cI q3 c3 8]) ++ [cI q4 c4 8]) ++ [cI q5 c5 300]) ++ wl wd_C b6 SE)) H := hP
  have hD : va_D (nwA h0 s.heap.size) ((oX h0 [.ref q1, .int 0, .int (-1), .ref n1, .ref n2, .ref n3, .ref n10, .ref n11, .ref n6, .ref qs, .int 0, .ref q2, .int 0, .ref q3, .ref q4, .ref q5]) :: (cZ qs cs (va_up (va_up (va_up (fun _ => none) (0 : Int32).toNatClampNeg (some n12)) (1 : Int32).toNatClampNeg (some n13)) (2 : Int32).toNatClampNeg (some n14))) :: ((((((([cI q1 c1 2000] ++ wl wd_C gs SE) ++ wl wd_C gp SE) ++ [cI q2 c2 80]) ++ [cI q3 c3 8]) ++ [cI q4 c4 8]) ++ [cI q5 c5 300]) ++ wl wd_C b6 SE)) := hD
  refine lv_iinc (v := 3) (lv' := [(1, .int 3), (0, .ref h0)]) hx hb dX5_init_161 hl (k := 0) rfl (by decide) (by decide) rfl (fun ls hl => ?_)
  refine lv_goto (tgt := 135) hx hb dX5_init_164 rfl ?_
  refine lv_iload_n hx hb dX5_init_135 rfl (lv_at hl 0 rfl) ?_
  refine lv_aload_n hx hb dX5_init_136 rfl (lv_at hl 1 rfl) ?_
  refine va_get (C := RX5) (T := TX5) (N := 16) hx hb hts in_X5 hown hK hP 0 rfl rfl 9 (by decide) (hts _ wd_403) (fun _ h9 => h9) (v := .ref qs) rfl dX5_init_137 ?_
  refine va_alen hx hb hK hP 1 1 rfl rfl (v := 3) rfl dX5_init_140 ?_
  refine lv_icmp_ge (tgt := 167) hx hb dX5_init_141 rfl (fun hz => ?_) (fun hz => ?_)
  · have z0 : ∀ f, f < 100 → ¬ ¬ (ky 0 f / 100 = 0 ∨ ky 0 f / 100 = 6) := fun f hf h => h (Or.inl (ky_div 0 hf))
    obtain ⟨g, a1, a2, a3, a4, a5, a6, a7⟩ := asm hsc hp6 bs6.1 bs6.2.1 bs6.2.2.1 bs6.2.2.2.1 os6 (fun j hj => by
      have h5 : j = 0 ∨ j = 1 ∨ j = 2 ∨ j = 3 ∨ j = 4 := by omega
      rcases h5 with rfl | rfl | rfl | rfl | rfl
      · exact x10
      · exact x11
      · exact x12
      · exact x13
      · exact x14) kn6 pE1 (((o0 _ (z0 4 (by decide))).2.2.2.2).trans rfl) (((o0 _ (z0 5 (by decide))).2.2.2.2).trans rfl) (((o0 _ (z0 1 (by decide))).1).trans rfl) (((o0 _ (z0 2 (by decide))).1).trans rfl) (((o0 _ (z0 10 (by decide))).1).trans rfl) (((o0 _ (z0 12 (by decide))).1).trans rfl) (fun f hf => ((o0 _ (z0 f ((by decide : ∀ f ∈ ([0, 11, 13, 14, 15] : List Nat), f < 100) f hf))).2.1).trans rfl) w2 w3 w10 w11 (fun j hj => by
      have h5 : j = 0 ∨ j = 1 ∨ j = 2 := by omega
      rcases h5 with rfl | rfl | rfl
      · rw [show (12 : Nat) + 0 = 12 from rfl, w12]; rfl
      · rw [show (12 : Nat) + 1 = 13 from rfl, w13]; rfl
      · rw [show (12 : Nat) + 2 = 14 from rfl, w14]; rfl) hP hD hK hKs hKp hKb
    exact W.vret hx hb hr (fun t ht hW => ⟨⟨(g, SE), rfl, ⟨⟨a1, a2, a3, a4, hRC⟩, a6⟩, by rw [ht]; exact a5, va_K.moved hW.alike a7⟩, hS.F ht⟩) hS.2.2 dX5_init_167
  · exact absurd (by decide) hz
