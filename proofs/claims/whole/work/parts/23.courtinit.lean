/-! COURT'S CONSTRUCTOR: beside a world that has the texts. -/
def rs_C (k kt : Nat) (S : St) : St := (fun q => if q / 100 = k then 0 else S.1 q, fun q => if q / 100 = k then fun _ => 0 else S.2.1 q, S.2.2.1, S.2.2.2.1, fun q => if q / 100 = k then kt else S.2.2.2.2 q)
theorem hs_gM2 {w : WD} {g1 g2 : GG} {z ci : Nat} (h : hs w g2 z ci) : hs w (gM g1 g2) z ci := ⟨h.1, List.mem_append_right _ h.2.1, fun f hf => List.mem_append_right _ (h.2.2.1 f hf), fun f hf => List.mem_append_right _ (h.2.2.2.1 f hf), h.2.2.2.2⟩
theorem hs_gM1 {w : WD} {g1 g2 : GG} {z ci : Nat} (h : hs w g1 z ci) (hq : gg_qs g1 = []) : hs w (gM g1 g2) z ci := ⟨h.1, List.mem_append_left _ h.2.1, fun f hf => List.mem_append_left _ (h.2.2.1 f hf), fun f hf => List.mem_append_left _ (h.2.2.2.1 f hf), fun f hf => by have h1 := h.2.2.2.2 f hf; rw [hq] at h1; cases h1⟩
theorem fl_S {w : WD} {g : GG} {S S' : St} {k : Nat} (hw : (wk_k w (wk_c w k)).length < 100) (h : ∀ q, q / 100 = k → st_I S q = st_I S' q ∧ st_J S q = st_J S' q ∧ st_P S q = st_P S' q) : fl w g S k = fl w g S' k := by
  unfold fl
  refine List.map_congr_left (fun f hf => ?_)
  have hlt := List.mem_range.mp hf
  obtain ⟨h1, h2, h3⟩ := h (ky k f) (ky_div k (Nat.lt_trans hlt hw))
  unfold kv
  split <;> first | rfl | rw [h1] | rw [h2] | rw [h3]
theorem wl_S {g : GG} {S S' : St} (hb : kb g) (hw : ∀ c, (ks_C c).length < 100) (h : ∀ q, q / 100 ∈ gg_os g → st_I S q = st_I S' q ∧ st_J S q = st_J S' q ∧ st_P S q = st_P S' q ∧ st_A S q = st_A S' q ∧ st_L S q = st_L S' q) : wl wd_C g S = wl wd_C g S' := by
  have e1 : (gg_os g).map (e_o wd_C g S) = (gg_os g).map (e_o wd_C g S') := List.map_congr_left (fun k hk => by
    unfold e_o
    rw [fl_S (w := wd_C) (S' := S') (hw (cl_C k)) (fun q hq => ⟨(h q (by rw [hq]; exact hk)).1, (h q (by rw [hq]; exact hk)).2.1, (h q (by rw [hq]; exact hk)).2.2.1⟩)])
  have e2 : (gg_as g).map (e_a wd_C g S) = (gg_as g).map (e_a wd_C g S') := List.map_congr_left (fun q hq => by
    unfold e_a
    rw [(h q (hb.1 q hq)).2.2.2.1])
  have e3 : (gg_ls g).map (e_l wd_C g S) = (gg_ls g).map (e_l wd_C g S') := List.map_congr_left (fun q hq => by
    unfold e_l
    rw [(h q (hb.2 q hq)).2.2.2.2])
  unfold wl
  rw [e1, e2, e3]
theorem ks_len : ∀ c, (ks_C c).length < 100 := fun c => by
  match c with
  | 0 => decide
  | 1 => decide
  | 2 => decide
  | 3 => decide
  | 4 => decide
  | 5 => decide
  | n + 6 => exact (by decide : ([] : List Nat).length < 100)
def qc_A (A : Nat → Prop) (post : GG → St → Prop) : Array Value → State → Outcome → State → Prop := va_Qv (fun u : GG × St => post u.1 u.2 ∧ va_D A (wl wd_C u.1 u.2)) (fun u t => va_P (gg_D u.1) vwCl (wl wd_C u.1 u.2) t.heap ∧ va_K (gg_D u.1) vwCl (tl wd_C u.1) t) A
def pr_c (b : GG) (S : St) (h0 sz : Nat) (fs : List Value) (U : State) : Prop := U.heap.size = sz ∧ va_P (gg_D b) vwCl [(h0, .inr (0, fs))] U.heap ∧ va_P (gg_D b) vwCl (wl wd_C b S) U.heap ∧ va_K (gg_D b) vwCl (tl wd_C b) U ∧ cs_C b (fun q => nwA h0 sz q ∨ aw b q) U
theorem pc_blind {b : GG} {S : St} {h0 sz : Nat} {fs av : List Value} : FrameBlind (va_Pc av (pr_c b S h0 sz fs)) := by
  intro a U g mk h
  obtain ⟨h0, h1, hP, hB, hK, hs⟩ := h
  exact ⟨h0, h1, hP, hB, va_K.moved (u := U) (U := U.calling g mk a) (Vm.Alike.refl U.vm) hK, cs_same b _ U (U.calling g mk a) rfl rfl hs⟩
/-- a world with the texts, and courts, alone -/
def bas (b : GG) (S : St) : Prop := gd wd_C b ∧ allT b ∧ kb b ∧ gg_qs b = [] ∧ (∀ z ∈ gg_os b, z ∈ [2, 3, 4, 5, 10, 11, 12, 13, 14]) ∧ ∀ z ∈ gg_os b, 10 ≤ z → isT (st_P S (ky z 0))
def crp (b : GG) (k h0 : Nat) (g : GG) : Prop := gd wd_C g ∧ allT g ∧ kb g ∧ kn g b ∧ gg_qs g = [] ∧ gg_os g = k :: gg_os b ∧ hs wd_C g k 0 ∧ gg_o g k = h0 ∧ (∀ z ∈ gg_os b, gg_o g z = gg_o b z) ∧ ∀ z ci, hs wd_C b z ci → hs wd_C g z ci
theorem k2_0 : ∀ f : Nat, (ks_C 0)[f]? = some 2 → f ∈ [2, 3, 4, 5, 6, 7, 8] := fun f h => (by decide : ∀ f < 9, (ks_C 0)[f]? = some 2 → f ∈ [2, 3, 4, 5, 6, 7, 8]) f (List.getElem?_eq_some_iff.mp h).1 h
theorem k3_0 : ∀ f : Nat, ¬ (ks_C 0)[f]? = some 3 := fun f h => (by decide : ∀ f < 9, ¬ (ks_C 0)[f]? = some 3) f (List.getElem?_eq_some_iff.mp h).1 h
theorem k4_0 : ∀ f : Nat, ¬ (ks_C 0)[f]? = some 4 := fun f h => (by decide : ∀ f < 9, ¬ (ks_C 0)[f]? = some 4) f (List.getElem?_eq_some_iff.mp h).1 h
theorem dX0_init_0 : decode cX0_init 0 = .ok (.aload_n 0, 1) := by decide +kernel
theorem dX0_init_1 : decode cX0_init 1 = .ok (.invokespecial 3, 3) := by decide +kernel
theorem dX0_init_4 : decode cX0_init 4 = .ok (.aload_n 0, 1) := by decide +kernel
theorem dX0_init_5 : decode cX0_init 5 = .ok (.sipush 1800, 3) := by decide +kernel
theorem dX0_init_8 : decode cX0_init 8 = .ok (.newarray .int, 2) := by decide +kernel
theorem dX0_init_10 : decode cX0_init 10 = .ok (.putfield 9, 3) := by decide +kernel
theorem dX0_init_13 : decode cX0_init 13 = .ok (.aload_n 0, 1) := by decide +kernel
theorem dX0_init_14 : decode cX0_init 14 = .ok (.sipush 1800, 3) := by decide +kernel
theorem dX0_init_17 : decode cX0_init 17 = .ok (.newarray .int, 2) := by decide +kernel
theorem dX0_init_19 : decode cX0_init 19 = .ok (.putfield 15, 3) := by decide +kernel
theorem dX0_init_22 : decode cX0_init 22 = .ok (.aload_n 0, 1) := by decide +kernel
theorem dX0_init_23 : decode cX0_init 23 = .ok (.sipush 2400, 3) := by decide +kernel
theorem dX0_init_26 : decode cX0_init 26 = .ok (.newarray .int, 2) := by decide +kernel
theorem dX0_init_28 : decode cX0_init 28 = .ok (.putfield 18, 3) := by decide +kernel
theorem dX0_init_31 : decode cX0_init 31 = .ok (.aload_n 0, 1) := by decide +kernel
theorem dX0_init_32 : decode cX0_init 32 = .ok (.sipush 2400, 3) := by decide +kernel
theorem dX0_init_35 : decode cX0_init 35 = .ok (.newarray .int, 2) := by decide +kernel
theorem dX0_init_37 : decode cX0_init 37 = .ok (.putfield 21, 3) := by decide +kernel
theorem dX0_init_40 : decode cX0_init 40 = .ok (.aload_n 0, 1) := by decide +kernel
theorem dX0_init_41 : decode cX0_init 41 = .ok (.sipush 300, 3) := by decide +kernel
theorem dX0_init_44 : decode cX0_init 44 = .ok (.newarray .int, 2) := by decide +kernel
theorem dX0_init_46 : decode cX0_init 46 = .ok (.putfield 24, 3) := by decide +kernel
theorem dX0_init_49 : decode cX0_init 49 = .ok (.aload_n 0, 1) := by decide +kernel
theorem dX0_init_50 : decode cX0_init 50 = .ok (.bipush 8, 2) := by decide +kernel
theorem dX0_init_52 : decode cX0_init 52 = .ok (.newarray .int, 2) := by decide +kernel
theorem dX0_init_54 : decode cX0_init 54 = .ok (.putfield 27, 3) := by decide +kernel
theorem dX0_init_57 : decode cX0_init 57 = .ok (.aload_n 0, 1) := by decide +kernel
theorem dX0_init_58 : decode cX0_init 58 = .ok (.bipush 8, 2) := by decide +kernel
theorem dX0_init_60 : decode cX0_init 60 = .ok (.newarray .int, 2) := by decide +kernel
theorem dX0_init_62 : decode cX0_init 62 = .ok (.putfield 30, 3) := by decide +kernel
theorem dX0_init_65 : decode cX0_init 65 = .ok (.aload_n 0, 1) := by decide +kernel
theorem dX0_init_66 : decode cX0_init 66 = .ok (.aload_n 1, 1) := by decide +kernel
theorem dX0_init_67 : decode cX0_init 67 = .ok (.putfield 33, 3) := by decide +kernel
theorem dX0_init_70 : decode cX0_init 70 = .ok (.aload_n 0, 1) := by decide +kernel
theorem dX0_init_71 : decode cX0_init 71 = .ok (.aload_n 1, 1) := by decide +kernel
theorem dX0_init_72 : decode cX0_init 72 = .ok (.invokevirtual 37, 3) := by decide +kernel
theorem dX0_init_75 : decode cX0_init 75 = .ok (.return_, 1) := by decide +kernel
abbrev rm_X0_init : Room := { frames := 6, cells := 7, slots := 8716, locals := 300 }
set_option maxRecDepth 100000 in
set_option maxHeartbeats 8000000 in
theorem c_X0_init (l : Launch) (b : GG) (k kt h0 sz : Nat) (S S1 : St) (hb0 : bas b S) (hk : k ∈ [10, 11, 12, 13, 14]) (hkt : isT kt) (hnk : k ∉ gg_os b) (hno : ¬ aw b h0) (hf : f_X0_begin k kt (rs_C k kt S) = some S1) : Met l yX0_init (Cond.code yX0_init cX0_init 2 none :: gw_tbl) rm_X0_init (va_Pc [.ref h0, .ref (gg_o b kt)] (pr_c b S h0 sz [.null, .int 0, .null, .null, .null, .null, .null, .null, .null])) (qc_A (fun q => nwA h0 sz q ∨ aw b q) (fun g S2 => crp b k h0 g ∧ S2 = S1)) 7 8716 (fun q => nwA h0 sz q ∨ aw b q) := by
  refine Met.ofW (cc := cX0_init) (maxL := 2) (ret := none) (by decide) rfl ?_
  intro p e s m args below meth c s₁ B hml hv
  obtain ⟨rfl, hsz, hP, hB0, hKb, hcs⟩ := hv
  have hK := hKb.sub (tys' := []) [] rfl
  have hx := B.exec
  have hb := B.bytes
  have hr := B.returns
  have hts0 := atoms_spec (ws := Cond.code yX0_init cX0_init 2 none :: gw_tbl) B.pre
  have hts : ∀ z ∈ gw_tbl, z.before _ s = true := fun z hz => hts0 z (List.mem_cons_of_mem _ hz)
  have hown : s.vm.findClass RX0 = some m.cls := findClass_of_methodNamed B.named
  have hlocks := B.notSynchronized
  have hin : meth.name = "<init>" := (name_of_methodNamed B.named B.method).1
  subst hsz
  have hA : ∀ q : Nat, s.heap.size ≤ q → nwA h0 s.heap.size q := fun q h => Or.inr h
  have hD : va_D (nwA h0 s.heap.size) [(h0, .inr (0, [.null, .int 0, .null, .null, .null, .null, .null, .null, .null]))] := vD_iff.mpr ⟨by simp, fun x hx => by rw [List.mem_singleton.mp hx]; exact Or.inl rfl⟩
  have hS : va_S (nwA h0 s.heap.size) s.heap s.heap [] := va_S.rf
  have hl := lv_entry ([.ref h0, .ref (gg_o b kt)]) (n := 2) (Nat.le_of_ble_eq_true rfl)
  rw [lg_entry_eq]
  generalize (lg_sl ([.ref h0, .ref (gg_o b kt)]) ++ List.replicate (2 - (lg_sl ([.ref h0, .ref (gg_o b kt)])).length) Slot.unset).toArray = ls at hl ⊢
  have hl : lv_has ls 2 [(0, .ref h0), (1, .ref (gg_o b kt))] := hl
  refine lv_aload_n hx hb dX0_init_0 rfl (lv_at hl 0 rfl) ?_
  refine W.objInit hx hb hown (hts _ wd_279) (hts _ wd_22) (hts _ wd_23) rfl (by rw [hml]; exact hl.1) rfl dX0_init_1 (Nat.le_of_ble_eq_true rfl) (Nat.le_of_ble_eq_true rfl) ?_
  refine W.eq (g2 := F0 m 4 ls []) rfl ?_
  refine lv_aload_n hx hb dX0_init_4 rfl (lv_at hl 0 rfl) ?_
  refine lv_sipush (v := 1800) hx hb dX0_init_5 (by decide) ?_
  refine va_newa (atype := .int) hx hb (hts _ wd_148) (ty := .int) rfl hK hP hD hS hA (N' := 1800) (a0 := (1800, .inl (fun _ => 0))) (fun _ => rfl) (by decide) (by decide) (Nat.le_of_ble_eq_true rfl) (Nat.le_of_ble_eq_true rfl) (Nat.le_of_ble_eq_true rfl) dX0_init_8 (fun q1 c1 H hK hP hD hS => ?_)
  have hP : va_P (gg_D b) vwCl [(h0, .inr (0, [.null, .int 0, .null, .null, .null, .null, .null, .null, .null])), (q1, .inl (c1, 1800, .inl (fun _ => 0)))] H := hP
  have hD : va_D (nwA h0 s.heap.size) [(h0, .inr (0, [.null, .int 0, .null, .null, .null, .null, .null, .null, .null])), (q1, .inl (c1, 1800, .inl (fun _ => 0)))] := hD
  have hK : va_K (gg_D b) vwCl [(c1, FieldType.int)] s := hK
  refine va_putF (D := gg_D b) (ci := 0) (v := .ref q1) (ty := (.array .int)) (C := RX0) (T := TX0) (N := 9) hx hb hts in_X0 tyX0 tyX0_ok nmX0 hown hK hP hD hS 0 rfl rfl 2 (by decide) (hts _ wd_350) (fun _ h9 => h9) rfl hin rfl (by decide +kernel) rfl rfl (Nat.le_of_ble_eq_true rfl) dX0_init_10 (fun H locs hP hD hS => ?_)
  have hP : va_P (gg_D b) vwCl [(h0, .inr (0, [.null, .int 0, .ref q1, .null, .null, .null, .null, .null, .null])), (q1, .inl (c1, 1800, .inl (fun _ => 0)))] H := hP
  have hD : va_D (nwA h0 s.heap.size) [(h0, .inr (0, [.null, .int 0, .ref q1, .null, .null, .null, .null, .null, .null])), (q1, .inl (c1, 1800, .inl (fun _ => 0)))] := hD
  refine lv_aload_n hx hb dX0_init_13 rfl (lv_at hl 0 rfl) ?_
  refine lv_sipush (v := 1800) hx hb dX0_init_14 (by decide) ?_
  refine va_newa (atype := .int) hx hb (hts _ wd_148) (ty := .int) rfl hK hP hD hS hA (N' := 1800) (a0 := (1800, .inl (fun _ => 0))) (fun _ => rfl) (by decide) (by decide) (Nat.le_of_ble_eq_true rfl) (Nat.le_of_ble_eq_true rfl) (Nat.le_of_ble_eq_true rfl) dX0_init_17 (fun q2 c2 H hK hP hD hS => ?_)
  have hP : va_P (gg_D b) vwCl [(h0, .inr (0, [.null, .int 0, .ref q1, .null, .null, .null, .null, .null, .null])), (q1, .inl (c1, 1800, .inl (fun _ => 0))), (q2, .inl (c2, 1800, .inl (fun _ => 0)))] H := hP
  have hD : va_D (nwA h0 s.heap.size) [(h0, .inr (0, [.null, .int 0, .ref q1, .null, .null, .null, .null, .null, .null])), (q1, .inl (c1, 1800, .inl (fun _ => 0))), (q2, .inl (c2, 1800, .inl (fun _ => 0)))] := hD
  have hK : va_K (gg_D b) vwCl [(c1, FieldType.int), (c2, FieldType.int)] s := hK
  refine va_putF (D := gg_D b) (ci := 0) (v := .ref q2) (ty := (.array .int)) (C := RX0) (T := TX0) (N := 9) hx hb hts in_X0 tyX0 tyX0_ok nmX0 hown hK hP hD hS 0 rfl rfl 3 (by decide) (hts _ wd_351) (fun _ h9 => h9) rfl hin rfl (by decide +kernel) rfl rfl (Nat.le_of_ble_eq_true rfl) dX0_init_19 (fun H locs hP hD hS => ?_)
  have hP : va_P (gg_D b) vwCl [(h0, .inr (0, [.null, .int 0, .ref q1, .ref q2, .null, .null, .null, .null, .null])), (q1, .inl (c1, 1800, .inl (fun _ => 0))), (q2, .inl (c2, 1800, .inl (fun _ => 0)))] H := hP
  have hD : va_D (nwA h0 s.heap.size) [(h0, .inr (0, [.null, .int 0, .ref q1, .ref q2, .null, .null, .null, .null, .null])), (q1, .inl (c1, 1800, .inl (fun _ => 0))), (q2, .inl (c2, 1800, .inl (fun _ => 0)))] := hD
  refine lv_aload_n hx hb dX0_init_22 rfl (lv_at hl 0 rfl) ?_
  refine lv_sipush (v := 2400) hx hb dX0_init_23 (by decide) ?_
  refine va_newa (atype := .int) hx hb (hts _ wd_148) (ty := .int) rfl hK hP hD hS hA (N' := 2400) (a0 := (2400, .inl (fun _ => 0))) (fun _ => rfl) (by decide) (by decide) (Nat.le_of_ble_eq_true rfl) (Nat.le_of_ble_eq_true rfl) (Nat.le_of_ble_eq_true rfl) dX0_init_26 (fun q3 c3 H hK hP hD hS => ?_)
  have hP : va_P (gg_D b) vwCl [(h0, .inr (0, [.null, .int 0, .ref q1, .ref q2, .null, .null, .null, .null, .null])), (q1, .inl (c1, 1800, .inl (fun _ => 0))), (q2, .inl (c2, 1800, .inl (fun _ => 0))), (q3, .inl (c3, 2400, .inl (fun _ => 0)))] H := hP
  have hD : va_D (nwA h0 s.heap.size) [(h0, .inr (0, [.null, .int 0, .ref q1, .ref q2, .null, .null, .null, .null, .null])), (q1, .inl (c1, 1800, .inl (fun _ => 0))), (q2, .inl (c2, 1800, .inl (fun _ => 0))), (q3, .inl (c3, 2400, .inl (fun _ => 0)))] := hD
  have hK : va_K (gg_D b) vwCl [(c1, FieldType.int), (c2, FieldType.int), (c3, FieldType.int)] s := hK
  refine va_putF (D := gg_D b) (ci := 0) (v := .ref q3) (ty := (.array .int)) (C := RX0) (T := TX0) (N := 9) hx hb hts in_X0 tyX0 tyX0_ok nmX0 hown hK hP hD hS 0 rfl rfl 4 (by decide) (hts _ wd_352) (fun _ h9 => h9) rfl hin rfl (by decide +kernel) rfl rfl (Nat.le_of_ble_eq_true rfl) dX0_init_28 (fun H locs hP hD hS => ?_)
  have hP : va_P (gg_D b) vwCl [(h0, .inr (0, [.null, .int 0, .ref q1, .ref q2, .ref q3, .null, .null, .null, .null])), (q1, .inl (c1, 1800, .inl (fun _ => 0))), (q2, .inl (c2, 1800, .inl (fun _ => 0))), (q3, .inl (c3, 2400, .inl (fun _ => 0)))] H := hP
  have hD : va_D (nwA h0 s.heap.size) [(h0, .inr (0, [.null, .int 0, .ref q1, .ref q2, .ref q3, .null, .null, .null, .null])), (q1, .inl (c1, 1800, .inl (fun _ => 0))), (q2, .inl (c2, 1800, .inl (fun _ => 0))), (q3, .inl (c3, 2400, .inl (fun _ => 0)))] := hD
  refine lv_aload_n hx hb dX0_init_31 rfl (lv_at hl 0 rfl) ?_
  refine lv_sipush (v := 2400) hx hb dX0_init_32 (by decide) ?_
  refine va_newa (atype := .int) hx hb (hts _ wd_148) (ty := .int) rfl hK hP hD hS hA (N' := 2400) (a0 := (2400, .inl (fun _ => 0))) (fun _ => rfl) (by decide) (by decide) (Nat.le_of_ble_eq_true rfl) (Nat.le_of_ble_eq_true rfl) (Nat.le_of_ble_eq_true rfl) dX0_init_35 (fun q4 c4 H hK hP hD hS => ?_)
  have hP : va_P (gg_D b) vwCl [(h0, .inr (0, [.null, .int 0, .ref q1, .ref q2, .ref q3, .null, .null, .null, .null])), (q1, .inl (c1, 1800, .inl (fun _ => 0))), (q2, .inl (c2, 1800, .inl (fun _ => 0))), (q3, .inl (c3, 2400, .inl (fun _ => 0))), (q4, .inl (c4, 2400, .inl (fun _ => 0)))] H := hP
  have hD : va_D (nwA h0 s.heap.size) [(h0, .inr (0, [.null, .int 0, .ref q1, .ref q2, .ref q3, .null, .null, .null, .null])), (q1, .inl (c1, 1800, .inl (fun _ => 0))), (q2, .inl (c2, 1800, .inl (fun _ => 0))), (q3, .inl (c3, 2400, .inl (fun _ => 0))), (q4, .inl (c4, 2400, .inl (fun _ => 0)))] := hD
  have hK : va_K (gg_D b) vwCl [(c1, FieldType.int), (c2, FieldType.int), (c3, FieldType.int), (c4, FieldType.int)] s := hK
  refine va_putF (D := gg_D b) (ci := 0) (v := .ref q4) (ty := (.array .int)) (C := RX0) (T := TX0) (N := 9) hx hb hts in_X0 tyX0 tyX0_ok nmX0 hown hK hP hD hS 0 rfl rfl 5 (by decide) (hts _ wd_353) (fun _ h9 => h9) rfl hin rfl (by decide +kernel) rfl rfl (Nat.le_of_ble_eq_true rfl) dX0_init_37 (fun H locs hP hD hS => ?_)
  have hP : va_P (gg_D b) vwCl [(h0, .inr (0, [.null, .int 0, .ref q1, .ref q2, .ref q3, .ref q4, .null, .null, .null])), (q1, .inl (c1, 1800, .inl (fun _ => 0))), (q2, .inl (c2, 1800, .inl (fun _ => 0))), (q3, .inl (c3, 2400, .inl (fun _ => 0))), (q4, .inl (c4, 2400, .inl (fun _ => 0)))] H := hP
  have hD : va_D (nwA h0 s.heap.size) [(h0, .inr (0, [.null, .int 0, .ref q1, .ref q2, .ref q3, .ref q4, .null, .null, .null])), (q1, .inl (c1, 1800, .inl (fun _ => 0))), (q2, .inl (c2, 1800, .inl (fun _ => 0))), (q3, .inl (c3, 2400, .inl (fun _ => 0))), (q4, .inl (c4, 2400, .inl (fun _ => 0)))] := hD
  refine lv_aload_n hx hb dX0_init_40 rfl (lv_at hl 0 rfl) ?_
  refine lv_sipush (v := 300) hx hb dX0_init_41 (by decide) ?_
  refine va_newa (atype := .int) hx hb (hts _ wd_148) (ty := .int) rfl hK hP hD hS hA (N' := 300) (a0 := (300, .inl (fun _ => 0))) (fun _ => rfl) (by decide) (by decide) (Nat.le_of_ble_eq_true rfl) (Nat.le_of_ble_eq_true rfl) (Nat.le_of_ble_eq_true rfl) dX0_init_44 (fun q5 c5 H hK hP hD hS => ?_)
  have hP : va_P (gg_D b) vwCl [(h0, .inr (0, [.null, .int 0, .ref q1, .ref q2, .ref q3, .ref q4, .null, .null, .null])), (q1, .inl (c1, 1800, .inl (fun _ => 0))), (q2, .inl (c2, 1800, .inl (fun _ => 0))), (q3, .inl (c3, 2400, .inl (fun _ => 0))), (q4, .inl (c4, 2400, .inl (fun _ => 0))), (q5, .inl (c5, 300, .inl (fun _ => 0)))] H := hP
  have hD : va_D (nwA h0 s.heap.size) [(h0, .inr (0, [.null, .int 0, .ref q1, .ref q2, .ref q3, .ref q4, .null, .null, .null])), (q1, .inl (c1, 1800, .inl (fun _ => 0))), (q2, .inl (c2, 1800, .inl (fun _ => 0))), (q3, .inl (c3, 2400, .inl (fun _ => 0))), (q4, .inl (c4, 2400, .inl (fun _ => 0))), (q5, .inl (c5, 300, .inl (fun _ => 0)))] := hD
  have hK : va_K (gg_D b) vwCl [(c1, FieldType.int), (c2, FieldType.int), (c3, FieldType.int), (c4, FieldType.int), (c5, FieldType.int)] s := hK
  refine va_putF (D := gg_D b) (ci := 0) (v := .ref q5) (ty := (.array .int)) (C := RX0) (T := TX0) (N := 9) hx hb hts in_X0 tyX0 tyX0_ok nmX0 hown hK hP hD hS 0 rfl rfl 6 (by decide) (hts _ wd_354) (fun _ h9 => h9) rfl hin rfl (by decide +kernel) rfl rfl (Nat.le_of_ble_eq_true rfl) dX0_init_46 (fun H locs hP hD hS => ?_)
  have hP : va_P (gg_D b) vwCl [(h0, .inr (0, [.null, .int 0, .ref q1, .ref q2, .ref q3, .ref q4, .ref q5, .null, .null])), (q1, .inl (c1, 1800, .inl (fun _ => 0))), (q2, .inl (c2, 1800, .inl (fun _ => 0))), (q3, .inl (c3, 2400, .inl (fun _ => 0))), (q4, .inl (c4, 2400, .inl (fun _ => 0))), (q5, .inl (c5, 300, .inl (fun _ => 0)))] H := hP
  have hD : va_D (nwA h0 s.heap.size) [(h0, .inr (0, [.null, .int 0, .ref q1, .ref q2, .ref q3, .ref q4, .ref q5, .null, .null])), (q1, .inl (c1, 1800, .inl (fun _ => 0))), (q2, .inl (c2, 1800, .inl (fun _ => 0))), (q3, .inl (c3, 2400, .inl (fun _ => 0))), (q4, .inl (c4, 2400, .inl (fun _ => 0))), (q5, .inl (c5, 300, .inl (fun _ => 0)))] := hD
  refine lv_aload_n hx hb dX0_init_49 rfl (lv_at hl 0 rfl) ?_
  refine lv_bipush (v := 8) hx hb dX0_init_50 (by decide) ?_
  refine va_newa (atype := .int) hx hb (hts _ wd_148) (ty := .int) rfl hK hP hD hS hA (N' := 8) (a0 := (8, .inl (fun _ => 0))) (fun _ => rfl) (by decide) (by decide) (Nat.le_of_ble_eq_true rfl) (Nat.le_of_ble_eq_true rfl) (Nat.le_of_ble_eq_true rfl) dX0_init_52 (fun q6 c6 H hK hP hD hS => ?_)
  have hP : va_P (gg_D b) vwCl [(h0, .inr (0, [.null, .int 0, .ref q1, .ref q2, .ref q3, .ref q4, .ref q5, .null, .null])), (q1, .inl (c1, 1800, .inl (fun _ => 0))), (q2, .inl (c2, 1800, .inl (fun _ => 0))), (q3, .inl (c3, 2400, .inl (fun _ => 0))), (q4, .inl (c4, 2400, .inl (fun _ => 0))), (q5, .inl (c5, 300, .inl (fun _ => 0))), (q6, .inl (c6, 8, .inl (fun _ => 0)))] H := hP
  have hD : va_D (nwA h0 s.heap.size) [(h0, .inr (0, [.null, .int 0, .ref q1, .ref q2, .ref q3, .ref q4, .ref q5, .null, .null])), (q1, .inl (c1, 1800, .inl (fun _ => 0))), (q2, .inl (c2, 1800, .inl (fun _ => 0))), (q3, .inl (c3, 2400, .inl (fun _ => 0))), (q4, .inl (c4, 2400, .inl (fun _ => 0))), (q5, .inl (c5, 300, .inl (fun _ => 0))), (q6, .inl (c6, 8, .inl (fun _ => 0)))] := hD
  have hK : va_K (gg_D b) vwCl [(c1, FieldType.int), (c2, FieldType.int), (c3, FieldType.int), (c4, FieldType.int), (c5, FieldType.int), (c6, FieldType.int)] s := hK
  refine va_putF (D := gg_D b) (ci := 0) (v := .ref q6) (ty := (.array .int)) (C := RX0) (T := TX0) (N := 9) hx hb hts in_X0 tyX0 tyX0_ok nmX0 hown hK hP hD hS 0 rfl rfl 7 (by decide) (hts _ wd_355) (fun _ h9 => h9) rfl hin rfl (by decide +kernel) rfl rfl (Nat.le_of_ble_eq_true rfl) dX0_init_54 (fun H locs hP hD hS => ?_)
  have hP : va_P (gg_D b) vwCl [(h0, .inr (0, [.null, .int 0, .ref q1, .ref q2, .ref q3, .ref q4, .ref q5, .ref q6, .null])), (q1, .inl (c1, 1800, .inl (fun _ => 0))), (q2, .inl (c2, 1800, .inl (fun _ => 0))), (q3, .inl (c3, 2400, .inl (fun _ => 0))), (q4, .inl (c4, 2400, .inl (fun _ => 0))), (q5, .inl (c5, 300, .inl (fun _ => 0))), (q6, .inl (c6, 8, .inl (fun _ => 0)))] H := hP
  have hD : va_D (nwA h0 s.heap.size) [(h0, .inr (0, [.null, .int 0, .ref q1, .ref q2, .ref q3, .ref q4, .ref q5, .ref q6, .null])), (q1, .inl (c1, 1800, .inl (fun _ => 0))), (q2, .inl (c2, 1800, .inl (fun _ => 0))), (q3, .inl (c3, 2400, .inl (fun _ => 0))), (q4, .inl (c4, 2400, .inl (fun _ => 0))), (q5, .inl (c5, 300, .inl (fun _ => 0))), (q6, .inl (c6, 8, .inl (fun _ => 0)))] := hD
  refine lv_aload_n hx hb dX0_init_57 rfl (lv_at hl 0 rfl) ?_
  refine lv_bipush (v := 8) hx hb dX0_init_58 (by decide) ?_
  refine va_newa (atype := .int) hx hb (hts _ wd_148) (ty := .int) rfl hK hP hD hS hA (N' := 8) (a0 := (8, .inl (fun _ => 0))) (fun _ => rfl) (by decide) (by decide) (Nat.le_of_ble_eq_true rfl) (Nat.le_of_ble_eq_true rfl) (Nat.le_of_ble_eq_true rfl) dX0_init_60 (fun q7 c7 H hK hP hD hS => ?_)
  have hP : va_P (gg_D b) vwCl [(h0, .inr (0, [.null, .int 0, .ref q1, .ref q2, .ref q3, .ref q4, .ref q5, .ref q6, .null])), (q1, .inl (c1, 1800, .inl (fun _ => 0))), (q2, .inl (c2, 1800, .inl (fun _ => 0))), (q3, .inl (c3, 2400, .inl (fun _ => 0))), (q4, .inl (c4, 2400, .inl (fun _ => 0))), (q5, .inl (c5, 300, .inl (fun _ => 0))), (q6, .inl (c6, 8, .inl (fun _ => 0))), (q7, .inl (c7, 8, .inl (fun _ => 0)))] H := hP
  have hD : va_D (nwA h0 s.heap.size) [(h0, .inr (0, [.null, .int 0, .ref q1, .ref q2, .ref q3, .ref q4, .ref q5, .ref q6, .null])), (q1, .inl (c1, 1800, .inl (fun _ => 0))), (q2, .inl (c2, 1800, .inl (fun _ => 0))), (q3, .inl (c3, 2400, .inl (fun _ => 0))), (q4, .inl (c4, 2400, .inl (fun _ => 0))), (q5, .inl (c5, 300, .inl (fun _ => 0))), (q6, .inl (c6, 8, .inl (fun _ => 0))), (q7, .inl (c7, 8, .inl (fun _ => 0)))] := hD
  have hK : va_K (gg_D b) vwCl [(c1, FieldType.int), (c2, FieldType.int), (c3, FieldType.int), (c4, FieldType.int), (c5, FieldType.int), (c6, FieldType.int), (c7, FieldType.int)] s := hK
  refine va_putF (D := gg_D b) (ci := 0) (v := .ref q7) (ty := (.array .int)) (C := RX0) (T := TX0) (N := 9) hx hb hts in_X0 tyX0 tyX0_ok nmX0 hown hK hP hD hS 0 rfl rfl 8 (by decide) (hts _ wd_356) (fun _ h9 => h9) rfl hin rfl (by decide +kernel) rfl rfl (Nat.le_of_ble_eq_true rfl) dX0_init_62 (fun H locs hP hD hS => ?_)
  have hP : va_P (gg_D b) vwCl [(h0, .inr (0, [.null, .int 0, .ref q1, .ref q2, .ref q3, .ref q4, .ref q5, .ref q6, .ref q7])), (q1, .inl (c1, 1800, .inl (fun _ => 0))), (q2, .inl (c2, 1800, .inl (fun _ => 0))), (q3, .inl (c3, 2400, .inl (fun _ => 0))), (q4, .inl (c4, 2400, .inl (fun _ => 0))), (q5, .inl (c5, 300, .inl (fun _ => 0))), (q6, .inl (c6, 8, .inl (fun _ => 0))), (q7, .inl (c7, 8, .inl (fun _ => 0)))] H := hP
  have hD : va_D (nwA h0 s.heap.size) [(h0, .inr (0, [.null, .int 0, .ref q1, .ref q2, .ref q3, .ref q4, .ref q5, .ref q6, .ref q7])), (q1, .inl (c1, 1800, .inl (fun _ => 0))), (q2, .inl (c2, 1800, .inl (fun _ => 0))), (q3, .inl (c3, 2400, .inl (fun _ => 0))), (q4, .inl (c4, 2400, .inl (fun _ => 0))), (q5, .inl (c5, 300, .inl (fun _ => 0))), (q6, .inl (c6, 8, .inl (fun _ => 0))), (q7, .inl (c7, 8, .inl (fun _ => 0)))] := hD
  refine lv_aload_n hx hb dX0_init_65 rfl (lv_at hl 0 rfl) ?_
  refine lv_aload_n hx hb dX0_init_66 rfl (lv_at hl 1 rfl) ?_
  refine va_put (D := gg_D b) (ci := 0) (v := .ref (gg_o b kt)) (ty := (.object "LateMirrors$Text")) (C := RX0) (T := TX0) (N := 9) hx hb hts in_X0 tyX0 tyX0_ok nmX0 hown hK hP hD hS 0 rfl rfl 0 (by decide) (hts _ wd_347) (fun _ h9 => h9) rfl (by decide +kernel) rfl rfl (Nat.le_of_ble_eq_true rfl) dX0_init_67 (fun H locs hP hD hS => ?_)
  have hP : va_P (gg_D b) vwCl [(h0, .inr (0, [.ref (gg_o b kt), .int 0, .ref q1, .ref q2, .ref q3, .ref q4, .ref q5, .ref q6, .ref q7])), (q1, .inl (c1, 1800, .inl (fun _ => 0))), (q2, .inl (c2, 1800, .inl (fun _ => 0))), (q3, .inl (c3, 2400, .inl (fun _ => 0))), (q4, .inl (c4, 2400, .inl (fun _ => 0))), (q5, .inl (c5, 300, .inl (fun _ => 0))), (q6, .inl (c6, 8, .inl (fun _ => 0))), (q7, .inl (c7, 8, .inl (fun _ => 0)))] H := hP
  have hD : va_D (nwA h0 s.heap.size) [(h0, .inr (0, [.ref (gg_o b kt), .int 0, .ref q1, .ref q2, .ref q3, .ref q4, .ref q5, .ref q6, .ref q7])), (q1, .inl (c1, 1800, .inl (fun _ => 0))), (q2, .inl (c2, 1800, .inl (fun _ => 0))), (q3, .inl (c3, 2400, .inl (fun _ => 0))), (q4, .inl (c4, 2400, .inl (fun _ => 0))), (q5, .inl (c5, 300, .inl (fun _ => 0))), (q6, .inl (c6, 8, .inl (fun _ => 0))), (q7, .inl (c7, 8, .inl (fun _ => 0)))] := hD
  obtain ⟨hgb, hAb, hkb, hqb, hob, hpb⟩ := hb0
  have hBl : ∀ x ∈ wl wd_C b S, x.1 < s.heap.size ∧ ¬ nwA h0 s.heap.size x.1 := fun x hx => by
    have h1 := (vP_iff.mp hB0 x hx).lt
    refine ⟨h1, fun h => ?_⟩
    rcases h with h | h
    · exact hno (by rw [← h]; exact aw_in hx)
    · omega
  have hB : va_P (gg_D b) vwCl (wl wd_C b S) H := vP_iff.mpr (fun x hx => (vP_iff.mp hB0 x hx).kept (hS.2.1 x.1 (hBl x hx).1 (hBl x hx).2))
  have hk15 : 10 ≤ k ∧ k < 15 := by
    simp only [List.mem_cons, List.not_mem_nil, or_false] at hk
    omega
  have hSe : wl wd_C b S = wl wd_C b (rs_C k kt S) := wl_S hkb ks_len (fun q hq => by
    have hne : ¬ q / 100 = k := fun h => hnk (by rw [← h]; exact hq)
    simp [rs_C, st_I, st_J, st_P, st_A, st_L, hne])
  have kb1 : kb (gO b k h0 [0, 0, q1, q2, q3, q4, q5, q6, q7] [0, 0, c1, c2, c3, c4, c5, c6, c7] [0, 0, 0, 0, 0, 0, 0, 0, 0] [0, 0, 0, 0, 0, 0, 0, 0, 0] [2, 3, 4, 5, 6, 7, 8] []) := ⟨fun q hq => by obtain ⟨f, hf, rfl⟩ := List.mem_map.mp hq; rw [ky_div k ((by decide : ∀ f ∈ ([2, 3, 4, 5, 6, 7, 8] : List Nat), f < 100) f hf)]; exact List.mem_singleton.mpr rfl, fun q hq => by cases hq⟩
  have hdj : ∀ z ∈ gg_os b, z ∉ gg_os (gO b k h0 [0, 0, q1, q2, q3, q4, q5, q6, q7] [0, 0, c1, c2, c3, c4, c5, c6, c7] [0, 0, 0, 0, 0, 0, 0, 0, 0] [0, 0, 0, 0, 0, 0, 0, 0, 0] [2, 3, 4, 5, 6, 7, 8] []) := fun z hz h => hnk (by rw [← List.mem_singleton.mp h]; exact hz)
  generalize hgt : gM (gO b k h0 [0, 0, q1, q2, q3, q4, q5, q6, q7] [0, 0, c1, c2, c3, c4, c5, c6, c7] [0, 0, 0, 0, 0, 0, 0, 0, 0] [0, 0, 0, 0, 0, 0, 0, 0, 0] [2, 3, 4, 5, 6, 7, 8] []) b = gt
  have hnT : ∀ p, isT p → ¬ p = k := fun p hp h => by
    have h1 : p = 2 ∨ p = 3 := hp
    omega
  have hgo2 : ∀ z, ¬ z = k → gg_o gt z = gg_o b z := fun z hz => by
    rw [← hgt]
    show (if z ∈ [k] then _ else gg_o b z) = _
    rw [if_neg (fun h => hz (List.mem_singleton.mp h))]
  have hga2 : ∀ z f, ¬ z = k → f < 100 → gg_a gt (ky z f) = gg_a b (ky z f) ∧ gg_l gt (ky z f) = gg_l b (ky z f) := fun z f hz hf => by
    rw [← hgt]
    have h1 : ¬ ky z f / 100 ∈ [k] := fun h => hz (by rw [ky_div z hf] at h; exact List.mem_singleton.mp h)
    refine ⟨?_, ?_⟩
    · show (if ky z f / 100 ∈ [k] then _ else gg_a b (ky z f)) = _
      rw [if_neg h1]
    · show (if ky z f / 100 ∈ [k] then _ else gg_l b (ky z f)) = _
      rw [if_neg h1]
  have hfl2 : ∀ z ∈ gg_os b, fl wd_C gt (rs_C k kt S) z = fl wd_C b (rs_C k kt S) z := fun z hz => by
    have hne : ¬ z = k := fun h => hnk (by rw [← h]; exact hz)
    have hz0 := hob z hz
    unfold fl
    refine List.map_congr_left (fun f hf => ?_)
    have hf1 := List.mem_range.mp hf
    have hf2 : f < 100 := Nat.lt_trans hf1 (ks_len _)
    obtain ⟨a1, a2⟩ := hga2 z f hne hf2
    have hcl : ((ks_C (cl_C z)).getD f 0 = 0 ∨ (ks_C (cl_C z)).getD f 0 = 1 ∨ (ks_C (cl_C z)).getD f 0 = 2 ∨ (ks_C (cl_C z)).getD f 0 = 3) ∨ ((ks_C (cl_C z)).getD f 0 = 202 ∧ z < 4) ∨ ((ks_C (cl_C z)).getD f 0 = 5 ∧ 10 ≤ z ∧ f = 0) := by
      have all : ∀ z ∈ ([2, 3, 4, 5, 10, 11, 12, 13, 14] : List Nat), ∀ f < 19, f < (ks_C (cl_C z)).length → ((ks_C (cl_C z)).getD f 0 = 0 ∨ (ks_C (cl_C z)).getD f 0 = 1 ∨ (ks_C (cl_C z)).getD f 0 = 2 ∨ (ks_C (cl_C z)).getD f 0 = 3) ∨ ((ks_C (cl_C z)).getD f 0 = 202 ∧ z < 4) ∨ ((ks_C (cl_C z)).getD f 0 = 5 ∧ 10 ≤ z ∧ f = 0) := by decide +kernel
      have len : ∀ z ∈ ([2, 3, 4, 5, 10, 11, 12, 13, 14] : List Nat), (ks_C (cl_C z)).length ≤ 19 := by decide +kernel
      exact all z hz0 f (Nat.lt_of_lt_of_le hf1 (len z hz0)) hf1
    show kv gt _ z f ((ks_C (cl_C z)).getD f 0) = kv b _ z f ((ks_C (cl_C z)).getD f 0)
    rcases hcl with (h | h | h | h) | ⟨h, h4⟩ | ⟨h, h4, h5⟩
    · rw [h]; rfl
    · rw [h]; rfl
    · rw [h]
      show Value.ref (gg_a gt (ky z f)) = Value.ref (gg_a b (ky z f))
      rw [a1]
    · rw [h]
      show Value.ref (gg_l gt (ky z f)) = Value.ref (gg_l b (ky z f))
      rw [a2]
    · rw [h]
      show Value.ref (gg_o gt (z + 2)) = Value.ref (gg_o b (z + 2))
      rw [hgo2 _ (by omega)]
    · rw [h]
      have hp : isT (st_P (rs_C k kt S) (ky z f)) := by
        have e : st_P (rs_C k kt S) (ky z f) = st_P S (ky z f) := by
          show (if ky z f / 100 = k then kt else st_P S (ky z f)) = _
          rw [if_neg (by rw [ky_div z hf2]; exact hne)]
        rw [e, h5]
        exact hpb z hz h4
      show Value.ref (gg_o gt (st_P (rs_C k kt S) (ky z f))) = Value.ref (gg_o b (st_P (rs_C k kt S) (ky z f)))
      rw [hgo2 _ (hnT _ hp)]
  have hk0 : cl_C k = 0 := (by decide : ∀ k ∈ ([10, 11, 12, 13, 14] : List Nat), cl_C k = 0) k hk
  have hgk : gg_o gt k = h0 := by
    rw [← hgt]
    show (if k ∈ [k] then h0 else _) = h0
    rw [if_pos (List.mem_singleton.mpr rfl)]
  have hakt : gg_o gt kt = gg_o b kt := hgo2 kt (hnT kt hkt)
  have hga1 : ∀ f, f < 100 → gg_a gt (ky k f) = ([0, 0, q1, q2, q3, q4, q5, q6, q7] : List Nat).getD f 0 := fun f hf => by
    rw [← hgt]
    show (if ky k f / 100 ∈ [k] then ([0, 0, q1, q2, q3, q4, q5, q6, q7] : List Nat).getD (ky k f % 100) 0 else _) = _
    rw [if_pos (by rw [ky_div k hf]; exact List.mem_singleton.mpr rfl), ky_mod k hf]
  have hfl1 : fl wd_C gt (rs_C k kt S) k = [.ref (gg_o b kt), .int 0, .ref q1, .ref q2, .ref q3, .ref q4, .ref q5, .ref q6, .ref q7] := by
    show (List.range (ks_C (cl_C k)).length).map (fun f => kv gt (rs_C k kt S) k f ((ks_C (cl_C k)).getD f 0)) = _
    rw [hk0]
    have e0 : st_P (rs_C k kt S) (ky k 0) = kt := by
      show (if ky k 0 / 100 = k then kt else _) = kt
      rw [if_pos (ky_div k (by decide))]
    have e1 : st_I (rs_C k kt S) (ky k 1) = 0 := by
      show (if ky k 1 / 100 = k then (0 : Int32) else _) = 0
      rw [if_pos (ky_div k (by decide))]
    simp [ks_C, List.range_succ, kv, e0, e1, hakt, hga1]
  have hw0 : (gg_os (gO b k h0 [0, 0, q1, q2, q3, q4, q5, q6, q7] [0, 0, c1, c2, c3, c4, c5, c6, c7] [0, 0, 0, 0, 0, 0, 0, 0, 0] [0, 0, 0, 0, 0, 0, 0, 0, 0] [2, 3, 4, 5, 6, 7, 8] [])).map (fun z => (gg_o (gO b k h0 [0, 0, q1, q2, q3, q4, q5, q6, q7] [0, 0, c1, c2, c3, c4, c5, c6, c7] [0, 0, 0, 0, 0, 0, 0, 0, 0] [0, 0, 0, 0, 0, 0, 0, 0, 0] [2, 3, 4, 5, 6, 7, 8] []) z, Sum.inr (wk_c wd_C z, fl wd_C gt (rs_C k kt S) z))) ++ ((gg_as (gO b k h0 [0, 0, q1, q2, q3, q4, q5, q6, q7] [0, 0, c1, c2, c3, c4, c5, c6, c7] [0, 0, 0, 0, 0, 0, 0, 0, 0] [0, 0, 0, 0, 0, 0, 0, 0, 0] [2, 3, 4, 5, 6, 7, 8] [])).map (e_a wd_C (gO b k h0 [0, 0, q1, q2, q3, q4, q5, q6, q7] [0, 0, c1, c2, c3, c4, c5, c6, c7] [0, 0, 0, 0, 0, 0, 0, 0, 0] [0, 0, 0, 0, 0, 0, 0, 0, 0] [2, 3, 4, 5, 6, 7, 8] []) (rs_C k kt S)) ++ (gg_ls (gO b k h0 [0, 0, q1, q2, q3, q4, q5, q6, q7] [0, 0, c1, c2, c3, c4, c5, c6, c7] [0, 0, 0, 0, 0, 0, 0, 0, 0] [0, 0, 0, 0, 0, 0, 0, 0, 0] [2, 3, 4, 5, 6, 7, 8] [])).map (e_l wd_C (gO b k h0 [0, 0, q1, q2, q3, q4, q5, q6, q7] [0, 0, c1, c2, c3, c4, c5, c6, c7] [0, 0, 0, 0, 0, 0, 0, 0, 0] [0, 0, 0, 0, 0, 0, 0, 0, 0] [2, 3, 4, 5, 6, 7, 8] []) (rs_C k kt S))) = [(h0, .inr (0, [.ref (gg_o b kt), .int 0, .ref q1, .ref q2, .ref q3, .ref q4, .ref q5, .ref q6, .ref q7])), (q1, .inl (c1, 1800, .inl (fun _ => 0))), (q2, .inl (c2, 1800, .inl (fun _ => 0))), (q3, .inl (c3, 2400, .inl (fun _ => 0))), (q4, .inl (c4, 2400, .inl (fun _ => 0))), (q5, .inl (c5, 300, .inl (fun _ => 0))), (q6, .inl (c6, 8, .inl (fun _ => 0))), (q7, .inl (c7, 8, .inl (fun _ => 0)))] := by
    have hwl := gO_wl (b := b) (k := k) (h0 := h0) (qa := [0, 0, q1, q2, q3, q4, q5, q6, q7]) (ca := [0, 0, c1, c2, c3, c4, c5, c6, c7]) (ql := [0, 0, 0, 0, 0, 0, 0, 0, 0]) (cl := [0, 0, 0, 0, 0, 0, 0, 0, 0]) (af := [2, 3, 4, 5, 6, 7, 8]) (lf := []) (S := rs_C k kt S) hk0 (by decide) (by decide)
    have hwl2 := (List.cons.inj hwl).2
    have e2 : ∀ f, f < 100 → st_A (rs_C k kt S) (ky k f) = fun _ => 0 := fun f hf => by
      show (if ky k f / 100 = k then (fun _ => (0 : Int32)) else _) = _
      rw [if_pos (ky_div k hf)]
    show (h0, Sum.inr (cl_C k, fl wd_C gt (rs_C k kt S) k)) :: _ = _
    rw [hk0, hfl1]
    refine congrArg _ ?_
    refine Eq.trans ?_ (hwl2.trans ?_)
    · show _ ++ _ = _ ++ ([] ++ [])
      rfl
    · simp [lt_C, e2]
  have hperm := gM_perm (w := wd_C) (g1 := gO b k h0 [0, 0, q1, q2, q3, q4, q5, q6, q7] [0, 0, c1, c2, c3, c4, c5, c6, c7] [0, 0, 0, 0, 0, 0, 0, 0, 0] [0, 0, 0, 0, 0, 0, 0, 0, 0] [2, 3, 4, 5, 6, 7, 8] []) (g2 := b) (S := rs_C k kt S) hqb kb1 hkb hdj (by rw [hgt]; exact hfl2)
  rw [hgt, hw0, ← hSe] at hperm
  have hDb : va_D (aw b) (wl wd_C b S) := hgb.2.2.1 S
  have hPw : va_P (gg_D b) vwCl (wl wd_C gt (rs_C k kt S)) H := vP_perm hperm.symm (vP_app.mpr ⟨hP.sub [0, 1, 2, 3, 4, 5, 6, 7] rfl, hB⟩)
  have hDw : va_D (fun q => nwA h0 s.heap.size q ∨ aw b q) (wl wd_C gt (rs_C k kt S)) := vD_perm hperm.symm (vD_app.mpr ⟨(hD.sub [0, 1, 2, 3, 4, 5, 6, 7] (by decide) rfl).weaken (fun _ _ _ h => Or.inl h), hDb.weaken (fun _ _ _ h => Or.inr h), fun x hx y hy e => (hBl y hy).2 (by rw [← e]; exact (vD_iff.mp (hD.sub [0, 1, 2, 3, 4, 5, 6, 7] (by decide) rfl)).2 x hx)⟩)
  have hDD : gg_D gt = gg_D b := by rw [← hgt]; rfl
  have hKw : va_K (gg_D gt) vwCl (tl wd_C gt) s := by
    rw [← hgt]
    exact gM_tl kb1 hkb hdj rfl rfl (hK.sub [0, 1, 2, 3, 4, 5, 6] (tys' := tl wd_C (gO b k h0 [0, 0, q1, q2, q3, q4, q5, q6, q7] [0, 0, c1, c2, c3, c4, c5, c6, c7] [0, 0, 0, 0, 0, 0, 0, 0, 0] [0, 0, 0, 0, 0, 0, 0, 0, 0] [2, 3, 4, 5, 6, 7, 8] [])) (by rw [gO_tl (b := b) (k := k) (h0 := h0) (qa := [0, 0, q1, q2, q3, q4, q5, q6, q7]) (ca := [0, 0, c1, c2, c3, c4, c5, c6, c7]) (ql := [0, 0, 0, 0, 0, 0, 0, 0, 0]) (cl := [0, 0, 0, 0, 0, 0, 0, 0, 0]) (af := [2, 3, 4, 5, 6, 7, 8]) (lf := []) (by decide) (by decide)]; rfl)) hKb
  have hnd : (gg_os gt).Nodup ∧ (gg_as gt).Nodup ∧ (gg_ls gt).Nodup := by
    rw [← hgt]
    refine ⟨List.nodup_append.mpr ⟨List.nodup_cons.mpr ⟨List.not_mem_nil, List.nodup_nil⟩, hgb.2.1.1, fun x hx y hy e => hnk (by rw [← List.mem_singleton.mp hx, e]; exact hy)⟩, List.nodup_append.mpr ⟨?_, hgb.2.1.2.1, fun x hx y hy e => ?_⟩, hgb.2.1.2.2⟩
    · exact (by decide : ∀ k ∈ ([10, 11, 12, 13, 14] : List Nat), (([2, 3, 4, 5, 6, 7, 8] : List Nat).map (ky k)).Nodup) k hk
    · have h1 := kb1.1 x hx
      have h2 := hkb.1 y hy
      exact hnk (by rw [← List.mem_singleton.mp h1, e]; exact h2)
  have hgd : gd wd_C gt := gd_C hnd hDw
  have hk8 : hs wd_C gt k 0 := by
    rw [← hgt]
    exact ⟨hk0, List.mem_append_left _ List.mem_cons_self, fun f h => List.mem_append_left _ (List.mem_map_of_mem (k2_0 f h)), fun f h => absurd h (k3_0 f), fun f h => absurd h (k4_0 f)⟩
  have hst : ∀ z ci, hs wd_C b z ci → hs wd_C gt z ci := fun z ci h => by rw [← hgt]; exact hs_gM2 h
  have hAt : allT gt := ⟨⟨hst _ _ hAb.1.1, hst _ _ hAb.1.2⟩, ⟨hst _ _ hAb.2.1, hst _ _ hAb.2.2⟩⟩
  have hkn : kn gt b := by rw [← hgt]; exact ⟨rfl, rfl, rfl, rfl⟩
  have hM := k_X0_begin l gt hgd k kt hk8 hAt (allT_at hAt hkt) (rs_C k kt S) S1 hf
  rw [hgk, hakt] at hM
  have hF2 : ∀ q, aw gt q → nwA h0 s.heap.size q ∨ aw b q := wA_sub hDw
  have hS2 : va_S (fun q => nwA h0 s.heap.size q ∨ aw b q) s.heap H locs := ⟨hS.1, fun q h1 h2 => hS.2.1 q h1 (fun h => h2 (Or.inl h)), fun z hz => Or.inl (hS.2.2 z hz)⟩
  refine lv_aload_n hx hb dX0_init_70 rfl (lv_at hl 0 rfl) ?_
  refine lv_aload_n hx hb dX0_init_71 rfl (lv_at hl 1 rfl) ?_
  obtain ⟨m1, m2, m3, m4, m5, m6⟩ := lk_X0_37
  refine va_callv (va_runV (Ts := gw_tbl) (As := [.ref (gg_o b kt)]) (rest := []) ⟨hx, hb, hml, hown, hts⟩ hM ⟨callB_of 1 hts (gw_inG m5) rfl rfl rfl (hts _ m4) (hts _ m1) m6 ⟨Nat.le_of_ble_eq_true rfl, Nat.le_of_ble_eq_true rfl⟩, hts _ m2, hts _ m3⟩ ⟨wI_blind hgd, va_recv hK hP (ci := 0) (q0 := 0) rfl rfl, fun U hU hW => ⟨rfl, by rw [hU, hDD]; exact hPw, va_K.moved hW.alike hKw, cs_narrow hkn.2.1 hkn.2.2.1 hkn.2.2.2 hF2 (cs_warm b _ s U hW (by rw [hU]; exact hS2.2.1) hcs)⟩⟩ rfl rfl hl.1 rfl (lv_room (Nat.le_of_ble_eq_true rfl)) dX0_init_72 ⟨Nat.le_of_ble_eq_true rfl, Nat.le_of_ble_eq_true rfl⟩) hS2 (fun q _ h => hF2 q h) hF2 (fun u t H1 locs1 ht hvm hw hB1 hz1 hk1 hS3 => ?_)
  refine W.vret hx hb hr (fun t2 ht2 hW => ⟨⟨(gt, S1), rfl, ⟨⟨⟨hgd, hAt, by rw [← hgt]; exact gM_kb kb1 hkb, hkn, by rw [← hgt]; exact hqb, by rw [← hgt]; rfl, hk8, hgk, fun z hz => hgo2 z (fun h => hnk (by rw [← h]; exact hz)), hst⟩, rfl⟩, wD_any hDw S1⟩, ?_, ?_⟩, hS3.F ht2⟩) hS3.2.2 dX0_init_75
  · rw [ht2, ← ht]
    exact hB1.1
  · exact va_K.moved hW.alike hKw
