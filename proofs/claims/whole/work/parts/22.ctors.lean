/-! CONSTRUCTORS THAT CALL: Text, Scanner, Court. -/
theorem pr_blind {b : GG} {h0 sz ci : Nat} {fs av : List Value} : FrameBlind (va_Pc av (pr_n b h0 sz ci fs)) := by
  intro a U g mk h
  obtain ⟨h0, h1, hP, hK, hs⟩ := h
  exact ⟨h0, h1, hP, va_K.moved (u := U) (U := U.calling g mk a) (Vm.Alike.refl U.vm) hK, cs_same b _ U (U.calling g mk a) rfl rfl hs⟩
theorem nw_apart {D : va_G} {cl : List vw_C} {A : Nat → Prop} {wr : va_W} {a : Nat} {e : va_E} {H : Heap} (hP : va_P D cl (wr ++ [(a, e)]) H) (hD : va_D A (wr ++ [(a, e)])) : ∀ x ∈ wr, ¬ nwA a H.size x.1 := by
  intro x hx h
  rcases h with h | h
  · exact (vD_app.mp hD).2.2 x hx (a, e) (List.mem_singleton.mpr rfl) h
  · have := (vP_iff.mp hP x (List.mem_append_left _ hx)).lt
    omega
theorem w_join {D : va_G} {cl : List vw_C} {A0 A1 : Nat → Prop} {wr w1 : va_W} {H H1 : Heap} (hPr : va_P D cl wr H) (hDr : va_D A0 wr) (hap : ∀ x ∈ wr, ¬ A1 x.1) (hk : ∀ q : Nat, q < H.size → ¬ A1 q → H1[q]? = H[q]?) (hA : ∀ q, A1 q → A0 q) (hP1 : va_P D cl w1 H1) (hD1 : va_D A1 w1) : va_P D cl (wr ++ w1) H1 ∧ va_D A0 (wr ++ w1) := by
  refine ⟨vP_app.mpr ⟨vP_iff.mpr (fun x hx => ?_), hP1⟩, vD_app.mpr ⟨hDr, hD1.weaken (fun _ _ _ h => hA _ h), fun x hx y hy e => ?_⟩⟩
  · have h1 := vP_iff.mp hPr x hx
    exact h1.kept (hk x.1 h1.lt (hap x hx))
  · exact hap x hx (by rw [e]; exact (vD_iff.mp hD1).2 y hy)
def kn (g b : GG) : Prop := gg_D g = gg_D b ∧ gg_t g = gg_t b ∧ gg_k g = gg_k b ∧ gg_v g = gg_v b
theorem k2_4 : ∀ f : Nat, (ks_C 4)[f]? = some 2 → f ∈ [7, 8, 9, 10, 11, 12, 14] := fun f h => (by decide : ∀ f < 19, (ks_C 4)[f]? = some 2 → f ∈ [7, 8, 9, 10, 11, 12, 14]) f (List.getElem?_eq_some_iff.mp h).1 h
theorem k3_4 : ∀ f : Nat, (ks_C 4)[f]? = some 3 → f ∈ [13] := fun f h => (by decide : ∀ f < 19, (ks_C 4)[f]? = some 3 → f ∈ [13]) f (List.getElem?_eq_some_iff.mp h).1 h
theorem k4_4 : ∀ f : Nat, ¬ (ks_C 4)[f]? = some 4 := fun f h => (by decide : ∀ f < 19, ¬ (ks_C 4)[f]? = some 4) f (List.getElem?_eq_some_iff.mp h).1 h
theorem k2_1 : ∀ f : Nat, (ks_C 1)[f]? = some 2 → f ∈ [0, 1, 3, 5, 6] := fun f h => (by decide : ∀ f < 7, (ks_C 1)[f]? = some 2 → f ∈ [0, 1, 3, 5, 6]) f (List.getElem?_eq_some_iff.mp h).1 h
theorem k3_1 : ∀ f : Nat, ¬ (ks_C 1)[f]? = some 3 := fun f h => (by decide : ∀ f < 7, ¬ (ks_C 1)[f]? = some 3) f (List.getElem?_eq_some_iff.mp h).1 h
theorem k4_1 : ∀ f : Nat, ¬ (ks_C 1)[f]? = some 4 := fun f h => (by decide : ∀ f < 7, ¬ (ks_C 1)[f]? = some 4) f (List.getElem?_eq_some_iff.mp h).1 h
theorem w_old {p : Program} {l : Launch} {e : Env} {R : Room} {s : State} {m : MethodId} {args : Array Value} {below : List Frame} {meth : Method} {c : Code} {H : Heap} {locs : List Loc} {cells slots : Nat} {Q : State → Prop} {g : JFrame} (kk : ∀ locs1 : List Loc, (∀ q ∈ locs1, q ∈ locs ∧ q.base < s.heap.size) → W p l e R s m args below meth c H locs1 cells slots Q g) : W p l e R s m args below meth c H locs cells slots Q g := by
  intro T hT X
  refine kk (locs.filter (fun q => decide (q.base < s.heap.size))) (fun q hq => ⟨(List.mem_filter.mp hq).1, of_decide_eq_true (List.mem_filter.mp hq).2⟩) T hT { X with same := ?_ }
  obtain ⟨h1, h2, h3, h4, h5, h6⟩ := X.same
  refine ⟨h1, h2, h3, h4, h5, fun a c hc => ?_⟩
  obtain ⟨c', g1, g2, g3, g4⟩ := h6 a c hc
  exact ⟨c', g1, g2, g3, fun i hi => g4 i (fun hm => hi (List.mem_filter.mpr ⟨hm, decide_eq_true (Array.getElem?_eq_some_iff.mp hc).1⟩))⟩
theorem mq_n {below : List Frame} {g : GG} {S1 : St} {a : Array Value} {s : State} {mc ms h0 sz : Nat} {post : GG → St → Prop} (hF : ∀ q, aw g q → nwA h0 sz q) (hp : post g S1) (hD : va_D (nwA h0 sz) (wl wd_C g S1)) : ∀ t, MQ below (qc_v wd_C g S1) a s mc ms (aw g) t → MQ below (qc_n h0 sz post) a s mc ms (nwA h0 sz) t := by
  rintro t ⟨o, h1, h2, ⟨⟨u, h3, -, h4⟩, h5⟩, L, h6, h7⟩
  exact ⟨o, h1, h2, ⟨⟨(g, S1), h3, ⟨hp, hD⟩, h4.1, h4.2.1⟩, h5.1, fun q a1 a2 => h5.2 q a1 (fun h => a2 (hF q h))⟩, L, h6, fun q hq => hF _ (h7 q hq)⟩
def txp (b : GG) (k h0 : Nat) (g : GG) : Prop := gd wd_C g ∧ hT g k ∧ kb g ∧ kn g b ∧ gg_o g k = h0 ∧ gg_os g = [k, k + 2] ∧ gg_qs g = []

theorem dX4_init_0 : decode cX4_init 0 = .ok (.aload_n 0, 1) := by decide +kernel
theorem dX4_init_1 : decode cX4_init 1 = .ok (.invokespecial 3, 3) := by decide +kernel
theorem dX4_init_4 : decode cX4_init 4 = .ok (.aload_n 0, 1) := by decide +kernel
theorem dX4_init_5 : decode cX4_init 5 = .ok (.bipush 24, 2) := by decide +kernel
theorem dX4_init_7 : decode cX4_init 7 = .ok (.newarray .int, 2) := by decide +kernel
theorem dX4_init_9 : decode cX4_init 9 = .ok (.putfield 9, 3) := by decide +kernel
theorem dX4_init_12 : decode cX4_init 12 = .ok (.aload_n 0, 1) := by decide +kernel
theorem dX4_init_13 : decode cX4_init 13 = .ok (.bipush 6, 2) := by decide +kernel
theorem dX4_init_15 : decode cX4_init 15 = .ok (.newarray .int, 2) := by decide +kernel
theorem dX4_init_17 : decode cX4_init 17 = .ok (.putfield 15, 3) := by decide +kernel
theorem dX4_init_20 : decode cX4_init 20 = .ok (.aload_n 0, 1) := by decide +kernel
theorem dX4_init_21 : decode cX4_init 21 = .ok (.bipush 6, 2) := by decide +kernel
theorem dX4_init_23 : decode cX4_init 23 = .ok (.newarray .int, 2) := by decide +kernel
theorem dX4_init_25 : decode cX4_init 25 = .ok (.putfield 18, 3) := by decide +kernel
theorem dX4_init_28 : decode cX4_init 28 = .ok (.aload_n 0, 1) := by decide +kernel
theorem dX4_init_29 : decode cX4_init 29 = .ok (.bipush 6, 2) := by decide +kernel
theorem dX4_init_31 : decode cX4_init 31 = .ok (.newarray .int, 2) := by decide +kernel
theorem dX4_init_33 : decode cX4_init 33 = .ok (.putfield 21, 3) := by decide +kernel
theorem dX4_init_36 : decode cX4_init 36 = .ok (.aload_n 0, 1) := by decide +kernel
theorem dX4_init_37 : decode cX4_init 37 = .ok (.bipush 8, 2) := by decide +kernel
theorem dX4_init_39 : decode cX4_init 39 = .ok (.newarray .int, 2) := by decide +kernel
theorem dX4_init_41 : decode cX4_init 41 = .ok (.putfield 24, 3) := by decide +kernel
theorem dX4_init_44 : decode cX4_init 44 = .ok (.aload_n 0, 1) := by decide +kernel
theorem dX4_init_45 : decode cX4_init 45 = .ok (.bipush 8, 2) := by decide +kernel
theorem dX4_init_47 : decode cX4_init 47 = .ok (.newarray .int, 2) := by decide +kernel
theorem dX4_init_49 : decode cX4_init 49 = .ok (.putfield 27, 3) := by decide +kernel
theorem dX4_init_52 : decode cX4_init 52 = .ok (.aload_n 0, 1) := by decide +kernel
theorem dX4_init_53 : decode cX4_init 53 = .ok (.bipush 22, 2) := by decide +kernel
theorem dX4_init_55 : decode cX4_init 55 = .ok (.newarray .long, 2) := by decide +kernel
theorem dX4_init_57 : decode cX4_init 57 = .ok (.putfield 30, 3) := by decide +kernel
theorem dX4_init_60 : decode cX4_init 60 = .ok (.aload_n 0, 1) := by decide +kernel
theorem dX4_init_61 : decode cX4_init 61 = .ok (.bipush 22, 2) := by decide +kernel
theorem dX4_init_63 : decode cX4_init 63 = .ok (.newarray .int, 2) := by decide +kernel
theorem dX4_init_65 : decode cX4_init 65 = .ok (.putfield 34, 3) := by decide +kernel
theorem dX4_init_68 : decode cX4_init 68 = .ok (.aload_n 0, 1) := by decide +kernel
theorem dX4_init_69 : decode cX4_init 69 = .ok (.new 37, 3) := by decide +kernel
theorem dX4_init_72 : decode cX4_init 72 = .ok (.dup, 1) := by decide +kernel
theorem dX4_init_73 : decode cX4_init 73 = .ok (.invokespecial 39, 3) := by decide +kernel
theorem dX4_init_76 : decode cX4_init 76 = .ok (.putfield 40, 3) := by decide +kernel
theorem dX4_init_79 : decode cX4_init 79 = .ok (.aload_n 0, 1) := by decide +kernel
theorem dX4_init_80 : decode cX4_init 80 = .ok (.iconst (-1), 1) := by decide +kernel
theorem dX4_init_81 : decode cX4_init 81 = .ok (.putfield 44, 3) := by decide +kernel
theorem dX4_init_84 : decode cX4_init 84 = .ok (.aload_n 0, 1) := by decide +kernel
theorem dX4_init_85 : decode cX4_init 85 = .ok (.invokevirtual 48, 3) := by decide +kernel
theorem dX4_init_88 : decode cX4_init 88 = .ok (.return_, 1) := by decide +kernel
abbrev rm_X4_init : Room := { frames := 6, cells := 14, slots := 1267, locals := 300 }
set_option maxRecDepth 100000 in
set_option maxHeartbeats 8000000 in
theorem c_X4_init (l : Launch) (b : GG) (k h0 sz : Nat) (hk : k = 2 ∨ k = 3) (S1 : St) (hf : f_X4_clear k s0_C = some S1) : Met l yX4_init (Cond.code yX4_init cX4_init 1 none :: gw_tbl) rm_X4_init (va_Pc [.ref h0] (pr_n b h0 sz 4 [.int 0, .int 0, .int 0, .int 0, .int 0, .int 0, .int 0, .null, .null, .null, .null, .null, .null, .null, .null, .int 0, .null, .int 0, .int 0])) (qc_n h0 sz (fun g S => txp b k h0 g ∧ S = S1)) 14 1267 (nwA h0 sz) := by
  refine Met.ofW (cc := cX4_init) (maxL := 1) (ret := none) (by decide) rfl ?_
  intro p e s m args below meth c s₁ B hml hv
  obtain ⟨rfl, hsz, hP, hK, hcs⟩ := hv
  have hx := B.exec
  have hb := B.bytes
  have hr := B.returns
  have hts0 := atoms_spec (ws := Cond.code yX4_init cX4_init 1 none :: gw_tbl) B.pre
  have hts : ∀ z ∈ gw_tbl, z.before _ s = true := fun z hz => hts0 z (List.mem_cons_of_mem _ hz)
  have hown : s.vm.findClass RX4 = some m.cls := findClass_of_methodNamed B.named
  have hlocks := B.notSynchronized
  have hin : meth.name = "<init>" := (name_of_methodNamed B.named B.method).1
  subst hsz
  have hA : ∀ q : Nat, s.heap.size ≤ q → nwA h0 s.heap.size q := fun q h => Or.inr h
  have hD : va_D (nwA h0 s.heap.size) [(h0, .inr (4, [.int 0, .int 0, .int 0, .int 0, .int 0, .int 0, .int 0, .null, .null, .null, .null, .null, .null, .null, .null, .int 0, .null, .int 0, .int 0]))] := vD_iff.mpr ⟨by simp, fun x hx => by rw [List.mem_singleton.mp hx]; exact Or.inl rfl⟩
  have hS : va_S (nwA h0 s.heap.size) s.heap s.heap [] := va_S.rf
  have hl := lv_entry ([.ref h0]) (n := 1) (Nat.le_of_ble_eq_true rfl)
  rw [lg_entry_eq]
  generalize (lg_sl ([.ref h0]) ++ List.replicate (1 - (lg_sl ([.ref h0])).length) Slot.unset).toArray = ls at hl ⊢
  have hl : lv_has ls 1 [(0, .ref h0)] := hl
  refine lv_aload_n hx hb dX4_init_0 rfl (lv_at hl 0 rfl) ?_
  refine W.objInit hx hb hown (hts _ wd_156) (hts _ wd_22) (hts _ wd_23) rfl (by rw [hml]; exact hl.1) rfl dX4_init_1 (Nat.le_of_ble_eq_true rfl) (Nat.le_of_ble_eq_true rfl) ?_
  refine W.eq (g2 := F0 m 4 ls []) rfl ?_
  refine lv_aload_n hx hb dX4_init_4 rfl (lv_at hl 0 rfl) ?_
  refine lv_bipush (v := 24) hx hb dX4_init_5 (by decide) ?_
  refine va_newa (atype := .int) hx hb (hts _ wd_148) (ty := .int) rfl hK hP hD hS hA (N' := 24) (a0 := (24, .inl (fun _ => 0))) (fun _ => rfl) (by decide) (by decide) (Nat.le_of_ble_eq_true rfl) (Nat.le_of_ble_eq_true rfl) (Nat.le_of_ble_eq_true rfl) dX4_init_7 (fun q1 c1 H hK hP hD hS => ?_)
  have hP : va_P (gg_D b) vwCl [(h0, .inr (4, [.int 0, .int 0, .int 0, .int 0, .int 0, .int 0, .int 0, .null, .null, .null, .null, .null, .null, .null, .null, .int 0, .null, .int 0, .int 0])), (q1, .inl (c1, 24, .inl (fun _ => 0)))] H := hP
  have hD : va_D (nwA h0 s.heap.size) [(h0, .inr (4, [.int 0, .int 0, .int 0, .int 0, .int 0, .int 0, .int 0, .null, .null, .null, .null, .null, .null, .null, .null, .int 0, .null, .int 0, .int 0])), (q1, .inl (c1, 24, .inl (fun _ => 0)))] := hD
  have hK : va_K (gg_D b) vwCl [(c1, FieldType.int)] s := hK
  refine va_putF (D := gg_D b) (ci := 4) (v := .ref q1) (ty := (.array .int)) (C := RX4) (T := TX4) (N := 19) hx hb hts in_X4 tyX4 tyX4_ok nmX4 hown hK hP hD hS 0 rfl rfl 7 (by decide) (hts _ wd_217) (fun _ h9 => h9) rfl hin rfl (by decide +kernel) rfl rfl (Nat.le_of_ble_eq_true rfl) dX4_init_9 (fun H locs hP hD hS => ?_)
  have hP : va_P (gg_D b) vwCl [(h0, .inr (4, [.int 0, .int 0, .int 0, .int 0, .int 0, .int 0, .int 0, .ref q1, .null, .null, .null, .null, .null, .null, .null, .int 0, .null, .int 0, .int 0])), (q1, .inl (c1, 24, .inl (fun _ => 0)))] H := hP
  have hD : va_D (nwA h0 s.heap.size) [(h0, .inr (4, [.int 0, .int 0, .int 0, .int 0, .int 0, .int 0, .int 0, .ref q1, .null, .null, .null, .null, .null, .null, .null, .int 0, .null, .int 0, .int 0])), (q1, .inl (c1, 24, .inl (fun _ => 0)))] := hD
  refine lv_aload_n hx hb dX4_init_12 rfl (lv_at hl 0 rfl) ?_
  refine lv_bipush (v := 6) hx hb dX4_init_13 (by decide) ?_
  refine va_newa (atype := .int) hx hb (hts _ wd_148) (ty := .int) rfl hK hP hD hS hA (N' := 6) (a0 := (6, .inl (fun _ => 0))) (fun _ => rfl) (by decide) (by decide) (Nat.le_of_ble_eq_true rfl) (Nat.le_of_ble_eq_true rfl) (Nat.le_of_ble_eq_true rfl) dX4_init_15 (fun q2 c2 H hK hP hD hS => ?_)
  have hP : va_P (gg_D b) vwCl [(h0, .inr (4, [.int 0, .int 0, .int 0, .int 0, .int 0, .int 0, .int 0, .ref q1, .null, .null, .null, .null, .null, .null, .null, .int 0, .null, .int 0, .int 0])), (q1, .inl (c1, 24, .inl (fun _ => 0))), (q2, .inl (c2, 6, .inl (fun _ => 0)))] H := hP
  have hD : va_D (nwA h0 s.heap.size) [(h0, .inr (4, [.int 0, .int 0, .int 0, .int 0, .int 0, .int 0, .int 0, .ref q1, .null, .null, .null, .null, .null, .null, .null, .int 0, .null, .int 0, .int 0])), (q1, .inl (c1, 24, .inl (fun _ => 0))), (q2, .inl (c2, 6, .inl (fun _ => 0)))] := hD
  have hK : va_K (gg_D b) vwCl [(c1, FieldType.int), (c2, FieldType.int)] s := hK
  refine va_putF (D := gg_D b) (ci := 4) (v := .ref q2) (ty := (.array .int)) (C := RX4) (T := TX4) (N := 19) hx hb hts in_X4 tyX4 tyX4_ok nmX4 hown hK hP hD hS 0 rfl rfl 8 (by decide) (hts _ wd_218) (fun _ h9 => h9) rfl hin rfl (by decide +kernel) rfl rfl (Nat.le_of_ble_eq_true rfl) dX4_init_17 (fun H locs hP hD hS => ?_)
  have hP : va_P (gg_D b) vwCl [(h0, .inr (4, [.int 0, .int 0, .int 0, .int 0, .int 0, .int 0, .int 0, .ref q1, .ref q2, .null, .null, .null, .null, .null, .null, .int 0, .null, .int 0, .int 0])), (q1, .inl (c1, 24, .inl (fun _ => 0))), (q2, .inl (c2, 6, .inl (fun _ => 0)))] H := hP
  have hD : va_D (nwA h0 s.heap.size) [(h0, .inr (4, [.int 0, .int 0, .int 0, .int 0, .int 0, .int 0, .int 0, .ref q1, .ref q2, .null, .null, .null, .null, .null, .null, .int 0, .null, .int 0, .int 0])), (q1, .inl (c1, 24, .inl (fun _ => 0))), (q2, .inl (c2, 6, .inl (fun _ => 0)))] := hD
  refine lv_aload_n hx hb dX4_init_20 rfl (lv_at hl 0 rfl) ?_
  refine lv_bipush (v := 6) hx hb dX4_init_21 (by decide) ?_
  refine va_newa (atype := .int) hx hb (hts _ wd_148) (ty := .int) rfl hK hP hD hS hA (N' := 6) (a0 := (6, .inl (fun _ => 0))) (fun _ => rfl) (by decide) (by decide) (Nat.le_of_ble_eq_true rfl) (Nat.le_of_ble_eq_true rfl) (Nat.le_of_ble_eq_true rfl) dX4_init_23 (fun q3 c3 H hK hP hD hS => ?_)
  have hP : va_P (gg_D b) vwCl [(h0, .inr (4, [.int 0, .int 0, .int 0, .int 0, .int 0, .int 0, .int 0, .ref q1, .ref q2, .null, .null, .null, .null, .null, .null, .int 0, .null, .int 0, .int 0])), (q1, .inl (c1, 24, .inl (fun _ => 0))), (q2, .inl (c2, 6, .inl (fun _ => 0))), (q3, .inl (c3, 6, .inl (fun _ => 0)))] H := hP
  have hD : va_D (nwA h0 s.heap.size) [(h0, .inr (4, [.int 0, .int 0, .int 0, .int 0, .int 0, .int 0, .int 0, .ref q1, .ref q2, .null, .null, .null, .null, .null, .null, .int 0, .null, .int 0, .int 0])), (q1, .inl (c1, 24, .inl (fun _ => 0))), (q2, .inl (c2, 6, .inl (fun _ => 0))), (q3, .inl (c3, 6, .inl (fun _ => 0)))] := hD
  have hK : va_K (gg_D b) vwCl [(c1, FieldType.int), (c2, FieldType.int), (c3, FieldType.int)] s := hK
  refine va_putF (D := gg_D b) (ci := 4) (v := .ref q3) (ty := (.array .int)) (C := RX4) (T := TX4) (N := 19) hx hb hts in_X4 tyX4 tyX4_ok nmX4 hown hK hP hD hS 0 rfl rfl 9 (by decide) (hts _ wd_220) (fun _ h9 => h9) rfl hin rfl (by decide +kernel) rfl rfl (Nat.le_of_ble_eq_true rfl) dX4_init_25 (fun H locs hP hD hS => ?_)
  have hP : va_P (gg_D b) vwCl [(h0, .inr (4, [.int 0, .int 0, .int 0, .int 0, .int 0, .int 0, .int 0, .ref q1, .ref q2, .ref q3, .null, .null, .null, .null, .null, .int 0, .null, .int 0, .int 0])), (q1, .inl (c1, 24, .inl (fun _ => 0))), (q2, .inl (c2, 6, .inl (fun _ => 0))), (q3, .inl (c3, 6, .inl (fun _ => 0)))] H := hP
  have hD : va_D (nwA h0 s.heap.size) [(h0, .inr (4, [.int 0, .int 0, .int 0, .int 0, .int 0, .int 0, .int 0, .ref q1, .ref q2, .ref q3, .null, .null, .null, .null, .null, .int 0, .null, .int 0, .int 0])), (q1, .inl (c1, 24, .inl (fun _ => 0))), (q2, .inl (c2, 6, .inl (fun _ => 0))), (q3, .inl (c3, 6, .inl (fun _ => 0)))] := hD
  refine lv_aload_n hx hb dX4_init_28 rfl (lv_at hl 0 rfl) ?_
  refine lv_bipush (v := 6) hx hb dX4_init_29 (by decide) ?_
  refine va_newa (atype := .int) hx hb (hts _ wd_148) (ty := .int) rfl hK hP hD hS hA (N' := 6) (a0 := (6, .inl (fun _ => 0))) (fun _ => rfl) (by decide) (by decide) (Nat.le_of_ble_eq_true rfl) (Nat.le_of_ble_eq_true rfl) (Nat.le_of_ble_eq_true rfl) dX4_init_31 (fun q4 c4 H hK hP hD hS => ?_)
  have hP : va_P (gg_D b) vwCl [(h0, .inr (4, [.int 0, .int 0, .int 0, .int 0, .int 0, .int 0, .int 0, .ref q1, .ref q2, .ref q3, .null, .null, .null, .null, .null, .int 0, .null, .int 0, .int 0])), (q1, .inl (c1, 24, .inl (fun _ => 0))), (q2, .inl (c2, 6, .inl (fun _ => 0))), (q3, .inl (c3, 6, .inl (fun _ => 0))), (q4, .inl (c4, 6, .inl (fun _ => 0)))] H := hP
  have hD : va_D (nwA h0 s.heap.size) [(h0, .inr (4, [.int 0, .int 0, .int 0, .int 0, .int 0, .int 0, .int 0, .ref q1, .ref q2, .ref q3, .null, .null, .null, .null, .null, .int 0, .null, .int 0, .int 0])), (q1, .inl (c1, 24, .inl (fun _ => 0))), (q2, .inl (c2, 6, .inl (fun _ => 0))), (q3, .inl (c3, 6, .inl (fun _ => 0))), (q4, .inl (c4, 6, .inl (fun _ => 0)))] := hD
  have hK : va_K (gg_D b) vwCl [(c1, FieldType.int), (c2, FieldType.int), (c3, FieldType.int), (c4, FieldType.int)] s := hK
  refine va_putF (D := gg_D b) (ci := 4) (v := .ref q4) (ty := (.array .int)) (C := RX4) (T := TX4) (N := 19) hx hb hts in_X4 tyX4 tyX4_ok nmX4 hown hK hP hD hS 0 rfl rfl 10 (by decide) (hts _ wd_222) (fun _ h9 => h9) rfl hin rfl (by decide +kernel) rfl rfl (Nat.le_of_ble_eq_true rfl) dX4_init_33 (fun H locs hP hD hS => ?_)
  have hP : va_P (gg_D b) vwCl [(h0, .inr (4, [.int 0, .int 0, .int 0, .int 0, .int 0, .int 0, .int 0, .ref q1, .ref q2, .ref q3, .ref q4, .null, .null, .null, .null, .int 0, .null, .int 0, .int 0])), (q1, .inl (c1, 24, .inl (fun _ => 0))), (q2, .inl (c2, 6, .inl (fun _ => 0))), (q3, .inl (c3, 6, .inl (fun _ => 0))), (q4, .inl (c4, 6, .inl (fun _ => 0)))] H := hP
  have hD : va_D (nwA h0 s.heap.size) [(h0, .inr (4, [.int 0, .int 0, .int 0, .int 0, .int 0, .int 0, .int 0, .ref q1, .ref q2, .ref q3, .ref q4, .null, .null, .null, .null, .int 0, .null, .int 0, .int 0])), (q1, .inl (c1, 24, .inl (fun _ => 0))), (q2, .inl (c2, 6, .inl (fun _ => 0))), (q3, .inl (c3, 6, .inl (fun _ => 0))), (q4, .inl (c4, 6, .inl (fun _ => 0)))] := hD
  refine lv_aload_n hx hb dX4_init_36 rfl (lv_at hl 0 rfl) ?_
  refine lv_bipush (v := 8) hx hb dX4_init_37 (by decide) ?_
  refine va_newa (atype := .int) hx hb (hts _ wd_148) (ty := .int) rfl hK hP hD hS hA (N' := 8) (a0 := (8, .inl (fun _ => 0))) (fun _ => rfl) (by decide) (by decide) (Nat.le_of_ble_eq_true rfl) (Nat.le_of_ble_eq_true rfl) (Nat.le_of_ble_eq_true rfl) dX4_init_39 (fun q5 c5 H hK hP hD hS => ?_)
  have hP : va_P (gg_D b) vwCl [(h0, .inr (4, [.int 0, .int 0, .int 0, .int 0, .int 0, .int 0, .int 0, .ref q1, .ref q2, .ref q3, .ref q4, .null, .null, .null, .null, .int 0, .null, .int 0, .int 0])), (q1, .inl (c1, 24, .inl (fun _ => 0))), (q2, .inl (c2, 6, .inl (fun _ => 0))), (q3, .inl (c3, 6, .inl (fun _ => 0))), (q4, .inl (c4, 6, .inl (fun _ => 0))), (q5, .inl (c5, 8, .inl (fun _ => 0)))] H := hP
  have hD : va_D (nwA h0 s.heap.size) [(h0, .inr (4, [.int 0, .int 0, .int 0, .int 0, .int 0, .int 0, .int 0, .ref q1, .ref q2, .ref q3, .ref q4, .null, .null, .null, .null, .int 0, .null, .int 0, .int 0])), (q1, .inl (c1, 24, .inl (fun _ => 0))), (q2, .inl (c2, 6, .inl (fun _ => 0))), (q3, .inl (c3, 6, .inl (fun _ => 0))), (q4, .inl (c4, 6, .inl (fun _ => 0))), (q5, .inl (c5, 8, .inl (fun _ => 0)))] := hD
  have hK : va_K (gg_D b) vwCl [(c1, FieldType.int), (c2, FieldType.int), (c3, FieldType.int), (c4, FieldType.int), (c5, FieldType.int)] s := hK
  refine va_putF (D := gg_D b) (ci := 4) (v := .ref q5) (ty := (.array .int)) (C := RX4) (T := TX4) (N := 19) hx hb hts in_X4 tyX4 tyX4_ok nmX4 hown hK hP hD hS 0 rfl rfl 11 (by decide) (hts _ wd_224) (fun _ h9 => h9) rfl hin rfl (by decide +kernel) rfl rfl (Nat.le_of_ble_eq_true rfl) dX4_init_41 (fun H locs hP hD hS => ?_)
  have hP : va_P (gg_D b) vwCl [(h0, .inr (4, [.int 0, .int 0, .int 0, .int 0, .int 0, .int 0, .int 0, .ref q1, .ref q2, .ref q3, .ref q4, .ref q5, .null, .null, .null, .int 0, .null, .int 0, .int 0])), (q1, .inl (c1, 24, .inl (fun _ => 0))), (q2, .inl (c2, 6, .inl (fun _ => 0))), (q3, .inl (c3, 6, .inl (fun _ => 0))), (q4, .inl (c4, 6, .inl (fun _ => 0))), (q5, .inl (c5, 8, .inl (fun _ => 0)))] H := hP
  have hD : va_D (nwA h0 s.heap.size) [(h0, .inr (4, [.int 0, .int 0, .int 0, .int 0, .int 0, .int 0, .int 0, .ref q1, .ref q2, .ref q3, .ref q4, .ref q5, .null, .null, .null, .int 0, .null, .int 0, .int 0])), (q1, .inl (c1, 24, .inl (fun _ => 0))), (q2, .inl (c2, 6, .inl (fun _ => 0))), (q3, .inl (c3, 6, .inl (fun _ => 0))), (q4, .inl (c4, 6, .inl (fun _ => 0))), (q5, .inl (c5, 8, .inl (fun _ => 0)))] := hD
  refine lv_aload_n hx hb dX4_init_44 rfl (lv_at hl 0 rfl) ?_
  refine lv_bipush (v := 8) hx hb dX4_init_45 (by decide) ?_
  refine va_newa (atype := .int) hx hb (hts _ wd_148) (ty := .int) rfl hK hP hD hS hA (N' := 8) (a0 := (8, .inl (fun _ => 0))) (fun _ => rfl) (by decide) (by decide) (Nat.le_of_ble_eq_true rfl) (Nat.le_of_ble_eq_true rfl) (Nat.le_of_ble_eq_true rfl) dX4_init_47 (fun q6 c6 H hK hP hD hS => ?_)
  have hP : va_P (gg_D b) vwCl [(h0, .inr (4, [.int 0, .int 0, .int 0, .int 0, .int 0, .int 0, .int 0, .ref q1, .ref q2, .ref q3, .ref q4, .ref q5, .null, .null, .null, .int 0, .null, .int 0, .int 0])), (q1, .inl (c1, 24, .inl (fun _ => 0))), (q2, .inl (c2, 6, .inl (fun _ => 0))), (q3, .inl (c3, 6, .inl (fun _ => 0))), (q4, .inl (c4, 6, .inl (fun _ => 0))), (q5, .inl (c5, 8, .inl (fun _ => 0))), (q6, .inl (c6, 8, .inl (fun _ => 0)))] H := hP
  have hD : va_D (nwA h0 s.heap.size) [(h0, .inr (4, [.int 0, .int 0, .int 0, .int 0, .int 0, .int 0, .int 0, .ref q1, .ref q2, .ref q3, .ref q4, .ref q5, .null, .null, .null, .int 0, .null, .int 0, .int 0])), (q1, .inl (c1, 24, .inl (fun _ => 0))), (q2, .inl (c2, 6, .inl (fun _ => 0))), (q3, .inl (c3, 6, .inl (fun _ => 0))), (q4, .inl (c4, 6, .inl (fun _ => 0))), (q5, .inl (c5, 8, .inl (fun _ => 0))), (q6, .inl (c6, 8, .inl (fun _ => 0)))] := hD
  have hK : va_K (gg_D b) vwCl [(c1, FieldType.int), (c2, FieldType.int), (c3, FieldType.int), (c4, FieldType.int), (c5, FieldType.int), (c6, FieldType.int)] s := hK
  refine va_putF (D := gg_D b) (ci := 4) (v := .ref q6) (ty := (.array .int)) (C := RX4) (T := TX4) (N := 19) hx hb hts in_X4 tyX4 tyX4_ok nmX4 hown hK hP hD hS 0 rfl rfl 12 (by decide) (hts _ wd_226) (fun _ h9 => h9) rfl hin rfl (by decide +kernel) rfl rfl (Nat.le_of_ble_eq_true rfl) dX4_init_49 (fun H locs hP hD hS => ?_)
  have hP : va_P (gg_D b) vwCl [(h0, .inr (4, [.int 0, .int 0, .int 0, .int 0, .int 0, .int 0, .int 0, .ref q1, .ref q2, .ref q3, .ref q4, .ref q5, .ref q6, .null, .null, .int 0, .null, .int 0, .int 0])), (q1, .inl (c1, 24, .inl (fun _ => 0))), (q2, .inl (c2, 6, .inl (fun _ => 0))), (q3, .inl (c3, 6, .inl (fun _ => 0))), (q4, .inl (c4, 6, .inl (fun _ => 0))), (q5, .inl (c5, 8, .inl (fun _ => 0))), (q6, .inl (c6, 8, .inl (fun _ => 0)))] H := hP
  have hD : va_D (nwA h0 s.heap.size) [(h0, .inr (4, [.int 0, .int 0, .int 0, .int 0, .int 0, .int 0, .int 0, .ref q1, .ref q2, .ref q3, .ref q4, .ref q5, .ref q6, .null, .null, .int 0, .null, .int 0, .int 0])), (q1, .inl (c1, 24, .inl (fun _ => 0))), (q2, .inl (c2, 6, .inl (fun _ => 0))), (q3, .inl (c3, 6, .inl (fun _ => 0))), (q4, .inl (c4, 6, .inl (fun _ => 0))), (q5, .inl (c5, 8, .inl (fun _ => 0))), (q6, .inl (c6, 8, .inl (fun _ => 0)))] := hD
  refine lv_aload_n hx hb dX4_init_52 rfl (lv_at hl 0 rfl) ?_
  refine lv_bipush (v := 22) hx hb dX4_init_53 (by decide) ?_
  refine va_newa (atype := .long) hx hb (hts _ wd_149) (ty := .long) rfl hK hP hD hS hA (N' := 22) (a0 := (22, .inr (.inl (fun _ => 0)))) (fun _ => rfl) (by decide) (by decide) (Nat.le_of_ble_eq_true rfl) (Nat.le_of_ble_eq_true rfl) (Nat.le_of_ble_eq_true rfl) dX4_init_55 (fun q7 c7 H hK hP hD hS => ?_)
  have hP : va_P (gg_D b) vwCl [(h0, .inr (4, [.int 0, .int 0, .int 0, .int 0, .int 0, .int 0, .int 0, .ref q1, .ref q2, .ref q3, .ref q4, .ref q5, .ref q6, .null, .null, .int 0, .null, .int 0, .int 0])), (q1, .inl (c1, 24, .inl (fun _ => 0))), (q2, .inl (c2, 6, .inl (fun _ => 0))), (q3, .inl (c3, 6, .inl (fun _ => 0))), (q4, .inl (c4, 6, .inl (fun _ => 0))), (q5, .inl (c5, 8, .inl (fun _ => 0))), (q6, .inl (c6, 8, .inl (fun _ => 0))), (q7, .inl (c7, 22, .inr (.inl (fun _ => 0))))] H := hP
  have hD : va_D (nwA h0 s.heap.size) [(h0, .inr (4, [.int 0, .int 0, .int 0, .int 0, .int 0, .int 0, .int 0, .ref q1, .ref q2, .ref q3, .ref q4, .ref q5, .ref q6, .null, .null, .int 0, .null, .int 0, .int 0])), (q1, .inl (c1, 24, .inl (fun _ => 0))), (q2, .inl (c2, 6, .inl (fun _ => 0))), (q3, .inl (c3, 6, .inl (fun _ => 0))), (q4, .inl (c4, 6, .inl (fun _ => 0))), (q5, .inl (c5, 8, .inl (fun _ => 0))), (q6, .inl (c6, 8, .inl (fun _ => 0))), (q7, .inl (c7, 22, .inr (.inl (fun _ => 0))))] := hD
  have hK : va_K (gg_D b) vwCl [(c1, FieldType.int), (c2, FieldType.int), (c3, FieldType.int), (c4, FieldType.int), (c5, FieldType.int), (c6, FieldType.int), (c7, FieldType.long)] s := hK
  refine va_putF (D := gg_D b) (ci := 4) (v := .ref q7) (ty := (.array .long)) (C := RX4) (T := TX4) (N := 19) hx hb hts in_X4 tyX4 tyX4_ok nmX4 hown hK hP hD hS 0 rfl rfl 13 (by decide) (hts _ wd_227) (fun _ h9 => h9) rfl hin rfl (by decide +kernel) rfl rfl (Nat.le_of_ble_eq_true rfl) dX4_init_57 (fun H locs hP hD hS => ?_)
  have hP : va_P (gg_D b) vwCl [(h0, .inr (4, [.int 0, .int 0, .int 0, .int 0, .int 0, .int 0, .int 0, .ref q1, .ref q2, .ref q3, .ref q4, .ref q5, .ref q6, .ref q7, .null, .int 0, .null, .int 0, .int 0])), (q1, .inl (c1, 24, .inl (fun _ => 0))), (q2, .inl (c2, 6, .inl (fun _ => 0))), (q3, .inl (c3, 6, .inl (fun _ => 0))), (q4, .inl (c4, 6, .inl (fun _ => 0))), (q5, .inl (c5, 8, .inl (fun _ => 0))), (q6, .inl (c6, 8, .inl (fun _ => 0))), (q7, .inl (c7, 22, .inr (.inl (fun _ => 0))))] H := hP
  have hD : va_D (nwA h0 s.heap.size) [(h0, .inr (4, [.int 0, .int 0, .int 0, .int 0, .int 0, .int 0, .int 0, .ref q1, .ref q2, .ref q3, .ref q4, .ref q5, .ref q6, .ref q7, .null, .int 0, .null, .int 0, .int 0])), (q1, .inl (c1, 24, .inl (fun _ => 0))), (q2, .inl (c2, 6, .inl (fun _ => 0))), (q3, .inl (c3, 6, .inl (fun _ => 0))), (q4, .inl (c4, 6, .inl (fun _ => 0))), (q5, .inl (c5, 8, .inl (fun _ => 0))), (q6, .inl (c6, 8, .inl (fun _ => 0))), (q7, .inl (c7, 22, .inr (.inl (fun _ => 0))))] := hD
  refine lv_aload_n hx hb dX4_init_60 rfl (lv_at hl 0 rfl) ?_
  refine lv_bipush (v := 22) hx hb dX4_init_61 (by decide) ?_
  refine va_newa (atype := .int) hx hb (hts _ wd_148) (ty := .int) rfl hK hP hD hS hA (N' := 22) (a0 := (22, .inl (fun _ => 0))) (fun _ => rfl) (by decide) (by decide) (Nat.le_of_ble_eq_true rfl) (Nat.le_of_ble_eq_true rfl) (Nat.le_of_ble_eq_true rfl) dX4_init_63 (fun q8 c8 H hK hP hD hS => ?_)
  have hP : va_P (gg_D b) vwCl [(h0, .inr (4, [.int 0, .int 0, .int 0, .int 0, .int 0, .int 0, .int 0, .ref q1, .ref q2, .ref q3, .ref q4, .ref q5, .ref q6, .ref q7, .null, .int 0, .null, .int 0, .int 0])), (q1, .inl (c1, 24, .inl (fun _ => 0))), (q2, .inl (c2, 6, .inl (fun _ => 0))), (q3, .inl (c3, 6, .inl (fun _ => 0))), (q4, .inl (c4, 6, .inl (fun _ => 0))), (q5, .inl (c5, 8, .inl (fun _ => 0))), (q6, .inl (c6, 8, .inl (fun _ => 0))), (q7, .inl (c7, 22, .inr (.inl (fun _ => 0)))), (q8, .inl (c8, 22, .inl (fun _ => 0)))] H := hP
  have hD : va_D (nwA h0 s.heap.size) [(h0, .inr (4, [.int 0, .int 0, .int 0, .int 0, .int 0, .int 0, .int 0, .ref q1, .ref q2, .ref q3, .ref q4, .ref q5, .ref q6, .ref q7, .null, .int 0, .null, .int 0, .int 0])), (q1, .inl (c1, 24, .inl (fun _ => 0))), (q2, .inl (c2, 6, .inl (fun _ => 0))), (q3, .inl (c3, 6, .inl (fun _ => 0))), (q4, .inl (c4, 6, .inl (fun _ => 0))), (q5, .inl (c5, 8, .inl (fun _ => 0))), (q6, .inl (c6, 8, .inl (fun _ => 0))), (q7, .inl (c7, 22, .inr (.inl (fun _ => 0)))), (q8, .inl (c8, 22, .inl (fun _ => 0)))] := hD
  have hK : va_K (gg_D b) vwCl [(c1, FieldType.int), (c2, FieldType.int), (c3, FieldType.int), (c4, FieldType.int), (c5, FieldType.int), (c6, FieldType.int), (c7, FieldType.long), (c8, FieldType.int)] s := hK
  refine va_putF (D := gg_D b) (ci := 4) (v := .ref q8) (ty := (.array .int)) (C := RX4) (T := TX4) (N := 19) hx hb hts in_X4 tyX4 tyX4_ok nmX4 hown hK hP hD hS 0 rfl rfl 14 (by decide) (hts _ wd_228) (fun _ h9 => h9) rfl hin rfl (by decide +kernel) rfl rfl (Nat.le_of_ble_eq_true rfl) dX4_init_65 (fun H locs hP hD hS => ?_)
  have hP : va_P (gg_D b) vwCl [(h0, .inr (4, [.int 0, .int 0, .int 0, .int 0, .int 0, .int 0, .int 0, .ref q1, .ref q2, .ref q3, .ref q4, .ref q5, .ref q6, .ref q7, .ref q8, .int 0, .null, .int 0, .int 0])), (q1, .inl (c1, 24, .inl (fun _ => 0))), (q2, .inl (c2, 6, .inl (fun _ => 0))), (q3, .inl (c3, 6, .inl (fun _ => 0))), (q4, .inl (c4, 6, .inl (fun _ => 0))), (q5, .inl (c5, 8, .inl (fun _ => 0))), (q6, .inl (c6, 8, .inl (fun _ => 0))), (q7, .inl (c7, 22, .inr (.inl (fun _ => 0)))), (q8, .inl (c8, 22, .inl (fun _ => 0)))] H := hP
  have hD : va_D (nwA h0 s.heap.size) [(h0, .inr (4, [.int 0, .int 0, .int 0, .int 0, .int 0, .int 0, .int 0, .ref q1, .ref q2, .ref q3, .ref q4, .ref q5, .ref q6, .ref q7, .ref q8, .int 0, .null, .int 0, .int 0])), (q1, .inl (c1, 24, .inl (fun _ => 0))), (q2, .inl (c2, 6, .inl (fun _ => 0))), (q3, .inl (c3, 6, .inl (fun _ => 0))), (q4, .inl (c4, 6, .inl (fun _ => 0))), (q5, .inl (c5, 8, .inl (fun _ => 0))), (q6, .inl (c6, 8, .inl (fun _ => 0))), (q7, .inl (c7, 22, .inr (.inl (fun _ => 0)))), (q8, .inl (c8, 22, .inl (fun _ => 0)))] := hD
  refine lv_aload_n hx hb dX4_init_68 rfl (lv_at hl 0 rfl) ?_
  have h_1 : 9 ≤ 14 := by decide
  refine va_new (ci := 1) (fs := [.null, .null, .int 0, .null, .int 0, .null, .null]) (C := RX1) (T := TX1) (N := 7) hx hb hts in_X1 tyX1 tyX1_ok hown (hts _ wd_157) (hts _ wd_158) (hts _ wd_9) hK hP hD hS hA rfl (fun j hj => by rcases (show j = 0 ∨ j = 1 ∨ j = 2 ∨ j = 3 ∨ j = 4 ∨ j = 5 ∨ j = 6 by omega) with rfl | rfl | rfl | rfl | rfl | rfl | rfl <;> rfl) (Nat.le_of_ble_eq_true rfl) (Nat.le_of_ble_eq_true rfl) dX4_init_69 (fun q9 H hP hD hS => ?_)
  have hP : va_P (gg_D b) vwCl ([(h0, .inr (4, [.int 0, .int 0, .int 0, .int 0, .int 0, .int 0, .int 0, .ref q1, .ref q2, .ref q3, .ref q4, .ref q5, .ref q6, .ref q7, .ref q8, .int 0, .null, .int 0, .int 0])), (q1, .inl (c1, 24, .inl (fun _ => 0))), (q2, .inl (c2, 6, .inl (fun _ => 0))), (q3, .inl (c3, 6, .inl (fun _ => 0))), (q4, .inl (c4, 6, .inl (fun _ => 0))), (q5, .inl (c5, 8, .inl (fun _ => 0))), (q6, .inl (c6, 8, .inl (fun _ => 0))), (q7, .inl (c7, 22, .inr (.inl (fun _ => 0)))), (q8, .inl (c8, 22, .inl (fun _ => 0)))] ++ [(q9, .inr (1, [.null, .null, .int 0, .null, .int 0, .null, .null]))]) H := hP
  have hD : va_D (nwA h0 s.heap.size) ([(h0, .inr (4, [.int 0, .int 0, .int 0, .int 0, .int 0, .int 0, .int 0, .ref q1, .ref q2, .ref q3, .ref q4, .ref q5, .ref q6, .ref q7, .ref q8, .int 0, .null, .int 0, .int 0])), (q1, .inl (c1, 24, .inl (fun _ => 0))), (q2, .inl (c2, 6, .inl (fun _ => 0))), (q3, .inl (c3, 6, .inl (fun _ => 0))), (q4, .inl (c4, 6, .inl (fun _ => 0))), (q5, .inl (c5, 8, .inl (fun _ => 0))), (q6, .inl (c6, 8, .inl (fun _ => 0))), (q7, .inl (c7, 22, .inr (.inl (fun _ => 0)))), (q8, .inl (c8, 22, .inl (fun _ => 0)))] ++ [(q9, .inr (1, [.null, .null, .int 0, .null, .int 0, .null, .null]))]) := hD
  refine lv_dup hx hb dX4_init_72 rfl ?_
  have hap := nw_apart hP hD
  have hq9 : nwA h0 s.heap.size q9 := (vD_iff.mp hD).2 _ (List.mem_append_right _ (List.mem_singleton.mpr rfl))
  have hF : ∀ q, nwA q9 H.size q → nwA h0 s.heap.size q := fun q h => by
    rcases h with rfl | h
    · exact hq9
    · exact Or.inr (Nat.le_trans hS.1 h)
  have hPc := (vP_app.mp hP).2
  have hPr := (vP_app.mp hP).1
  have hDr := (vD_app.mp hD).1
  obtain ⟨l1, l2, l3, l4, l5, l6⟩ := lk_X4_39
  have hkl : cl_C (k + 2) = 1 := by rcases hk with rfl | rfl <;> rfl
  have hIl : ∀ f, (ks_C 1)[f]? = some 0 → s0_I (ky (k + 2) f) = 0 := fun f h => by
    have h1 := (List.getElem?_eq_some_iff.mp h).1
    have h2 : f < 7 := h1
    unfold s0_I ky
    rw [if_neg]
    rcases hk with rfl | rfl <;> omega
  refine va_callv (va_runIN (Ts := gw_tbl) (host := "LateMirrors") (As := []) (rest := [.ref q9, .ref h0]) ⟨hx, hb, hml, hown, hts⟩ (c_X1_init l b (k + 2) q9 H.size hkl hIl) ⟨va_cnB 0 hts (gw_inG l4) rfl rfl rfl (hcs.1 _ l1) (hts _ l3) l5 ⟨Nat.le_of_ble_eq_true rfl, Nat.le_of_ble_eq_true rfl⟩, l6, hts _ l2⟩ ⟨pr_blind, fun U hU hW => ⟨rfl, by rw [hU], by rw [hU]; exact hPc, va_K.moved hW.alike (hK.sub (tys' := []) [] rfl), cs_narrow rfl rfl rfl hF (cs_warm b _ s U hW (by rw [hU]; exact hS.2.1) hcs)⟩⟩ rfl rfl hl.1 rfl (lv_room (Nat.le_of_ble_eq_true rfl)) dX4_init_73 ⟨Nat.le_of_ble_eq_true rfl, Nat.le_of_ble_eq_true rfl⟩) hS (fun q _ h => hF q h) hF (fun u t H1 locs1 ht hvm hw hB hz1 hk1 hS => ?_)
  obtain ⟨g1, S0⟩ := u
  obtain ⟨⟨qa, ca, ql, cl, e1, e2⟩, hD1⟩ := hw
  obtain ⟨hP1, hK1⟩ := hB
  dsimp only at e1 e2 hD1 hP1 hK1
  subst e1 e2
  rw [ht] at hP1
  have hK1 := va_K.moved hvm.symm hK1
  obtain ⟨hP, hD⟩ := w_join hPr hDr hap hk1 hF hP1 hD1
  have hK := hK.app hK1
  refine va_putF (D := gg_D b) (ci := 4) (v := .ref q9) (ty := (.object "LateMirrors$Laws")) (C := RX4) (T := TX4) (N := 19) hx hb hts in_X4 tyX4 tyX4_ok nmX4 hown hK hP hD hS 0 rfl rfl 16 (by decide) (hts _ wd_230) (fun _ h9 => h9) rfl hin rfl (by decide +kernel) rfl rfl (Nat.le_of_ble_eq_true rfl) dX4_init_76 (fun H locs hP hD hS => ?_)
  have hP : va_P (gg_D b) vwCl ([(h0, .inr (4, [.int 0, .int 0, .int 0, .int 0, .int 0, .int 0, .int 0, .ref q1, .ref q2, .ref q3, .ref q4, .ref q5, .ref q6, .ref q7, .ref q8, .int 0, .ref q9, .int 0, .int 0])), (q1, .inl (c1, 24, .inl (fun _ => 0))), (q2, .inl (c2, 6, .inl (fun _ => 0))), (q3, .inl (c3, 6, .inl (fun _ => 0))), (q4, .inl (c4, 6, .inl (fun _ => 0))), (q5, .inl (c5, 8, .inl (fun _ => 0))), (q6, .inl (c6, 8, .inl (fun _ => 0))), (q7, .inl (c7, 22, .inr (.inl (fun _ => 0)))), (q8, .inl (c8, 22, .inl (fun _ => 0)))] ++ wl wd_C (gO b (k + 2) q9 qa ca ql cl [0, 1, 3, 5, 6] []) s0_C) H := hP
  have hD : va_D (nwA h0 s.heap.size) ([(h0, .inr (4, [.int 0, .int 0, .int 0, .int 0, .int 0, .int 0, .int 0, .ref q1, .ref q2, .ref q3, .ref q4, .ref q5, .ref q6, .ref q7, .ref q8, .int 0, .ref q9, .int 0, .int 0])), (q1, .inl (c1, 24, .inl (fun _ => 0))), (q2, .inl (c2, 6, .inl (fun _ => 0))), (q3, .inl (c3, 6, .inl (fun _ => 0))), (q4, .inl (c4, 6, .inl (fun _ => 0))), (q5, .inl (c5, 8, .inl (fun _ => 0))), (q6, .inl (c6, 8, .inl (fun _ => 0))), (q7, .inl (c7, 22, .inr (.inl (fun _ => 0)))), (q8, .inl (c8, 22, .inl (fun _ => 0)))] ++ wl wd_C (gO b (k + 2) q9 qa ca ql cl [0, 1, 3, 5, 6] []) s0_C) := hD
  refine lv_aload_n hx hb dX4_init_79 rfl (lv_at hl 0 rfl) ?_
  refine lv_iconst (v := -1) hx hb dX4_init_80 (by decide) ?_
  refine va_put (D := gg_D b) (ci := 4) (v := .int (-1)) (ty := .int) (C := RX4) (T := TX4) (N := 19) hx hb hts in_X4 tyX4 tyX4_ok nmX4 hown hK hP hD hS 0 rfl rfl 18 (by decide) (hts _ wd_233) (fun _ h9 => h9) rfl (by decide +kernel) rfl rfl (Nat.le_of_ble_eq_true rfl) dX4_init_81 (fun H locs hP hD hS => ?_)
  have hP : va_P (gg_D b) vwCl ([(h0, .inr (4, [.int 0, .int 0, .int 0, .int 0, .int 0, .int 0, .int 0, .ref q1, .ref q2, .ref q3, .ref q4, .ref q5, .ref q6, .ref q7, .ref q8, .int 0, .ref q9, .int 0, .int (-1)])), (q1, .inl (c1, 24, .inl (fun _ => 0))), (q2, .inl (c2, 6, .inl (fun _ => 0))), (q3, .inl (c3, 6, .inl (fun _ => 0))), (q4, .inl (c4, 6, .inl (fun _ => 0))), (q5, .inl (c5, 8, .inl (fun _ => 0))), (q6, .inl (c6, 8, .inl (fun _ => 0))), (q7, .inl (c7, 22, .inr (.inl (fun _ => 0)))), (q8, .inl (c8, 22, .inl (fun _ => 0)))] ++ wl wd_C (gO b (k + 2) q9 qa ca ql cl [0, 1, 3, 5, 6] []) s0_C) H := hP
  have hD : va_D (nwA h0 s.heap.size) ([(h0, .inr (4, [.int 0, .int 0, .int 0, .int 0, .int 0, .int 0, .int 0, .ref q1, .ref q2, .ref q3, .ref q4, .ref q5, .ref q6, .ref q7, .ref q8, .int 0, .ref q9, .int 0, .int (-1)])), (q1, .inl (c1, 24, .inl (fun _ => 0))), (q2, .inl (c2, 6, .inl (fun _ => 0))), (q3, .inl (c3, 6, .inl (fun _ => 0))), (q4, .inl (c4, 6, .inl (fun _ => 0))), (q5, .inl (c5, 8, .inl (fun _ => 0))), (q6, .inl (c6, 8, .inl (fun _ => 0))), (q7, .inl (c7, 22, .inr (.inl (fun _ => 0)))), (q8, .inl (c8, 22, .inl (fun _ => 0)))] ++ wl wd_C (gO b (k + 2) q9 qa ca ql cl [0, 1, 3, 5, 6] []) s0_C) := hD
  have kb1 : kb (gO b k h0 [0, 0, 0, 0, 0, 0, 0, q1, q2, q3, q4, q5, q6, 0, q8, 0, 0, 0, 0] [0, 0, 0, 0, 0, 0, 0, c1, c2, c3, c4, c5, c6, 0, c8, 0, 0, 0, 0] [0, 0, 0, 0, 0, 0, 0, 0, 0, 0, 0, 0, 0, q7, 0, 0, 0, 0, 0] [0, 0, 0, 0, 0, 0, 0, 0, 0, 0, 0, 0, 0, c7, 0, 0, 0, 0, 0] [7, 8, 9, 10, 11, 12, 14] [13]) := ⟨fun q hq => by obtain ⟨f, hf, rfl⟩ := List.mem_map.mp hq; rw [ky_div k ((by decide : ∀ f ∈ ([7, 8, 9, 10, 11, 12, 14] : List Nat), f < 100) f hf)]; exact List.mem_singleton.mpr rfl, fun q hq => by obtain ⟨f, hf, rfl⟩ := List.mem_map.mp hq; rw [ky_div k ((by decide : ∀ f ∈ ([13] : List Nat), f < 100) f hf)]; exact List.mem_singleton.mpr rfl⟩
  have kb2 : kb (gO b (k + 2) q9 qa ca ql cl [0, 1, 3, 5, 6] []) := ⟨fun q hq => by obtain ⟨f, hf, rfl⟩ := List.mem_map.mp hq; rw [ky_div (k + 2) ((by decide : ∀ f ∈ ([0, 1, 3, 5, 6] : List Nat), f < 100) f hf)]; exact List.mem_singleton.mpr rfl, fun q hq => by cases hq⟩
  have hdj : ∀ z ∈ gg_os (gO b (k + 2) q9 qa ca ql cl [0, 1, 3, 5, 6] []), z ∉ gg_os (gO b k h0 [0, 0, 0, 0, 0, 0, 0, q1, q2, q3, q4, q5, q6, 0, q8, 0, 0, 0, 0] [0, 0, 0, 0, 0, 0, 0, c1, c2, c3, c4, c5, c6, 0, c8, 0, 0, 0, 0] [0, 0, 0, 0, 0, 0, 0, 0, 0, 0, 0, 0, 0, q7, 0, 0, 0, 0, 0] [0, 0, 0, 0, 0, 0, 0, 0, 0, 0, 0, 0, 0, c7, 0, 0, 0, 0, 0] [7, 8, 9, 10, 11, 12, 14] [13]) := fun z hz h => by
    have a1 : z = k + 2 := List.mem_singleton.mp hz
    have a2 : z = k := List.mem_singleton.mp h
    omega
  generalize hgt : gM (gO b k h0 [0, 0, 0, 0, 0, 0, 0, q1, q2, q3, q4, q5, q6, 0, q8, 0, 0, 0, 0] [0, 0, 0, 0, 0, 0, 0, c1, c2, c3, c4, c5, c6, 0, c8, 0, 0, 0, 0] [0, 0, 0, 0, 0, 0, 0, 0, 0, 0, 0, 0, 0, q7, 0, 0, 0, 0, 0] [0, 0, 0, 0, 0, 0, 0, 0, 0, 0, 0, 0, 0, c7, 0, 0, 0, 0, 0] [7, 8, 9, 10, 11, 12, 14] [13]) (gO b (k + 2) q9 qa ca ql cl [0, 1, 3, 5, 6] []) = gt
  have hfl2 : ∀ z ∈ gg_os (gO b (k + 2) q9 qa ca ql cl [0, 1, 3, 5, 6] []), fl wd_C gt s0_C z = fl wd_C (gO b (k + 2) q9 qa ca ql cl [0, 1, 3, 5, 6] []) s0_C z := fun z hz => by
    have a1 : z = k + 2 := List.mem_singleton.mp hz
    subst a1
    rw [← hgt]
    show (List.range (ks_C (cl_C (k + 2))).length).map _ = (List.range (ks_C (cl_C (k + 2))).length).map _
    rw [show wk_c wd_C (k + 2) = 1 from hkl]
    have e0 : ∀ f, f < 100 → ¬ (ky (k + 2) f / 100 ∈ [k]) := fun f h => by rw [ky_div _ h, List.mem_singleton]; omega
    rw [hkl]
    simp [wk_k, wd_C, ks_C, List.range_succ, kv, gM, gO, gg_a, gg_os, ky_div]
  have hw0 : (gg_os (gO b k h0 [0, 0, 0, 0, 0, 0, 0, q1, q2, q3, q4, q5, q6, 0, q8, 0, 0, 0, 0] [0, 0, 0, 0, 0, 0, 0, c1, c2, c3, c4, c5, c6, 0, c8, 0, 0, 0, 0] [0, 0, 0, 0, 0, 0, 0, 0, 0, 0, 0, 0, 0, q7, 0, 0, 0, 0, 0] [0, 0, 0, 0, 0, 0, 0, 0, 0, 0, 0, 0, 0, c7, 0, 0, 0, 0, 0] [7, 8, 9, 10, 11, 12, 14] [13])).map (fun z => (gg_o (gO b k h0 [0, 0, 0, 0, 0, 0, 0, q1, q2, q3, q4, q5, q6, 0, q8, 0, 0, 0, 0] [0, 0, 0, 0, 0, 0, 0, c1, c2, c3, c4, c5, c6, 0, c8, 0, 0, 0, 0] [0, 0, 0, 0, 0, 0, 0, 0, 0, 0, 0, 0, 0, q7, 0, 0, 0, 0, 0] [0, 0, 0, 0, 0, 0, 0, 0, 0, 0, 0, 0, 0, c7, 0, 0, 0, 0, 0] [7, 8, 9, 10, 11, 12, 14] [13]) z, Sum.inr (wk_c wd_C z, fl wd_C gt s0_C z))) ++ ((gg_as (gO b k h0 [0, 0, 0, 0, 0, 0, 0, q1, q2, q3, q4, q5, q6, 0, q8, 0, 0, 0, 0] [0, 0, 0, 0, 0, 0, 0, c1, c2, c3, c4, c5, c6, 0, c8, 0, 0, 0, 0] [0, 0, 0, 0, 0, 0, 0, 0, 0, 0, 0, 0, 0, q7, 0, 0, 0, 0, 0] [0, 0, 0, 0, 0, 0, 0, 0, 0, 0, 0, 0, 0, c7, 0, 0, 0, 0, 0] [7, 8, 9, 10, 11, 12, 14] [13])).map (e_a wd_C (gO b k h0 [0, 0, 0, 0, 0, 0, 0, q1, q2, q3, q4, q5, q6, 0, q8, 0, 0, 0, 0] [0, 0, 0, 0, 0, 0, 0, c1, c2, c3, c4, c5, c6, 0, c8, 0, 0, 0, 0] [0, 0, 0, 0, 0, 0, 0, 0, 0, 0, 0, 0, 0, q7, 0, 0, 0, 0, 0] [0, 0, 0, 0, 0, 0, 0, 0, 0, 0, 0, 0, 0, c7, 0, 0, 0, 0, 0] [7, 8, 9, 10, 11, 12, 14] [13]) s0_C) ++ (gg_ls (gO b k h0 [0, 0, 0, 0, 0, 0, 0, q1, q2, q3, q4, q5, q6, 0, q8, 0, 0, 0, 0] [0, 0, 0, 0, 0, 0, 0, c1, c2, c3, c4, c5, c6, 0, c8, 0, 0, 0, 0] [0, 0, 0, 0, 0, 0, 0, 0, 0, 0, 0, 0, 0, q7, 0, 0, 0, 0, 0] [0, 0, 0, 0, 0, 0, 0, 0, 0, 0, 0, 0, 0, c7, 0, 0, 0, 0, 0] [7, 8, 9, 10, 11, 12, 14] [13])).map (e_l wd_C (gO b k h0 [0, 0, 0, 0, 0, 0, 0, q1, q2, q3, q4, q5, q6, 0, q8, 0, 0, 0, 0] [0, 0, 0, 0, 0, 0, 0, c1, c2, c3, c4, c5, c6, 0, c8, 0, 0, 0, 0] [0, 0, 0, 0, 0, 0, 0, 0, 0, 0, 0, 0, 0, q7, 0, 0, 0, 0, 0] [0, 0, 0, 0, 0, 0, 0, 0, 0, 0, 0, 0, 0, c7, 0, 0, 0, 0, 0] [7, 8, 9, 10, 11, 12, 14] [13]) s0_C)) = [(h0, .inr (4, [.int 0, .int 0, .int 0, .int 0, .int 0, .int 0, .int 0, .ref q1, .ref q2, .ref q3, .ref q4, .ref q5, .ref q6, .ref q7, .ref q8, .int 0, .ref q9, .int 0, .int (-1)])), (q1, .inl (c1, 24, .inl (fun _ => 0))), (q2, .inl (c2, 6, .inl (fun _ => 0))), (q3, .inl (c3, 6, .inl (fun _ => 0))), (q4, .inl (c4, 6, .inl (fun _ => 0))), (q5, .inl (c5, 8, .inl (fun _ => 0))), (q6, .inl (c6, 8, .inl (fun _ => 0))), (q8, .inl (c8, 22, .inl (fun _ => 0))), (q7, .inl (c7, 22, .inr (.inl (fun _ => 0))))] := by
    have hk4 : cl_C k = 4 := by rcases hk with rfl | rfl <;> rfl
    have hwl := gO_wl (b := b) (k := k) (h0 := h0) (qa := [0, 0, 0, 0, 0, 0, 0, q1, q2, q3, q4, q5, q6, 0, q8, 0, 0, 0, 0]) (ca := [0, 0, 0, 0, 0, 0, 0, c1, c2, c3, c4, c5, c6, 0, c8, 0, 0, 0, 0]) (ql := [0, 0, 0, 0, 0, 0, 0, 0, 0, 0, 0, 0, 0, q7, 0, 0, 0, 0, 0]) (cl := [0, 0, 0, 0, 0, 0, 0, 0, 0, 0, 0, 0, 0, c7, 0, 0, 0, 0, 0]) (af := [7, 8, 9, 10, 11, 12, 14]) (lf := [13]) (S := s0_C) hk4 (by decide) (by decide)
    have hwl2 := (List.cons.inj hwl).2
    rw [← hgt]
    show (h0, Sum.inr (cl_C k, (List.range (ks_C (cl_C k)).length).map (fun f => kv (gM (gO b k h0 [0, 0, 0, 0, 0, 0, 0, q1, q2, q3, q4, q5, q6, 0, q8, 0, 0, 0, 0] [0, 0, 0, 0, 0, 0, 0, c1, c2, c3, c4, c5, c6, 0, c8, 0, 0, 0, 0] [0, 0, 0, 0, 0, 0, 0, 0, 0, 0, 0, 0, 0, q7, 0, 0, 0, 0, 0] [0, 0, 0, 0, 0, 0, 0, 0, 0, 0, 0, 0, 0, c7, 0, 0, 0, 0, 0] [7, 8, 9, 10, 11, 12, 14] [13]) (gO b (k + 2) q9 qa ca ql cl [0, 1, 3, 5, 6] [])) s0_C k f ((ks_C (cl_C k)).getD f 0)))) :: _ = _
    rw [hk4]
    congr 1
    · have e0 : ∀ f, f < 100 → (ky k f / 100 = k) := fun f h => ky_div k h
      rcases hk with rfl | rfl <;> simp [ks_C, List.range_succ, kv, gM, gO, gg_a, gg_l, gg_o, gg_os, ky_mod, ky_div, st_I, s0_C, s0_I] <;> decide
  have hperm := gM_perm (w := wd_C) (g1 := gO b k h0 [0, 0, 0, 0, 0, 0, 0, q1, q2, q3, q4, q5, q6, 0, q8, 0, 0, 0, 0] [0, 0, 0, 0, 0, 0, 0, c1, c2, c3, c4, c5, c6, 0, c8, 0, 0, 0, 0] [0, 0, 0, 0, 0, 0, 0, 0, 0, 0, 0, 0, 0, q7, 0, 0, 0, 0, 0] [0, 0, 0, 0, 0, 0, 0, 0, 0, 0, 0, 0, 0, c7, 0, 0, 0, 0, 0] [7, 8, 9, 10, 11, 12, 14] [13]) (g2 := gO b (k + 2) q9 qa ca ql cl [0, 1, 3, 5, 6] []) (S := s0_C) rfl kb1 kb2 hdj (by rw [hgt]; exact hfl2)
  rw [hgt, hw0] at hperm
  obtain ⟨d1, d2, d3⟩ := vD_app.mp hD
  have hP8 : va_P (gg_D b) vwCl (wl wd_C gt s0_C) H := vP_perm hperm.symm (vP_app.mpr ⟨((vP_app.mp hP).1).sub [0, 1, 2, 3, 4, 5, 6, 8, 7] rfl, (vP_app.mp hP).2⟩)
  have hD8 : va_D (nwA h0 s.heap.size) (wl wd_C gt s0_C) := vD_perm hperm.symm (vD_app.mpr ⟨d1.sub [0, 1, 2, 3, 4, 5, 6, 8, 7] (by decide) rfl, d2, fun x hx => d3 x (by
    simp only [List.mem_cons, List.not_mem_nil, or_false] at hx ⊢
    rcases hx with rfl | rfl | rfl | rfl | rfl | rfl | rfl | rfl | rfl <;> simp)⟩)
  have hDD : gg_D gt = gg_D b := by rw [← hgt]; rfl
  have hK8 : va_K (gg_D gt) vwCl (tl wd_C gt) s := by
    rw [← hgt]
    exact gM_tl kb1 kb2 hdj rfl rfl (hK.sub [0, 1, 2, 3, 4, 5, 7, 6] (tys' := tl wd_C (gO b k h0 [0, 0, 0, 0, 0, 0, 0, q1, q2, q3, q4, q5, q6, 0, q8, 0, 0, 0, 0] [0, 0, 0, 0, 0, 0, 0, c1, c2, c3, c4, c5, c6, 0, c8, 0, 0, 0, 0] [0, 0, 0, 0, 0, 0, 0, 0, 0, 0, 0, 0, 0, q7, 0, 0, 0, 0, 0] [0, 0, 0, 0, 0, 0, 0, 0, 0, 0, 0, 0, 0, c7, 0, 0, 0, 0, 0] [7, 8, 9, 10, 11, 12, 14] [13])) (by rw [gO_tl (b := b) (k := k) (h0 := h0) (qa := [0, 0, 0, 0, 0, 0, 0, q1, q2, q3, q4, q5, q6, 0, q8, 0, 0, 0, 0]) (ca := [0, 0, 0, 0, 0, 0, 0, c1, c2, c3, c4, c5, c6, 0, c8, 0, 0, 0, 0]) (ql := [0, 0, 0, 0, 0, 0, 0, 0, 0, 0, 0, 0, 0, q7, 0, 0, 0, 0, 0]) (cl := [0, 0, 0, 0, 0, 0, 0, 0, 0, 0, 0, 0, 0, c7, 0, 0, 0, 0, 0]) (af := [7, 8, 9, 10, 11, 12, 14]) (lf := [13]) (by decide) (by decide)]; rfl)) hK1
  have hgd : gd wd_C gt := gd_C (by
    rw [← hgt]
    rcases hk with rfl | rfl
    · exact ⟨(by decide : ([2, 4] : List Nat).Nodup), (by decide : (([7, 8, 9, 10, 11, 12, 14] : List Nat).map (ky 2) ++ ([0, 1, 3, 5, 6] : List Nat).map (ky 4)).Nodup), (by decide : (([13] : List Nat).map (ky 2) ++ ([] : List Nat).map (ky 4)).Nodup)⟩
    · exact ⟨(by decide : ([3, 5] : List Nat).Nodup), (by decide : (([7, 8, 9, 10, 11, 12, 14] : List Nat).map (ky 3) ++ ([0, 1, 3, 5, 6] : List Nat).map (ky 5)).Nodup), (by decide : (([13] : List Nat).map (ky 3) ++ ([] : List Nat).map (ky 5)).Nodup)⟩) hD8
  have hk4 : cl_C k = 4 := by rcases hk with rfl | rfl <;> rfl
  have hT0 : hT gt k := by
    rw [← hgt]
    exact ⟨⟨hk4, List.mem_cons_self, fun f h => List.mem_append_left _ (List.mem_map_of_mem (k2_4 f h)), fun f h => List.mem_append_left _ (List.mem_map_of_mem (k3_4 f h)), fun f h => absurd h (k4_4 f)⟩, ⟨hkl, List.mem_append_right _ List.mem_cons_self, fun f h => List.mem_append_right _ (List.mem_map_of_mem (k2_1 f h)), fun f h => absurd h (k3_1 f), fun f h => absurd h (k4_1 f)⟩⟩
  have hgo : gg_o gt k = h0 := by
    rw [← hgt]
    show (if k ∈ [k] then h0 else _) = h0
    rw [if_pos (List.mem_singleton.mpr rfl)]
  have hkn : kn gt b := by rw [← hgt]; exact ⟨rfl, rfl, rfl, rfl⟩
  have hM := k_X4_clear l gt hgd k hT0 s0_C S1 hf
  rw [hgo] at hM
  have hF2 : ∀ q, aw gt q → nwA h0 s.heap.size q := wA_sub hD8
  refine lv_aload_n hx hb dX4_init_84 rfl (lv_at hl 0 rfl) ?_
  obtain ⟨m1, m2, m3, m4, m5, m6⟩ := lk_X4_48
  refine va_callv (va_runV (Ts := gw_tbl) (As := []) (rest := []) ⟨hx, hb, hml, hown, hts⟩ hM ⟨callB_of 0 hts (gw_inG m5) rfl rfl rfl (hts _ m4) (hts _ m1) m6 ⟨Nat.le_of_ble_eq_true rfl, Nat.le_of_ble_eq_true rfl⟩, hts _ m2, hts _ m3⟩ ⟨wI_blind hgd, va_recv hK hP (ci := 4) (q0 := 0) rfl rfl, fun U hU hW => ⟨rfl, by rw [hU, hDD]; exact hP8, va_K.moved hW.alike hK8, cs_narrow hkn.2.1 hkn.2.2.1 hkn.2.2.2 hF2 (cs_warm b _ s U hW (by rw [hU]; exact hS.2.1) hcs)⟩⟩ rfl rfl hl.1 rfl (lv_room (Nat.le_of_ble_eq_true rfl)) dX4_init_85 ⟨Nat.le_of_ble_eq_true rfl, Nat.le_of_ble_eq_true rfl⟩) hS (fun q _ h => hF2 q h) hF2 (fun u t H1 locs1 ht hvm hw hB hz1 hk1 hS => ?_)
  refine W.vret hx hb hr (fun t2 ht2 hW => ⟨⟨(gt, S1), rfl, ⟨⟨⟨hgd, hT0, by rw [← hgt]; exact gM_kb kb1 kb2, hkn, hgo, by rw [← hgt]; rfl, by rw [← hgt]; rfl⟩, rfl⟩, wD_any hD8 S1⟩, ?_, ?_⟩, hS.F ht2⟩) hS.2.2 dX4_init_88
  · rw [ht2, ← ht]
    exact hB.1
  · exact va_K.moved hW.alike hK8
theorem dX3_init_0 : decode cX3_init 0 = .ok (.aload_n 0, 1) := by decide +kernel
theorem dX3_init_1 : decode cX3_init 1 = .ok (.invokespecial 3, 3) := by decide +kernel
theorem dX3_init_4 : decode cX3_init 4 = .ok (.aload_n 0, 1) := by decide +kernel
theorem dX3_init_5 : decode cX3_init 5 = .ok (.bipush 17, 2) := by decide +kernel
theorem dX3_init_7 : decode cX3_init 7 = .ok (.newarray .long, 2) := by decide +kernel
theorem dX3_init_9 : decode cX3_init 9 = .ok (.putfield 11, 3) := by decide +kernel
theorem dX3_init_12 : decode cX3_init 12 = .ok (.aload_n 0, 1) := by decide +kernel
theorem dX3_init_13 : decode cX3_init 13 = .ok (.sipush 400, 3) := by decide +kernel
theorem dX3_init_16 : decode cX3_init 16 = .ok (.newarray .int, 2) := by decide +kernel
theorem dX3_init_18 : decode cX3_init 18 = .ok (.putfield 15, 3) := by decide +kernel
theorem dX3_init_21 : decode cX3_init 21 = .ok (.aload_n 0, 1) := by decide +kernel
theorem dX3_init_22 : decode cX3_init 22 = .ok (.sipush 400, 3) := by decide +kernel
theorem dX3_init_25 : decode cX3_init 25 = .ok (.newarray .int, 2) := by decide +kernel
theorem dX3_init_27 : decode cX3_init 27 = .ok (.putfield 19, 3) := by decide +kernel
theorem dX3_init_30 : decode cX3_init 30 = .ok (.aload_n 0, 1) := by decide +kernel
theorem dX3_init_31 : decode cX3_init 31 = .ok (.sipush 400, 3) := by decide +kernel
theorem dX3_init_34 : decode cX3_init 34 = .ok (.newarray .long, 2) := by decide +kernel
theorem dX3_init_36 : decode cX3_init 36 = .ok (.putfield 22, 3) := by decide +kernel
theorem dX3_init_39 : decode cX3_init 39 = .ok (.aload_n 0, 1) := by decide +kernel
theorem dX3_init_40 : decode cX3_init 40 = .ok (.iconst (-1), 1) := by decide +kernel
theorem dX3_init_41 : decode cX3_init 41 = .ok (.putfield 25, 3) := by decide +kernel
theorem dX3_init_44 : decode cX3_init 44 = .ok (.aload_n 0, 1) := by decide +kernel
theorem dX3_init_45 : decode cX3_init 45 = .ok (.getstatic 29, 3) := by decide +kernel
theorem dX3_init_48 : decode cX3_init 48 = .ok (.arraylength, 1) := by decide +kernel
theorem dX3_init_49 : decode cX3_init 49 = .ok (.newarray .int, 2) := by decide +kernel
theorem dX3_init_51 : decode cX3_init 51 = .ok (.putfield 32, 3) := by decide +kernel
theorem dX3_init_54 : decode cX3_init 54 = .ok (.iconst 0, 1) := by decide +kernel
theorem dX3_init_55 : decode cX3_init 55 = .ok (.istore_n 1, 1) := by decide +kernel
theorem dX3_init_56 : decode cX3_init 56 = .ok (.iconst 0, 1) := by decide +kernel
theorem dX3_init_57 : decode cX3_init 57 = .ok (.istore_n 2, 1) := by decide +kernel
theorem dX3_init_58 : decode cX3_init 58 = .ok (.iconst 0, 1) := by decide +kernel
theorem dX3_init_59 : decode cX3_init 59 = .ok (.istore_n 3, 1) := by decide +kernel
theorem dX3_init_60 : decode cX3_init 60 = .ok (.iload_n 3, 1) := by decide +kernel
theorem dX3_init_61 : decode cX3_init 61 = .ok (.ldc 35, 2) := by decide +kernel
theorem dX3_init_63 : decode cX3_init 63 = .ok (.invokevirtual 37, 3) := by decide +kernel
theorem dX3_init_66 : decode cX3_init 66 = .ok (.if_icmp .ge 40, 3) := by decide +kernel
theorem dX3_init_69 : decode cX3_init 69 = .ok (.ldc 35, 2) := by decide +kernel
theorem dX3_init_71 : decode cX3_init 71 = .ok (.iload_n 3, 1) := by decide +kernel
theorem dX3_init_72 : decode cX3_init 72 = .ok (.invokevirtual 43, 3) := by decide +kernel
theorem dX3_init_75 : decode cX3_init 75 = .ok (.bipush 32, 2) := by decide +kernel
theorem dX3_init_77 : decode cX3_init 77 = .ok (.if_icmp .ne 23, 3) := by decide +kernel
theorem dX3_init_80 : decode cX3_init 80 = .ok (.aload_n 0, 1) := by decide +kernel
theorem dX3_init_81 : decode cX3_init 81 = .ok (.getfield 11, 3) := by decide +kernel
theorem dX3_init_84 : decode cX3_init 84 = .ok (.iload_n 2, 1) := by decide +kernel
theorem dX3_init_85 : decode cX3_init 85 = .ok (.iload_n 1, 1) := by decide +kernel
theorem dX3_init_86 : decode cX3_init 86 = .ok (.iload_n 3, 1) := by decide +kernel
theorem dX3_init_87 : decode cX3_init 87 = .ok (.invokestatic 47, 3) := by decide +kernel
theorem dX3_init_90 : decode cX3_init 90 = .ok (.invokestatic 51, 3) := by decide +kernel
theorem dX3_init_93 : decode cX3_init 93 = .ok (.iinc 2 1, 3) := by decide +kernel
theorem dX3_init_96 : decode cX3_init 96 = .ok (.iload_n 3, 1) := by decide +kernel
theorem dX3_init_97 : decode cX3_init 97 = .ok (.iconst 1, 1) := by decide +kernel
theorem dX3_init_98 : decode cX3_init 98 = .ok (.iadd, 1) := by decide +kernel
theorem dX3_init_99 : decode cX3_init 99 = .ok (.istore_n 1, 1) := by decide +kernel
theorem dX3_init_100 : decode cX3_init 100 = .ok (.iinc 3 1, 3) := by decide +kernel
theorem dX3_init_103 : decode cX3_init 103 = .ok (.goto (-43), 3) := by decide +kernel
theorem dX3_init_106 : decode cX3_init 106 = .ok (.return_, 1) := by decide +kernel
def f_X3_init_L60  (z60 : Int32 × Int32 × Int32 × St) : Option ((Int32 × Int32 × Int32 × St) ⊕ (St)) :=
  (f_J0_length_8abf5 0 ).bind (fun (q1 : Int32) => if q1 ≤ z60.2.2.1 then (some (.inr z60.2.2.2)) else ((f_J0_charAt_5068e 0 z60.2.2.1).bind (fun (q3 : Int32) => if q3 = (32 : Int32) then ((f_X3_codeOfWord   z60.1 z60.2.2.1).bind (fun (q5 : Int64) => (f_X5_putLong (ky 1 0) z60.2.2.2 z60.2.1 q5).bind (fun (q6 : St) => some (.inl ((z60.2.2.1 + (1 : Int32)), (z60.2.1 + 1), (z60.2.2.1 + 1), q6))))) else (some (.inl (z60.1, z60.2.1, (z60.2.2.1 + 1), z60.2.2.2))))))
def f_X3_init (S : St)  : Option (St) :=
  iter (f_X3_init_L60   ) FU ((0 : Int32), (0 : Int32), (0 : Int32), S)
abbrev rm_X3_init : Room := { frames := 8, cells := 5, slots := 1225, locals := 200 }
set_option maxRecDepth 100000 in
set_option maxHeartbeats 4000000 in
theorem kt_X3_init {p : Program} {l : Launch} {e : Env} {s : State} {m : MethodId} {args : Array Value} {below : List Frame} {meth : Method} {c : Code} {H : Heap} {locs : List Loc} {ls : Array Slot} {g : GG} (hg : gd wd_C g) (cx : CX wd_C g p s m args c cX3_init 4 RX3) (h1 : hs wd_C g 1 3) {S : St} (hw : HH wd_C g s S H locs) (hr : meth.sig.returnType = none) (hlk : meth.locks = false) (hl : lv_has ls 4 [(0, .ref (gg_o g 1))]) {q : St} (hf : f_X3_init  S  = some q) : W p l e rm_X3_init s m args below meth c H locs 5 1225 (MQ below (qc_v wd_C g q) args s 5 1225 (aw g)) (F0 m 54 ls []) := by
  have hx := cx.1
  have hb := cx.2.1
  have hown := cx.2.2.2.1
  have hts := cx.2.2.2.2.1
  replace hf := h_top hf
  unfold f_X3_init at hf
  refine lv_iconst (v := 0) hx hb dX3_init_54 (by decide) ?_
  refine lv_istore_n hx hb dX3_init_55 rfl hl (by decide) (lv' := [(1, .int (0 : Int32)), (0, .ref (gg_o g 1))]) rfl (fun ls hl => ?_)
  refine lv_iconst (v := 0) hx hb dX3_init_56 (by decide) ?_
  refine lv_istore_n hx hb dX3_init_57 rfl hl (by decide) (lv' := [(2, .int (0 : Int32)), (1, .int (0 : Int32)), (0, .ref (gg_o g 1))]) rfl (fun ls hl => ?_)
  refine lv_iconst (v := 0) hx hb dX3_init_58 (by decide) ?_
  refine lv_istore_n hx hb dX3_init_59 rfl hl (by decide) (lv' := [(3, .int (0 : Int32)), (2, .int (0 : Int32)), (1, .int (0 : Int32)), (0, .ref (gg_o g 1))]) rfl (fun ls hl => ?_)
  have L60 : ∀  (aft60 : St → Option (St)), (∀ v : St, aft60 v = some q → (some v : Option (St)).bind some = some q) → ∀ (n60 : Nat) (ls : Array Slot) (H : Heap) (locs : List Loc) (z60 : Int32 × Int32 × Int32 × St), lv_has ls 4 [(0, .ref (gg_o g 1)), (1, .int z60.1), (2, .int z60.2.1), (3, .int z60.2.2.1)] → HH wd_C g s z60.2.2.2 H locs → (iter (f_X3_init_L60   ) n60 z60).bind aft60 = some q → W p l e rm_X3_init s m args below meth c H locs 5 1225 (MQ below (qc_v wd_C g q) args s 5 1225 (aw g)) (F0 m 60 ls []) := by
    intro aft60 hR60 n60
    induction n60 with
    | zero => intro ls H locs z60 hl hw hf; exact h_iter0 hf
    | succ n60 ih60 =>
      intro ls H locs z60 hl hw hf
      replace hf := h_iter hf
      unfold f_X3_init_L60 at hf
      refine lv_iload_n hx hb dX3_init_60 rfl (lv_at hl 3 rfl) ?_
      refine va_ldcS hx hb hown (st_R cx 0 rfl) dX3_init_61 ?_
      refine r_VR_i (As := []) (rest := [.int z60.2.2.1]) cx hw hf (r_srecv cx hw (by decide)) lk_X3_37 (fun q1 hq => k_J0_length_8abf5 l g hg 0 (by decide) z60.2.2.2  q1 hq) ⟨⟨rfl, rfl⟩, Nat.le_of_ble_eq_true rfl, Nat.le_of_ble_eq_true rfl⟩ rfl hl.1 rfl (Nat.le_of_ble_eq_true rfl) dX3_init_63 ⟨Nat.le_of_ble_eq_true rfl, Nat.le_of_ble_eq_true rfl⟩ (fun q1 H locs hw hf => ?_)
      refine lv_icmp_ge hx hb dX3_init_66 (tgt := 106) rfl (fun hc2 => ?_) (fun hc2 => ?_)
      · replace hf := h_pos hc2 hf
        replace hf := hR60 z60.2.2.2 hf
        exact r_vret cx hw hr hlk hf dX3_init_106
      replace hf := h_neg hc2 hf
      refine va_ldcS hx hb hown (st_R cx 0 rfl) dX3_init_69 ?_
      refine lv_iload_n hx hb dX3_init_71 rfl (lv_at hl 3 rfl) ?_
      refine r_VR_i (As := [.int z60.2.2.1]) (rest := []) cx hw hf (r_srecv cx hw (by decide)) lk_X3_43 (fun q3 hq => k_J0_charAt_5068e l g hg 0 (by decide) z60.2.2.2 z60.2.2.1 q3 hq) ⟨⟨rfl, rfl⟩, Nat.le_of_ble_eq_true rfl, Nat.le_of_ble_eq_true rfl⟩ rfl hl.1 rfl (Nat.le_of_ble_eq_true rfl) dX3_init_72 ⟨Nat.le_of_ble_eq_true rfl, Nat.le_of_ble_eq_true rfl⟩ (fun q3 H locs hw hf => ?_)
      refine lv_bipush (v := 32) hx hb dX3_init_75 (by decide) ?_
      refine lv_icmp_ne hx hb dX3_init_77 (tgt := 100) rfl (fun hc4 => ?_) (fun hc4 => ?_)
      · replace hf := h_neg hc4 hf
        refine lv_iinc hx hb dX3_init_100 hl (k := 3) rfl (congrArg (HAdd.hAdd _) (show Int32.ofInt (1) = 1 by decide)) (by decide) (lv' := [(3, .int (z60.2.2.1 + 1)), (0, .ref (gg_o g 1)), (1, .int z60.1), (2, .int z60.2.1)]) rfl (fun ls hl => ?_)
        refine lv_goto hx hb dX3_init_103 (tgt := 60) rfl ?_
        exact ih60 _ _ _ (z60.1, z60.2.1, (z60.2.2.1 + 1), z60.2.2.2) (lv_sub hl [1, 2, 3, 0] rfl) hw hf
      replace hf := h_pos hc4 hf
      refine lv_aload_n hx hb dX3_init_80 rfl (lv_at hl 0 rfl) ?_
      refine gf_X3_11 cx hw h1 dX3_init_81 ?_
      refine lv_iload_n hx hb dX3_init_84 rfl (lv_at hl 2 rfl) ?_
      refine lv_iload_n hx hb dX3_init_85 rfl (lv_at hl 1 rfl) ?_
      refine lv_iload_n hx hb dX3_init_86 rfl (lv_at hl 3 rfl) ?_
      refine r_S_l (As := [.int z60.1, .int z60.2.2.1]) (rest := [.int z60.2.1, .ref (gg_l g (ky 1 0))]) cx hw hf lk_X3_47 (fun q5 hq => k_X3_codeOfWord l g hg   z60.2.2.2 z60.1 z60.2.2.1 q5 hq) ⟨⟨rfl, rfl⟩, Nat.le_of_ble_eq_true rfl, Nat.le_of_ble_eq_true rfl⟩ rfl hl.1 rfl (Nat.le_of_ble_eq_true rfl) dX3_init_87 ⟨Nat.le_of_ble_eq_true rfl, Nat.le_of_ble_eq_true rfl⟩ (fun q5 H locs hw hf => ?_)
      refine r_SN_v (As := [.ref (gg_l g (ky 1 0)), .int z60.2.1, .long q5]) (rest := []) cx hw hf (nw_at cx) lk_X3_51 (fun q6 hq => k_X5_putLong l g hg (ky 1 0) (h1.2.2.2.1 0 rfl) z60.2.2.2 z60.2.1 q5 q6 hq) ⟨⟨rfl, rfl⟩, Nat.le_of_ble_eq_true rfl, Nat.le_of_ble_eq_true rfl⟩ rfl hl.1 rfl (Nat.le_of_ble_eq_true rfl) dX3_init_90 ⟨Nat.le_of_ble_eq_true rfl, Nat.le_of_ble_eq_true rfl⟩ (fun q6 H locs hw hf => ?_)
      refine lv_iinc hx hb dX3_init_93 hl (k := 2) rfl (congrArg (HAdd.hAdd _) (show Int32.ofInt (1) = 1 by decide)) (by decide) (lv' := [(2, .int (z60.2.1 + 1)), (0, .ref (gg_o g 1)), (1, .int z60.1), (3, .int z60.2.2.1)]) rfl (fun ls hl => ?_)
      refine lv_iload_n hx hb dX3_init_96 rfl (lv_at hl 3 rfl) ?_
      refine lv_iconst (v := 1) hx hb dX3_init_97 (by decide) ?_
      refine lv_iadd hx hb dX3_init_98 ?_
      refine lv_istore_n hx hb dX3_init_99 rfl hl (by decide) (lv' := [(1, .int (z60.2.2.1 + (1 : Int32))), (2, .int (z60.2.1 + 1)), (0, .ref (gg_o g 1)), (3, .int z60.2.2.1)]) rfl (fun ls hl => ?_)
      refine lv_iinc hx hb dX3_init_100 hl (k := 3) rfl (congrArg (HAdd.hAdd _) (show Int32.ofInt (1) = 1 by decide)) (by decide) (lv' := [(3, .int (z60.2.2.1 + 1)), (1, .int (z60.2.2.1 + (1 : Int32))), (2, .int (z60.2.1 + 1)), (0, .ref (gg_o g 1))]) rfl (fun ls hl => ?_)
      refine lv_goto hx hb dX3_init_103 (tgt := 60) rfl ?_
      exact ih60 _ _ _ ((z60.2.2.1 + (1 : Int32)), (z60.2.1 + 1), (z60.2.2.1 + 1), q6) (lv_sub hl [3, 1, 2, 0] rfl) hw hf
  exact L60 some (fun v h => h) FU _ _ _ ((0 : Int32), (0 : Int32), (0 : Int32), S) (lv_sub hl [3, 2, 1, 0] rfl) hw hf
theorem k2_3 : ∀ f : Nat, (ks_C 3)[f]? = some 2 → f ∈ [1, 2, 7] := fun f h => (by decide : ∀ f < 15, (ks_C 3)[f]? = some 2 → f ∈ [1, 2, 7]) f (List.getElem?_eq_some_iff.mp h).1 h
theorem k3_3 : ∀ f : Nat, (ks_C 3)[f]? = some 3 → f ∈ [0, 3] := fun f h => (by decide : ∀ f < 15, (ks_C 3)[f]? = some 3 → f ∈ [0, 3]) f (List.getElem?_eq_some_iff.mp h).1 h
theorem k4_3 : ∀ f : Nat, ¬ (ks_C 3)[f]? = some 4 := fun f h => (by decide : ∀ f < 15, ¬ (ks_C 3)[f]? = some 4) f (List.getElem?_eq_some_iff.mp h).1 h
def scp (b : GG) (h0 : Nat) (g : GG) : Prop := gd wd_C g ∧ hs wd_C g 1 3 ∧ kb g ∧ kn g b ∧ gg_o g 1 = h0 ∧ gg_os g = [1] ∧ gg_qs g = []
set_option maxRecDepth 100000 in
set_option maxHeartbeats 8000000 in
theorem c_X3_init (l : Launch) (b : GG) (h0 sz : Nat) (S1 : St) (hf : f_X3_init s0_C = some S1) : Met l yX3_init (Cond.code yX3_init cX3_init 4 none :: gw_tbl) rm_X3_init (va_Pc [.ref h0] (pr_n b h0 sz 3 [.null, .null, .null, .null, .int 0, .int 0, .long 0, .null, .int 0, .int 0, .int 0, .int 0, .int 0, .int 0, .int 0])) (qc_n h0 sz (fun g S => scp b h0 g ∧ S = S1)) 5 1225 (nwA h0 sz) := by
  refine Met.ofW (cc := cX3_init) (maxL := 4) (ret := none) (by decide) rfl ?_
  intro p e s m args below meth c s₁ B hml hv
  obtain ⟨rfl, hsz, hP, hK, hcs⟩ := hv
  have hx := B.exec
  have hb := B.bytes
  have hr := B.returns
  have hts0 := atoms_spec (ws := Cond.code yX3_init cX3_init 4 none :: gw_tbl) B.pre
  have hts : ∀ z ∈ gw_tbl, z.before _ s = true := fun z hz => hts0 z (List.mem_cons_of_mem _ hz)
  have hown : s.vm.findClass RX3 = some m.cls := findClass_of_methodNamed B.named
  have hlocks := B.notSynchronized
  have hin : meth.name = "<init>" := (name_of_methodNamed B.named B.method).1
  subst hsz
  have hA : ∀ q : Nat, s.heap.size ≤ q → nwA h0 s.heap.size q := fun q h => Or.inr h
  have hD : va_D (nwA h0 s.heap.size) [(h0, .inr (3, [.null, .null, .null, .null, .int 0, .int 0, .long 0, .null, .int 0, .int 0, .int 0, .int 0, .int 0, .int 0, .int 0]))] := vD_iff.mpr ⟨by simp, fun x hx => by rw [List.mem_singleton.mp hx]; exact Or.inl rfl⟩
  have hS : va_S (nwA h0 s.heap.size) s.heap s.heap [] := va_S.rf
  have hl := lv_entry ([.ref h0]) (n := 4) (Nat.le_of_ble_eq_true rfl)
  rw [lg_entry_eq]
  generalize (lg_sl ([.ref h0]) ++ List.replicate (4 - (lg_sl ([.ref h0])).length) Slot.unset).toArray = ls at hl ⊢
  have hl : lv_has ls 4 [(0, .ref h0)] := hl
  refine lv_aload_n hx hb dX3_init_0 rfl (lv_at hl 0 rfl) ?_
  refine W.objInit hx hb hown (hts _ wd_29) (hts _ wd_22) (hts _ wd_23) rfl (by rw [hml]; exact hl.1) rfl dX3_init_1 (Nat.le_of_ble_eq_true rfl) (Nat.le_of_ble_eq_true rfl) ?_
  refine W.eq (g2 := F0 m 4 ls []) rfl ?_
  refine lv_aload_n hx hb dX3_init_4 rfl (lv_at hl 0 rfl) ?_
  refine lv_bipush (v := 17) hx hb dX3_init_5 (by decide) ?_
  refine va_newa (atype := .long) hx hb (hts _ wd_149) (ty := .long) rfl hK hP hD hS hA (N' := 17) (a0 := (17, .inr (.inl (fun _ => 0)))) (fun _ => rfl) (by decide) (by decide) (Nat.le_of_ble_eq_true rfl) (Nat.le_of_ble_eq_true rfl) (Nat.le_of_ble_eq_true rfl) dX3_init_7 (fun q1 c1 H hK hP hD hS => ?_)
  have hP : va_P (gg_D b) vwCl [(h0, .inr (3, [.null, .null, .null, .null, .int 0, .int 0, .long 0, .null, .int 0, .int 0, .int 0, .int 0, .int 0, .int 0, .int 0])), (q1, .inl (c1, 17, .inr (.inl (fun _ => 0))))] H := hP
  have hD : va_D (nwA h0 s.heap.size) [(h0, .inr (3, [.null, .null, .null, .null, .int 0, .int 0, .long 0, .null, .int 0, .int 0, .int 0, .int 0, .int 0, .int 0, .int 0])), (q1, .inl (c1, 17, .inr (.inl (fun _ => 0))))] := hD
  have hK : va_K (gg_D b) vwCl [(c1, FieldType.long)] s := hK
  refine va_putF (D := gg_D b) (ci := 3) (v := .ref q1) (ty := (.array .long)) (C := RX3) (T := TX3) (N := 15) hx hb hts in_X3 tyX3 tyX3_ok nmX3 hown hK hP hD hS 0 rfl rfl 0 (by decide) (hts _ wd_94) (fun _ h9 => h9) rfl hin rfl (by decide +kernel) rfl rfl (Nat.le_of_ble_eq_true rfl) dX3_init_9 (fun H locs hP hD hS => ?_)
  have hP : va_P (gg_D b) vwCl [(h0, .inr (3, [.ref q1, .null, .null, .null, .int 0, .int 0, .long 0, .null, .int 0, .int 0, .int 0, .int 0, .int 0, .int 0, .int 0])), (q1, .inl (c1, 17, .inr (.inl (fun _ => 0))))] H := hP
  have hD : va_D (nwA h0 s.heap.size) [(h0, .inr (3, [.ref q1, .null, .null, .null, .int 0, .int 0, .long 0, .null, .int 0, .int 0, .int 0, .int 0, .int 0, .int 0, .int 0])), (q1, .inl (c1, 17, .inr (.inl (fun _ => 0))))] := hD
  refine lv_aload_n hx hb dX3_init_12 rfl (lv_at hl 0 rfl) ?_
  refine lv_sipush (v := 400) hx hb dX3_init_13 (by decide) ?_
  refine va_newa (atype := .int) hx hb (hts _ wd_148) (ty := .int) rfl hK hP hD hS hA (N' := 400) (a0 := (400, .inl (fun _ => 0))) (fun _ => rfl) (by decide) (by decide) (Nat.le_of_ble_eq_true rfl) (Nat.le_of_ble_eq_true rfl) (Nat.le_of_ble_eq_true rfl) dX3_init_16 (fun q2 c2 H hK hP hD hS => ?_)
  have hP : va_P (gg_D b) vwCl [(h0, .inr (3, [.ref q1, .null, .null, .null, .int 0, .int 0, .long 0, .null, .int 0, .int 0, .int 0, .int 0, .int 0, .int 0, .int 0])), (q1, .inl (c1, 17, .inr (.inl (fun _ => 0)))), (q2, .inl (c2, 400, .inl (fun _ => 0)))] H := hP
  have hD : va_D (nwA h0 s.heap.size) [(h0, .inr (3, [.ref q1, .null, .null, .null, .int 0, .int 0, .long 0, .null, .int 0, .int 0, .int 0, .int 0, .int 0, .int 0, .int 0])), (q1, .inl (c1, 17, .inr (.inl (fun _ => 0)))), (q2, .inl (c2, 400, .inl (fun _ => 0)))] := hD
  have hK : va_K (gg_D b) vwCl [(c1, FieldType.long), (c2, FieldType.int)] s := hK
  refine va_putF (D := gg_D b) (ci := 3) (v := .ref q2) (ty := (.array .int)) (C := RX3) (T := TX3) (N := 15) hx hb hts in_X3 tyX3 tyX3_ok nmX3 hown hK hP hD hS 0 rfl rfl 1 (by decide) (hts _ wd_95) (fun _ h9 => h9) rfl hin rfl (by decide +kernel) rfl rfl (Nat.le_of_ble_eq_true rfl) dX3_init_18 (fun H locs hP hD hS => ?_)
  have hP : va_P (gg_D b) vwCl [(h0, .inr (3, [.ref q1, .ref q2, .null, .null, .int 0, .int 0, .long 0, .null, .int 0, .int 0, .int 0, .int 0, .int 0, .int 0, .int 0])), (q1, .inl (c1, 17, .inr (.inl (fun _ => 0)))), (q2, .inl (c2, 400, .inl (fun _ => 0)))] H := hP
  have hD : va_D (nwA h0 s.heap.size) [(h0, .inr (3, [.ref q1, .ref q2, .null, .null, .int 0, .int 0, .long 0, .null, .int 0, .int 0, .int 0, .int 0, .int 0, .int 0, .int 0])), (q1, .inl (c1, 17, .inr (.inl (fun _ => 0)))), (q2, .inl (c2, 400, .inl (fun _ => 0)))] := hD
  refine lv_aload_n hx hb dX3_init_21 rfl (lv_at hl 0 rfl) ?_
  refine lv_sipush (v := 400) hx hb dX3_init_22 (by decide) ?_
  refine va_newa (atype := .int) hx hb (hts _ wd_148) (ty := .int) rfl hK hP hD hS hA (N' := 400) (a0 := (400, .inl (fun _ => 0))) (fun _ => rfl) (by decide) (by decide) (Nat.le_of_ble_eq_true rfl) (Nat.le_of_ble_eq_true rfl) (Nat.le_of_ble_eq_true rfl) dX3_init_25 (fun q3 c3 H hK hP hD hS => ?_)
  have hP : va_P (gg_D b) vwCl [(h0, .inr (3, [.ref q1, .ref q2, .null, .null, .int 0, .int 0, .long 0, .null, .int 0, .int 0, .int 0, .int 0, .int 0, .int 0, .int 0])), (q1, .inl (c1, 17, .inr (.inl (fun _ => 0)))), (q2, .inl (c2, 400, .inl (fun _ => 0))), (q3, .inl (c3, 400, .inl (fun _ => 0)))] H := hP
  have hD : va_D (nwA h0 s.heap.size) [(h0, .inr (3, [.ref q1, .ref q2, .null, .null, .int 0, .int 0, .long 0, .null, .int 0, .int 0, .int 0, .int 0, .int 0, .int 0, .int 0])), (q1, .inl (c1, 17, .inr (.inl (fun _ => 0)))), (q2, .inl (c2, 400, .inl (fun _ => 0))), (q3, .inl (c3, 400, .inl (fun _ => 0)))] := hD
  have hK : va_K (gg_D b) vwCl [(c1, FieldType.long), (c2, FieldType.int), (c3, FieldType.int)] s := hK
  refine va_putF (D := gg_D b) (ci := 3) (v := .ref q3) (ty := (.array .int)) (C := RX3) (T := TX3) (N := 15) hx hb hts in_X3 tyX3 tyX3_ok nmX3 hown hK hP hD hS 0 rfl rfl 2 (by decide) (hts _ wd_98) (fun _ h9 => h9) rfl hin rfl (by decide +kernel) rfl rfl (Nat.le_of_ble_eq_true rfl) dX3_init_27 (fun H locs hP hD hS => ?_)
  have hP : va_P (gg_D b) vwCl [(h0, .inr (3, [.ref q1, .ref q2, .ref q3, .null, .int 0, .int 0, .long 0, .null, .int 0, .int 0, .int 0, .int 0, .int 0, .int 0, .int 0])), (q1, .inl (c1, 17, .inr (.inl (fun _ => 0)))), (q2, .inl (c2, 400, .inl (fun _ => 0))), (q3, .inl (c3, 400, .inl (fun _ => 0)))] H := hP
  have hD : va_D (nwA h0 s.heap.size) [(h0, .inr (3, [.ref q1, .ref q2, .ref q3, .null, .int 0, .int 0, .long 0, .null, .int 0, .int 0, .int 0, .int 0, .int 0, .int 0, .int 0])), (q1, .inl (c1, 17, .inr (.inl (fun _ => 0)))), (q2, .inl (c2, 400, .inl (fun _ => 0))), (q3, .inl (c3, 400, .inl (fun _ => 0)))] := hD
  refine lv_aload_n hx hb dX3_init_30 rfl (lv_at hl 0 rfl) ?_
  refine lv_sipush (v := 400) hx hb dX3_init_31 (by decide) ?_
  refine va_newa (atype := .long) hx hb (hts _ wd_149) (ty := .long) rfl hK hP hD hS hA (N' := 400) (a0 := (400, .inr (.inl (fun _ => 0)))) (fun _ => rfl) (by decide) (by decide) (Nat.le_of_ble_eq_true rfl) (Nat.le_of_ble_eq_true rfl) (Nat.le_of_ble_eq_true rfl) dX3_init_34 (fun q4 c4 H hK hP hD hS => ?_)
  have hP : va_P (gg_D b) vwCl [(h0, .inr (3, [.ref q1, .ref q2, .ref q3, .null, .int 0, .int 0, .long 0, .null, .int 0, .int 0, .int 0, .int 0, .int 0, .int 0, .int 0])), (q1, .inl (c1, 17, .inr (.inl (fun _ => 0)))), (q2, .inl (c2, 400, .inl (fun _ => 0))), (q3, .inl (c3, 400, .inl (fun _ => 0))), (q4, .inl (c4, 400, .inr (.inl (fun _ => 0))))] H := hP
  have hD : va_D (nwA h0 s.heap.size) [(h0, .inr (3, [.ref q1, .ref q2, .ref q3, .null, .int 0, .int 0, .long 0, .null, .int 0, .int 0, .int 0, .int 0, .int 0, .int 0, .int 0])), (q1, .inl (c1, 17, .inr (.inl (fun _ => 0)))), (q2, .inl (c2, 400, .inl (fun _ => 0))), (q3, .inl (c3, 400, .inl (fun _ => 0))), (q4, .inl (c4, 400, .inr (.inl (fun _ => 0))))] := hD
  have hK : va_K (gg_D b) vwCl [(c1, FieldType.long), (c2, FieldType.int), (c3, FieldType.int), (c4, FieldType.long)] s := hK
  refine va_putF (D := gg_D b) (ci := 3) (v := .ref q4) (ty := (.array .long)) (C := RX3) (T := TX3) (N := 15) hx hb hts in_X3 tyX3 tyX3_ok nmX3 hown hK hP hD hS 0 rfl rfl 3 (by decide) (hts _ wd_100) (fun _ h9 => h9) rfl hin rfl (by decide +kernel) rfl rfl (Nat.le_of_ble_eq_true rfl) dX3_init_36 (fun H locs hP hD hS => ?_)
  have hP : va_P (gg_D b) vwCl [(h0, .inr (3, [.ref q1, .ref q2, .ref q3, .ref q4, .int 0, .int 0, .long 0, .null, .int 0, .int 0, .int 0, .int 0, .int 0, .int 0, .int 0])), (q1, .inl (c1, 17, .inr (.inl (fun _ => 0)))), (q2, .inl (c2, 400, .inl (fun _ => 0))), (q3, .inl (c3, 400, .inl (fun _ => 0))), (q4, .inl (c4, 400, .inr (.inl (fun _ => 0))))] H := hP
  have hD : va_D (nwA h0 s.heap.size) [(h0, .inr (3, [.ref q1, .ref q2, .ref q3, .ref q4, .int 0, .int 0, .long 0, .null, .int 0, .int 0, .int 0, .int 0, .int 0, .int 0, .int 0])), (q1, .inl (c1, 17, .inr (.inl (fun _ => 0)))), (q2, .inl (c2, 400, .inl (fun _ => 0))), (q3, .inl (c3, 400, .inl (fun _ => 0))), (q4, .inl (c4, 400, .inr (.inl (fun _ => 0))))] := hD
  refine lv_aload_n hx hb dX3_init_39 rfl (lv_at hl 0 rfl) ?_
  refine lv_iconst (v := -1) hx hb dX3_init_40 (by decide) ?_
  refine va_put (D := gg_D b) (ci := 3) (v := .int (-1)) (ty := .int) (C := RX3) (T := TX3) (N := 15) hx hb hts in_X3 tyX3 tyX3_ok nmX3 hown hK hP hD hS 0 rfl rfl 5 (by decide) (hts _ wd_106) (fun _ h9 => h9) rfl (by decide +kernel) rfl rfl (Nat.le_of_ble_eq_true rfl) dX3_init_41 (fun H locs hP hD hS => ?_)
  have hP : va_P (gg_D b) vwCl [(h0, .inr (3, [.ref q1, .ref q2, .ref q3, .ref q4, .int 0, .int (-1), .long 0, .null, .int 0, .int 0, .int 0, .int 0, .int 0, .int 0, .int 0])), (q1, .inl (c1, 17, .inr (.inl (fun _ => 0)))), (q2, .inl (c2, 400, .inl (fun _ => 0))), (q3, .inl (c3, 400, .inl (fun _ => 0))), (q4, .inl (c4, 400, .inr (.inl (fun _ => 0))))] H := hP
  have hD : va_D (nwA h0 s.heap.size) [(h0, .inr (3, [.ref q1, .ref q2, .ref q3, .ref q4, .int 0, .int (-1), .long 0, .null, .int 0, .int 0, .int 0, .int 0, .int 0, .int 0, .int 0])), (q1, .inl (c1, 17, .inr (.inl (fun _ => 0)))), (q2, .inl (c2, 400, .inl (fun _ => 0))), (q3, .inl (c3, 400, .inl (fun _ => 0))), (q4, .inl (c4, 400, .inr (.inl (fun _ => 0))))] := hD
  refine lv_aload_n hx hb dX3_init_44 rfl (lv_at hl 0 rfl) ?_
  refine va_gets hx hb hcs.2.1 hS hown (hts _ wd_30) (fun _ h => h) dX3_init_45 ?_
  refine va_tlen hx hb hcs.2.2.1 hS (v := 8) rfl dX3_init_48 ?_
  refine va_newa (atype := .int) hx hb (hts _ wd_148) (ty := .int) rfl hK hP hD hS hA (N' := 8) (a0 := (8, .inl (fun _ => 0))) (fun _ => rfl) (by decide) (by decide) (Nat.le_of_ble_eq_true rfl) (Nat.le_of_ble_eq_true rfl) (Nat.le_of_ble_eq_true rfl) dX3_init_49 (fun q5 c5 H hK hP hD hS => ?_)
  have hP : va_P (gg_D b) vwCl [(h0, .inr (3, [.ref q1, .ref q2, .ref q3, .ref q4, .int 0, .int (-1), .long 0, .null, .int 0, .int 0, .int 0, .int 0, .int 0, .int 0, .int 0])), (q1, .inl (c1, 17, .inr (.inl (fun _ => 0)))), (q2, .inl (c2, 400, .inl (fun _ => 0))), (q3, .inl (c3, 400, .inl (fun _ => 0))), (q4, .inl (c4, 400, .inr (.inl (fun _ => 0)))), (q5, .inl (c5, 8, .inl (fun _ => 0)))] H := hP
  have hD : va_D (nwA h0 s.heap.size) [(h0, .inr (3, [.ref q1, .ref q2, .ref q3, .ref q4, .int 0, .int (-1), .long 0, .null, .int 0, .int 0, .int 0, .int 0, .int 0, .int 0, .int 0])), (q1, .inl (c1, 17, .inr (.inl (fun _ => 0)))), (q2, .inl (c2, 400, .inl (fun _ => 0))), (q3, .inl (c3, 400, .inl (fun _ => 0))), (q4, .inl (c4, 400, .inr (.inl (fun _ => 0)))), (q5, .inl (c5, 8, .inl (fun _ => 0)))] := hD
  have hK : va_K (gg_D b) vwCl [(c1, FieldType.long), (c2, FieldType.int), (c3, FieldType.int), (c4, FieldType.long), (c5, FieldType.int)] s := hK
  refine va_putF (D := gg_D b) (ci := 3) (v := .ref q5) (ty := (.array .int)) (C := RX3) (T := TX3) (N := 15) hx hb hts in_X3 tyX3 tyX3_ok nmX3 hown hK hP hD hS 0 rfl rfl 7 (by decide) (hts _ wd_109) (fun _ h9 => h9) rfl hin rfl (by decide +kernel) rfl rfl (Nat.le_of_ble_eq_true rfl) dX3_init_51 (fun H locs hP hD hS => ?_)
  have hP : va_P (gg_D b) vwCl [(h0, .inr (3, [.ref q1, .ref q2, .ref q3, .ref q4, .int 0, .int (-1), .long 0, .ref q5, .int 0, .int 0, .int 0, .int 0, .int 0, .int 0, .int 0])), (q1, .inl (c1, 17, .inr (.inl (fun _ => 0)))), (q2, .inl (c2, 400, .inl (fun _ => 0))), (q3, .inl (c3, 400, .inl (fun _ => 0))), (q4, .inl (c4, 400, .inr (.inl (fun _ => 0)))), (q5, .inl (c5, 8, .inl (fun _ => 0)))] H := hP
  have hD : va_D (nwA h0 s.heap.size) [(h0, .inr (3, [.ref q1, .ref q2, .ref q3, .ref q4, .int 0, .int (-1), .long 0, .ref q5, .int 0, .int 0, .int 0, .int 0, .int 0, .int 0, .int 0])), (q1, .inl (c1, 17, .inr (.inl (fun _ => 0)))), (q2, .inl (c2, 400, .inl (fun _ => 0))), (q3, .inl (c3, 400, .inl (fun _ => 0))), (q4, .inl (c4, 400, .inr (.inl (fun _ => 0)))), (q5, .inl (c5, 8, .inl (fun _ => 0)))] := hD
  have hw0 : wl wd_C (gO b 1 h0 [0, q2, q3, 0, 0, 0, 0, q5, 0, 0, 0, 0, 0, 0, 0] [0, c2, c3, 0, 0, 0, 0, c5, 0, 0, 0, 0, 0, 0, 0] [q1, 0, 0, q4, 0, 0, 0, 0, 0, 0, 0, 0, 0, 0, 0] [c1, 0, 0, c4, 0, 0, 0, 0, 0, 0, 0, 0, 0, 0, 0] [1, 2, 7] [0, 3]) s0_C = [(h0, .inr (3, [.ref q1, .ref q2, .ref q3, .ref q4, .int 0, .int (-1), .long 0, .ref q5, .int 0, .int 0, .int 0, .int 0, .int 0, .int 0, .int 0])), (q2, .inl (c2, 400, .inl (fun _ => 0))), (q3, .inl (c3, 400, .inl (fun _ => 0))), (q5, .inl (c5, 8, .inl (fun _ => 0))), (q1, .inl (c1, 17, .inr (.inl (fun _ => 0)))), (q4, .inl (c4, 400, .inr (.inl (fun _ => 0))))] := by
    rw [gO_wl (ci := 3) rfl (by decide) (by decide)]
    simp [ks_C, lt_C, List.range_succ, kv, gO, gg_a, gg_l, ky_mod, st_A, st_L, st_I, st_J, s0_C, s0_I] <;> decide
  have hP9 := hP.sub [0, 2, 3, 5, 1, 4] hw0.symm
  have hD9 : va_D (nwA h0 s.heap.size) (wl wd_C (gO b 1 h0 [0, q2, q3, 0, 0, 0, 0, q5, 0, 0, 0, 0, 0, 0, 0] [0, c2, c3, 0, 0, 0, 0, c5, 0, 0, 0, 0, 0, 0, 0] [q1, 0, 0, q4, 0, 0, 0, 0, 0, 0, 0, 0, 0, 0, 0] [c1, 0, 0, c4, 0, 0, 0, 0, 0, 0, 0, 0, 0, 0, 0] [1, 2, 7] [0, 3]) s0_C) := hD.sub [0, 2, 3, 5, 1, 4] (by decide) (by rw [hw0]; rfl)
  have hK9 := hK.sub [1, 2, 4, 0, 3] (tys' := tl wd_C (gO b 1 h0 [0, q2, q3, 0, 0, 0, 0, q5, 0, 0, 0, 0, 0, 0, 0] [0, c2, c3, 0, 0, 0, 0, c5, 0, 0, 0, 0, 0, 0, 0] [q1, 0, 0, q4, 0, 0, 0, 0, 0, 0, 0, 0, 0, 0, 0] [c1, 0, 0, c4, 0, 0, 0, 0, 0, 0, 0, 0, 0, 0, 0] [1, 2, 7] [0, 3])) (by rw [gO_tl (by decide) (by decide)]; rfl)
  have hgd : gd wd_C (gO b 1 h0 [0, q2, q3, 0, 0, 0, 0, q5, 0, 0, 0, 0, 0, 0, 0] [0, c2, c3, 0, 0, 0, 0, c5, 0, 0, 0, 0, 0, 0, 0] [q1, 0, 0, q4, 0, 0, 0, 0, 0, 0, 0, 0, 0, 0, 0] [c1, 0, 0, c4, 0, 0, 0, 0, 0, 0, 0, 0, 0, 0, 0] [1, 2, 7] [0, 3]) := gd_C ⟨List.nodup_cons.mpr ⟨List.not_mem_nil, List.nodup_nil⟩, (by decide : (([1, 2, 7] : List Nat).map (ky 1)).Nodup), (by decide : (([0, 3] : List Nat).map (ky 1)).Nodup)⟩ hD9
  have h1 : hs wd_C (gO b 1 h0 [0, q2, q3, 0, 0, 0, 0, q5, 0, 0, 0, 0, 0, 0, 0] [0, c2, c3, 0, 0, 0, 0, c5, 0, 0, 0, 0, 0, 0, 0] [q1, 0, 0, q4, 0, 0, 0, 0, 0, 0, 0, 0, 0, 0, 0] [c1, 0, 0, c4, 0, 0, 0, 0, 0, 0, 0, 0, 0, 0, 0] [1, 2, 7] [0, 3]) 1 3 := ⟨rfl, List.mem_cons_self, fun f h => List.mem_map_of_mem (k2_3 f h), fun f h => List.mem_map_of_mem (k3_3 f h), fun f h => absurd h (k4_3 f)⟩
  have hF2 : ∀ q, aw (gO b 1 h0 [0, q2, q3, 0, 0, 0, 0, q5, 0, 0, 0, 0, 0, 0, 0] [0, c2, c3, 0, 0, 0, 0, c5, 0, 0, 0, 0, 0, 0, 0] [q1, 0, 0, q4, 0, 0, 0, 0, 0, 0, 0, 0, 0, 0, 0] [c1, 0, 0, c4, 0, 0, 0, 0, 0, 0, 0, 0, 0, 0, 0] [1, 2, 7] [0, 3]) q → nwA h0 s.heap.size q := wA_sub hD9
  have hkb : kb (gO b 1 h0 [0, q2, q3, 0, 0, 0, 0, q5, 0, 0, 0, 0, 0, 0, 0] [0, c2, c3, 0, 0, 0, 0, c5, 0, 0, 0, 0, 0, 0, 0] [q1, 0, 0, q4, 0, 0, 0, 0, 0, 0, 0, 0, 0, 0, 0] [c1, 0, 0, c4, 0, 0, 0, 0, 0, 0, 0, 0, 0, 0, 0] [1, 2, 7] [0, 3]) := ⟨fun q hq => by obtain ⟨f, hf, rfl⟩ := List.mem_map.mp hq; rw [ky_div 1 ((by decide : ∀ f ∈ ([1, 2, 7] : List Nat), f < 100) f hf)]; exact List.mem_singleton.mpr rfl, fun q hq => by obtain ⟨f, hf, rfl⟩ := List.mem_map.mp hq; rw [ky_div 1 ((by decide : ∀ f ∈ ([0, 3] : List Nat), f < 100) f hf)]; exact List.mem_singleton.mpr rfl⟩
  generalize hgt : gO b 1 h0 [0, q2, q3, 0, 0, 0, 0, q5, 0, 0, 0, 0, 0, 0, 0] [0, c2, c3, 0, 0, 0, 0, c5, 0, 0, 0, 0, 0, 0, 0] [q1, 0, 0, q4, 0, 0, 0, 0, 0, 0, 0, 0, 0, 0, 0] [c1, 0, 0, c4, 0, 0, 0, 0, 0, 0, 0, 0, 0, 0, 0] [1, 2, 7] [0, 3] = gt at hP9 hD9 hK9 hgd h1 hF2 hkb
  have hkn : kn gt b := by rw [← hgt]; exact ⟨rfl, rfl, rfl, rfl⟩
  have hgo : gg_o gt 1 = h0 := by rw [← hgt]; rfl
  have hPt : va_P (gg_D gt) vwCl (wl wd_C gt s0_C) H := by rw [hkn.1]; exact hP9
  have hKt : va_K (gg_D gt) vwCl (tl wd_C gt) s := by rw [hkn.1]; exact hK9
  have hDt : va_D (nwA h0 s.heap.size) (wl wd_C gt s0_C) := hD9
  have haw : aw gt h0 := Or.inl ⟨1, h1.2.1, hgo.symm⟩
  refine w_old (fun locs1 hlo => ?_)
  have hSt : va_S (aw gt) s.heap H locs1 := ⟨hS.1, fun q a1 a2 => hS.2.1 q a1 (fun h => by
    rcases h with rfl | h
    · exact a2 haw
    · omega), fun z hz => by
    rcases hS.2.2 z (hlo z hz).1 with h | h
    · rw [h]; exact haw
    · exact absurd (hlo z hz).2 (Nat.not_lt.mpr h)⟩
  have hos : gg_os gt = [1] := by rw [← hgt]; rfl
  have hqs : gg_qs gt = [] := by rw [← hgt]; rfl
  have cx : CX wd_C gt p s m _ c cX3_init 4 RX3 := ⟨hx, hb, hml, hown, hts, hKt, cs_narrow hkn.2.1 hkn.2.2.1 hkn.2.2.2 hF2 hcs, hgd⟩
  exact w_mono (mq_n hF2 ⟨⟨hgd, h1, hkb, hkn, hgo, hos, hqs⟩, rfl⟩ (wD_any hDt S1)) (kt_X3_init hgd cx h1 ⟨hPt, hSt⟩ hr hlocks (by rw [hgo]; exact hl) hf)
