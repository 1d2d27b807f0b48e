/-! CONSTRUCTORS: a world of one object and its arrays. -/
def nwA (h0 sz : Nat) : Nat → Prop := fun q => q = h0 ∨ sz ≤ q
theorem w_mono {p : Program} {l : Launch} {e : Env} {R : Room} {s : State} {m : MethodId} {args : Array Value} {below : List Frame} {meth : Method} {c : Code} {H : Heap} {locs : List Loc} {cells slots : Nat} {Q Q' : State → Prop} {g : JFrame} (h : ∀ t, Q t → Q' t) (k : W p l e R s m args below meth c H locs cells slots Q g) : W p l e R s m args below meth c H locs cells slots Q' g := by
  intro T hT X
  obtain ⟨t, a, b⟩ := k T hT X
  exact ⟨t, a, h t b⟩
theorem vD_iff {A : Nat → Prop} {ws : va_W} : va_D A ws ↔ (ws.map Prod.fst).Nodup ∧ ∀ x ∈ ws, A x.1 := by
  constructor
  · intro h
    refine ⟨?_, fun x hx => ?_⟩
    · rw [List.nodup_iff_pairwise_ne, List.pairwise_iff_getElem]
      intro i j hi hj hij e
      rw [List.length_map] at hi hj
      rw [List.getElem_map, List.getElem_map] at e
      have := h.1 i j _ _ (List.getElem?_eq_getElem hi) (List.getElem?_eq_getElem hj) e
      omega
    · obtain ⟨i, hi⟩ := List.mem_iff_getElem?.mp hx
      exact h.2 i x hi
  · rintro ⟨h1, h2⟩
    refine ⟨fun i j p q hi hj e => ?_, fun k q hq => h2 q (List.mem_of_getElem? hq)⟩
    refine st_nd _ h1 i j p.1 (by rw [List.getElem?_map, hi]; rfl) (by rw [List.getElem?_map, hj, e]; rfl)
theorem vP_iff {D : va_G} {cl : List vw_C} {ws : va_W} {H : Heap} : va_P D cl ws H ↔ ∀ x ∈ ws, va_at D cl x H :=
  ⟨fun h x hx => by obtain ⟨i, hi⟩ := List.mem_iff_getElem?.mp hx; exact h i x hi, fun h k q hq => h q (List.mem_of_getElem? hq)⟩
/-- the state at first: all zero, but the places of faults, the texts' pointers -/
def s0_I (q : Nat) : Int32 := if q = ky 0 2 ∨ q = ky 1 5 ∨ q = ky 2 18 ∨ q = ky 3 18 then -1 else 0
def s0_C : St := (s0_I, fun _ _ => 0, fun _ => 0, fun _ _ => 0, fun q => if q = ky 0 5 then 3 else 2)
def gO (b : GG) (k h0 : Nat) (qa ca ql cl : List Nat) (af lf : List Nat) : GG := (gg_D b, fun _ => h0, fun q => qa.getD (q % 100) 0, fun q => ca.getD (q % 100) 0, fun q => ql.getD (q % 100) 0, fun q => cl.getD (q % 100) 0, 0, 0, [k], af.map (ky k), lf.map (ky k), [], gg_t b, gg_k b, gg_v b)
theorem ky_mod (k : Nat) {f : Nat} (h : f < 100) : ky k f % 100 = f := by unfold ky; omega
theorem ky_div (k : Nat) {f : Nat} (h : f < 100) : ky k f / 100 = k := by unfold ky; omega
theorem ln_at {k ci f : Nat} (hk : cl_C k = ci) (h : f < 100) : ln_C (ky k f) = (lt_C ci).getD f 0 := by unfold ln_C; rw [ky_div k h, ky_mod k h, hk]
/-- the world of one object out of its cells -/
theorem gO_wl {b : GG} {k h0 ci : Nat} {qa ca ql cl af lf : List Nat} {S : St} (hk : cl_C k = ci) (ha : ∀ f ∈ af, f < 100) (hl : ∀ f ∈ lf, f < 100) : wl wd_C (gO b k h0 qa ca ql cl af lf) S = (h0, .inr (ci, (List.range (ks_C ci).length).map (fun f => kv (gO b k h0 qa ca ql cl af lf) S k f ((ks_C ci).getD f 0)))) :: (af.map (fun f => (qa.getD f 0, .inl (ca.getD f 0, (lt_C ci).getD f 0, .inl (st_A S (ky k f))))) ++ lf.map (fun f => (ql.getD f 0, .inl (cl.getD f 0, (lt_C ci).getD f 0, .inr (.inl (st_L S (ky k f))))))) := by
  have e1 : (af.map (ky k)).map (e_a wd_C (gO b k h0 qa ca ql cl af lf) S) = af.map (fun f => (qa.getD f 0, .inl (ca.getD f 0, (lt_C ci).getD f 0, .inl (st_A S (ky k f))))) := by
    rw [List.map_map]
    refine List.map_congr_left (fun f hf => ?_)
    show (qa.getD (ky k f % 100) 0, Sum.inl (ca.getD (ky k f % 100) 0, ln_C (ky k f), Sum.inl (st_A S (ky k f)))) = _
    rw [ky_mod k (ha f hf), ln_at hk (ha f hf)]
  have e2 : (lf.map (ky k)).map (e_l wd_C (gO b k h0 qa ca ql cl af lf) S) = lf.map (fun f => (ql.getD f 0, .inl (cl.getD f 0, (lt_C ci).getD f 0, .inr (.inl (st_L S (ky k f)))))) := by
    rw [List.map_map]
    refine List.map_congr_left (fun f hf => ?_)
    show (ql.getD (ky k f % 100) 0, Sum.inl (cl.getD (ky k f % 100) 0, ln_C (ky k f), Sum.inr (Sum.inl (st_L S (ky k f))))) = _
    rw [ky_mod k (hl f hf), ln_at hk (hl f hf)]
  have e3 : e_o wd_C (gO b k h0 qa ca ql cl af lf) S k = (h0, .inr (ci, (List.range (ks_C ci).length).map (fun f => kv (gO b k h0 qa ca ql cl af lf) S k f ((ks_C ci).getD f 0)))) := by
    show (h0, Sum.inr (cl_C k, (List.range (ks_C (cl_C k)).length).map (fun f => kv (gO b k h0 qa ca ql cl af lf) S k f ((ks_C (cl_C k)).getD f 0)))) = _
    rw [hk]
  show [e_o wd_C (gO b k h0 qa ca ql cl af lf) S k] ++ ((af.map (ky k)).map (e_a wd_C (gO b k h0 qa ca ql cl af lf) S) ++ ((lf.map (ky k)).map (e_l wd_C (gO b k h0 qa ca ql cl af lf) S) ++ [])) = _
  rw [e1, e2, e3, List.append_nil, List.singleton_append]
theorem gO_tl {b : GG} {k h0 : Nat} {qa ca ql cl af lf : List Nat} (ha : ∀ f ∈ af, f < 100) (hl : ∀ f ∈ lf, f < 100) : tl wd_C (gO b k h0 qa ca ql cl af lf) = af.map (fun f => (ca.getD f 0, FieldType.int)) ++ lf.map (fun f => (cl.getD f 0, FieldType.long)) := by
  have e1 : (af.map (ky k)).map (fun q => (gg_c (gO b k h0 qa ca ql cl af lf) q, wk_t wd_C q)) = af.map (fun f => (ca.getD f 0, FieldType.int)) := by
    rw [List.map_map]
    refine List.map_congr_left (fun f hf => ?_)
    show (ca.getD (ky k f % 100) 0, FieldType.int) = _
    rw [ky_mod k (ha f hf)]
  have e2 : (lf.map (ky k)).map (fun q => (gg_d (gO b k h0 qa ca ql cl af lf) q, FieldType.long)) = lf.map (fun f => (cl.getD f 0, FieldType.long)) := by
    rw [List.map_map]
    refine List.map_congr_left (fun f hf => ?_)
    show (cl.getD (ky k f % 100) 0, FieldType.long) = _
    rw [ky_mod k (hl f hf)]
  show (af.map (ky k)).map (fun q => (gg_c (gO b k h0 qa ca ql cl af lf) q, wk_t wd_C q)) ++ ((lf.map (ky k)).map (fun q => (gg_d (gO b k h0 qa ca ql cl af lf) q, FieldType.long)) ++ []) = _
  rw [e1, e2, List.append_nil]
theorem ap_st {a : Nat} {ws : va_W} (h : ∀ x ∈ ws, x.1 ≠ a) {e : va_E} : ∀ x ∈ ws, (a, e).1 ≠ x.1 := fun x hx => Ne.symm (h x hx)
/-- the addresses of a world don't ask for its state -/
theorem wl_fst (w : WD) (g : GG) (S S' : St) : (wl w g S).map Prod.fst = (wl w g S').map Prod.fst := by
  unfold wl
  simp only [List.map_append, List.map_map]
  rfl
theorem wD_any {w : WD} {g : GG} {A : Nat → Prop} {S : St} (h : va_D A (wl w g S)) (S' : St) : va_D A (wl w g S') := by
  rw [vD_iff] at h ⊢
  refine ⟨by rw [wl_fst w g S' S]; exact h.1, fun x hx => ?_⟩
  have h1 : x.1 ∈ (wl w g S').map Prod.fst := List.mem_map_of_mem hx
  rw [wl_fst w g S' S] at h1
  obtain ⟨y, hy, e⟩ := List.mem_map.mp h1
  rw [← e]
  exact h.2 y hy
theorem aw_of {w : WD} {g : GG} {S : St} {q : Nat} (h : aw g q) : ∃ x ∈ wl w g S, x.1 = q := by
  unfold wl
  rcases h with ⟨k, hk, rfl⟩ | ⟨k, hk, rfl⟩ | ⟨k, hk, rfl⟩ | ⟨⟨k, hk⟩, rfl⟩
  · exact ⟨_, List.mem_append_left _ (List.mem_map_of_mem hk), rfl⟩
  · exact ⟨_, List.mem_append_right _ (List.mem_append_left _ (List.mem_map_of_mem hk)), rfl⟩
  · exact ⟨_, List.mem_append_right _ (List.mem_append_right _ (List.mem_append_left _ (List.mem_map_of_mem hk))), rfl⟩
  · exact ⟨_, List.mem_append_right _ (List.mem_append_right _ (List.mem_append_right _ (List.mem_map_of_mem hk))), rfl⟩
theorem aw_in {w : WD} {g : GG} {S : St} {x : Nat × va_E} (h : x ∈ wl w g S) : aw g x.1 := by
  unfold wl at h
  rcases List.mem_append.mp h with h | h
  · obtain ⟨k, hk, rfl⟩ := List.mem_map.mp h
    exact Or.inl ⟨k, hk, rfl⟩
  · rcases List.mem_append.mp h with h | h
    · obtain ⟨k, hk, rfl⟩ := List.mem_map.mp h
      exact Or.inr (Or.inl ⟨k, hk, rfl⟩)
    · rcases List.mem_append.mp h with h | h
      · obtain ⟨k, hk, rfl⟩ := List.mem_map.mp h
        exact Or.inr (Or.inr (Or.inl ⟨k, hk, rfl⟩))
      · obtain ⟨k, hk, rfl⟩ := List.mem_map.mp h
        exact Or.inr (Or.inr (Or.inr ⟨⟨k, hk⟩, rfl⟩))
theorem wD_self {w : WD} {g : GG} {A : Nat → Prop} {S : St} (h : va_D A (wl w g S)) : ∀ S', va_D (aw g) (wl w g S') := fun S' => by
  have h1 := wD_any h S'
  rw [vD_iff] at h1 ⊢
  exact ⟨h1.1, fun x hx => aw_in hx⟩
theorem wA_sub {w : WD} {g : GG} {A : Nat → Prop} {S : St} (h : va_D A (wl w g S)) : ∀ q, aw g q → A q := fun q hq => by
  obtain ⟨x, hx, rfl⟩ := aw_of (w := w) (S := S) hq
  exact (vD_iff.mp h).2 x hx
/-- what a constructor leaves: a world of its own -/
def qc_n (h0 sz : Nat) (post : GG → St → Prop) : Array Value → State → Outcome → State → Prop := va_Qv (fun u : GG × St => post u.1 u.2 ∧ va_D (nwA h0 sz) (wl wd_C u.1 u.2)) (fun u t => va_P (gg_D u.1) vwCl (wl wd_C u.1 u.2) t.heap ∧ va_K (gg_D u.1) vwCl (tl wd_C u.1) t) (nwA h0 sz)
def pr_n (b : GG) (h0 sz ci : Nat) (fs : List Value) (U : State) : Prop := U.heap.size = sz ∧ va_P (gg_D b) vwCl [(h0, .inr (ci, fs))] U.heap ∧ va_K (gg_D b) vwCl [] U ∧ cs_C b (nwA h0 sz) U

theorem dX1_init_0 : decode cX1_init 0 = .ok (.aload_n 0, 1) := by decide +kernel
theorem dX1_init_1 : decode cX1_init 1 = .ok (.invokespecial 1, 3) := by decide +kernel
theorem dX1_init_4 : decode cX1_init 4 = .ok (.aload_n 0, 1) := by decide +kernel
theorem dX1_init_5 : decode cX1_init 5 = .ok (.sipush 512, 3) := by decide +kernel
theorem dX1_init_8 : decode cX1_init 8 = .ok (.newarray .int, 2) := by decide +kernel
theorem dX1_init_10 : decode cX1_init 10 = .ok (.putfield 9, 3) := by decide +kernel
theorem dX1_init_13 : decode cX1_init 13 = .ok (.aload_n 0, 1) := by decide +kernel
theorem dX1_init_14 : decode cX1_init 14 = .ok (.sipush 512, 3) := by decide +kernel
theorem dX1_init_17 : decode cX1_init 17 = .ok (.newarray .int, 2) := by decide +kernel
theorem dX1_init_19 : decode cX1_init 19 = .ok (.putfield 13, 3) := by decide +kernel
theorem dX1_init_22 : decode cX1_init 22 = .ok (.aload_n 0, 1) := by decide +kernel
theorem dX1_init_23 : decode cX1_init 23 = .ok (.bipush 64, 2) := by decide +kernel
theorem dX1_init_25 : decode cX1_init 25 = .ok (.newarray .int, 2) := by decide +kernel
theorem dX1_init_27 : decode cX1_init 27 = .ok (.putfield 16, 3) := by decide +kernel
theorem dX1_init_30 : decode cX1_init 30 = .ok (.aload_n 0, 1) := by decide +kernel
theorem dX1_init_31 : decode cX1_init 31 = .ok (.bipush 64, 2) := by decide +kernel
theorem dX1_init_33 : decode cX1_init 33 = .ok (.newarray .int, 2) := by decide +kernel
theorem dX1_init_35 : decode cX1_init 35 = .ok (.putfield 19, 3) := by decide +kernel
theorem dX1_init_38 : decode cX1_init 38 = .ok (.aload_n 0, 1) := by decide +kernel
theorem dX1_init_39 : decode cX1_init 39 = .ok (.bipush 6, 2) := by decide +kernel
theorem dX1_init_41 : decode cX1_init 41 = .ok (.newarray .int, 2) := by decide +kernel
theorem dX1_init_43 : decode cX1_init 43 = .ok (.putfield 22, 3) := by decide +kernel
theorem dX1_init_46 : decode cX1_init 46 = .ok (.return_, 1) := by decide +kernel
abbrev rm_X1_init : Room := { frames := 1, cells := 5, slots := 1158, locals := 20 }
set_option maxRecDepth 100000 in
set_option maxHeartbeats 4000000 in
theorem c_X1_init (l : Launch) (b : GG) (k h0 sz : Nat) (hk : cl_C k = 1) (hI : ∀ f, (ks_C 1)[f]? = some 0 → s0_I (ky k f) = 0) : Met l yX1_init (Cond.code yX1_init cX1_init 1 none :: gw_tbl) rm_X1_init (va_Pc [.ref h0] (pr_n b h0 sz 1 [.null, .null, .int 0, .null, .int 0, .null, .null])) (qc_n h0 sz (fun g S => ∃ qa ca ql cl, g = gO b k h0 qa ca ql cl [0, 1, 3, 5, 6] [] ∧ S = s0_C)) 5 1158 (nwA h0 sz) := by
  refine Met.ofW (cc := cX1_init) (maxL := 1) (ret := none) (by decide) rfl ?_
  intro p e s m args below meth c s₁ B hml hv
  obtain ⟨rfl, hsz, hP, hK, hcs⟩ := hv
  have hx := B.exec
  have hb := B.bytes
  have hr := B.returns
  have hts0 := atoms_spec (ws := Cond.code yX1_init cX1_init 1 none :: gw_tbl) B.pre
  have hts : ∀ z ∈ gw_tbl, z.before _ s = true := fun z hz => hts0 z (List.mem_cons_of_mem _ hz)
  have hown : s.vm.findClass RX1 = some m.cls := findClass_of_methodNamed B.named
  have hlocks := B.notSynchronized
  have hin : meth.name = "<init>" := (name_of_methodNamed B.named B.method).1
  subst hsz
  have hA : ∀ q : Nat, s.heap.size ≤ q → nwA h0 s.heap.size q := fun q h => Or.inr h
  have hD : va_D (nwA h0 s.heap.size) [(h0, .inr (1, [.null, .null, .int 0, .null, .int 0, .null, .null]))] := vD_iff.mpr ⟨by simp, fun x hx => by rw [List.mem_singleton.mp hx]; exact Or.inl rfl⟩
  have hS : va_S (nwA h0 s.heap.size) s.heap s.heap [] := va_S.rf
  have hl := lv_entry ([.ref h0]) (n := 1) (Nat.le_of_ble_eq_true rfl)
  rw [lg_entry_eq]
  generalize (lg_sl ([.ref h0]) ++ List.replicate (1 - (lg_sl ([.ref h0])).length) Slot.unset).toArray = ls at hl ⊢
  have hl : lv_has ls 1 [(0, .ref h0)] := hl
  refine lv_aload_n hx hb dX1_init_0 rfl (lv_at hl 0 rfl) ?_
  refine W.objInit hx hb hown (hts _ wd_162) (hts _ wd_22) (hts _ wd_23) rfl (by rw [hml]; exact hl.1) rfl dX1_init_1 (Nat.le_of_ble_eq_true rfl) (Nat.le_of_ble_eq_true rfl) ?_
  refine W.eq (g2 := F0 m 4 ls []) rfl ?_
  refine lv_aload_n hx hb dX1_init_4 rfl (lv_at hl 0 rfl) ?_
  refine lv_sipush (v := 512) hx hb dX1_init_5 (by decide) ?_
  refine va_newa (atype := .int) hx hb (hts _ wd_148) (ty := .int) rfl hK hP hD hS hA (N' := 512) (a0 := (512, .inl (fun _ => 0))) (fun _ => rfl) (by decide) (by decide) (Nat.le_of_ble_eq_true rfl) (Nat.le_of_ble_eq_true rfl) (Nat.le_of_ble_eq_true rfl) dX1_init_8 (fun q1 c1 H hK hP hD hS => ?_)
  have hP : va_P (gg_D b) vwCl [(h0, .inr (1, [.null, .null, .int 0, .null, .int 0, .null, .null])), (q1, .inl (c1, 512, .inl (fun _ => 0)))] H := hP
  have hD : va_D (nwA h0 s.heap.size) [(h0, .inr (1, [.null, .null, .int 0, .null, .int 0, .null, .null])), (q1, .inl (c1, 512, .inl (fun _ => 0)))] := hD
  have hK : va_K (gg_D b) vwCl [(c1, FieldType.int)] s := hK
  refine va_putF (D := gg_D b) (ci := 1) (v := .ref q1) (ty := (.array .int)) (C := RX1) (T := TX1) (N := 7) hx hb hts in_X1 tyX1 tyX1_ok nmX1 hown hK hP hD hS 0 rfl rfl 0 (by decide) (hts _ wd_163) (fun _ h9 => h9) rfl hin rfl (by decide +kernel) rfl rfl (Nat.le_of_ble_eq_true rfl) dX1_init_10 (fun H locs hP hD hS => ?_)
  have hP : va_P (gg_D b) vwCl [(h0, .inr (1, [.ref q1, .null, .int 0, .null, .int 0, .null, .null])), (q1, .inl (c1, 512, .inl (fun _ => 0)))] H := hP
  have hD : va_D (nwA h0 s.heap.size) [(h0, .inr (1, [.ref q1, .null, .int 0, .null, .int 0, .null, .null])), (q1, .inl (c1, 512, .inl (fun _ => 0)))] := hD
  refine lv_aload_n hx hb dX1_init_13 rfl (lv_at hl 0 rfl) ?_
  refine lv_sipush (v := 512) hx hb dX1_init_14 (by decide) ?_
  refine va_newa (atype := .int) hx hb (hts _ wd_148) (ty := .int) rfl hK hP hD hS hA (N' := 512) (a0 := (512, .inl (fun _ => 0))) (fun _ => rfl) (by decide) (by decide) (Nat.le_of_ble_eq_true rfl) (Nat.le_of_ble_eq_true rfl) (Nat.le_of_ble_eq_true rfl) dX1_init_17 (fun q2 c2 H hK hP hD hS => ?_)
  have hP : va_P (gg_D b) vwCl [(h0, .inr (1, [.ref q1, .null, .int 0, .null, .int 0, .null, .null])), (q1, .inl (c1, 512, .inl (fun _ => 0))), (q2, .inl (c2, 512, .inl (fun _ => 0)))] H := hP
  have hD : va_D (nwA h0 s.heap.size) [(h0, .inr (1, [.ref q1, .null, .int 0, .null, .int 0, .null, .null])), (q1, .inl (c1, 512, .inl (fun _ => 0))), (q2, .inl (c2, 512, .inl (fun _ => 0)))] := hD
  have hK : va_K (gg_D b) vwCl [(c1, FieldType.int), (c2, FieldType.int)] s := hK
  refine va_putF (D := gg_D b) (ci := 1) (v := .ref q2) (ty := (.array .int)) (C := RX1) (T := TX1) (N := 7) hx hb hts in_X1 tyX1 tyX1_ok nmX1 hown hK hP hD hS 0 rfl rfl 1 (by decide) (hts _ wd_164) (fun _ h9 => h9) rfl hin rfl (by decide +kernel) rfl rfl (Nat.le_of_ble_eq_true rfl) dX1_init_19 (fun H locs hP hD hS => ?_)
  have hP : va_P (gg_D b) vwCl [(h0, .inr (1, [.ref q1, .ref q2, .int 0, .null, .int 0, .null, .null])), (q1, .inl (c1, 512, .inl (fun _ => 0))), (q2, .inl (c2, 512, .inl (fun _ => 0)))] H := hP
  have hD : va_D (nwA h0 s.heap.size) [(h0, .inr (1, [.ref q1, .ref q2, .int 0, .null, .int 0, .null, .null])), (q1, .inl (c1, 512, .inl (fun _ => 0))), (q2, .inl (c2, 512, .inl (fun _ => 0)))] := hD
  refine lv_aload_n hx hb dX1_init_22 rfl (lv_at hl 0 rfl) ?_
  refine lv_bipush (v := 64) hx hb dX1_init_23 (by decide) ?_
  refine va_newa (atype := .int) hx hb (hts _ wd_148) (ty := .int) rfl hK hP hD hS hA (N' := 64) (a0 := (64, .inl (fun _ => 0))) (fun _ => rfl) (by decide) (by decide) (Nat.le_of_ble_eq_true rfl) (Nat.le_of_ble_eq_true rfl) (Nat.le_of_ble_eq_true rfl) dX1_init_25 (fun q3 c3 H hK hP hD hS => ?_)
  have hP : va_P (gg_D b) vwCl [(h0, .inr (1, [.ref q1, .ref q2, .int 0, .null, .int 0, .null, .null])), (q1, .inl (c1, 512, .inl (fun _ => 0))), (q2, .inl (c2, 512, .inl (fun _ => 0))), (q3, .inl (c3, 64, .inl (fun _ => 0)))] H := hP
  have hD : va_D (nwA h0 s.heap.size) [(h0, .inr (1, [.ref q1, .ref q2, .int 0, .null, .int 0, .null, .null])), (q1, .inl (c1, 512, .inl (fun _ => 0))), (q2, .inl (c2, 512, .inl (fun _ => 0))), (q3, .inl (c3, 64, .inl (fun _ => 0)))] := hD
  have hK : va_K (gg_D b) vwCl [(c1, FieldType.int), (c2, FieldType.int), (c3, FieldType.int)] s := hK
  refine va_putF (D := gg_D b) (ci := 1) (v := .ref q3) (ty := (.array .int)) (C := RX1) (T := TX1) (N := 7) hx hb hts in_X1 tyX1 tyX1_ok nmX1 hown hK hP hD hS 0 rfl rfl 3 (by decide) (hts _ wd_167) (fun _ h9 => h9) rfl hin rfl (by decide +kernel) rfl rfl (Nat.le_of_ble_eq_true rfl) dX1_init_27 (fun H locs hP hD hS => ?_)
  have hP : va_P (gg_D b) vwCl [(h0, .inr (1, [.ref q1, .ref q2, .int 0, .ref q3, .int 0, .null, .null])), (q1, .inl (c1, 512, .inl (fun _ => 0))), (q2, .inl (c2, 512, .inl (fun _ => 0))), (q3, .inl (c3, 64, .inl (fun _ => 0)))] H := hP
  have hD : va_D (nwA h0 s.heap.size) [(h0, .inr (1, [.ref q1, .ref q2, .int 0, .ref q3, .int 0, .null, .null])), (q1, .inl (c1, 512, .inl (fun _ => 0))), (q2, .inl (c2, 512, .inl (fun _ => 0))), (q3, .inl (c3, 64, .inl (fun _ => 0)))] := hD
  refine lv_aload_n hx hb dX1_init_30 rfl (lv_at hl 0 rfl) ?_
  refine lv_bipush (v := 64) hx hb dX1_init_31 (by decide) ?_
  refine va_newa (atype := .int) hx hb (hts _ wd_148) (ty := .int) rfl hK hP hD hS hA (N' := 64) (a0 := (64, .inl (fun _ => 0))) (fun _ => rfl) (by decide) (by decide) (Nat.le_of_ble_eq_true rfl) (Nat.le_of_ble_eq_true rfl) (Nat.le_of_ble_eq_true rfl) dX1_init_33 (fun q4 c4 H hK hP hD hS => ?_)
  have hP : va_P (gg_D b) vwCl [(h0, .inr (1, [.ref q1, .ref q2, .int 0, .ref q3, .int 0, .null, .null])), (q1, .inl (c1, 512, .inl (fun _ => 0))), (q2, .inl (c2, 512, .inl (fun _ => 0))), (q3, .inl (c3, 64, .inl (fun _ => 0))), (q4, .inl (c4, 64, .inl (fun _ => 0)))] H := hP
  have hD : va_D (nwA h0 s.heap.size) [(h0, .inr (1, [.ref q1, .ref q2, .int 0, .ref q3, .int 0, .null, .null])), (q1, .inl (c1, 512, .inl (fun _ => 0))), (q2, .inl (c2, 512, .inl (fun _ => 0))), (q3, .inl (c3, 64, .inl (fun _ => 0))), (q4, .inl (c4, 64, .inl (fun _ => 0)))] := hD
  have hK : va_K (gg_D b) vwCl [(c1, FieldType.int), (c2, FieldType.int), (c3, FieldType.int), (c4, FieldType.int)] s := hK
  refine va_putF (D := gg_D b) (ci := 1) (v := .ref q4) (ty := (.array .int)) (C := RX1) (T := TX1) (N := 7) hx hb hts in_X1 tyX1 tyX1_ok nmX1 hown hK hP hD hS 0 rfl rfl 5 (by decide) (hts _ wd_169) (fun _ h9 => h9) rfl hin rfl (by decide +kernel) rfl rfl (Nat.le_of_ble_eq_true rfl) dX1_init_35 (fun H locs hP hD hS => ?_)
  have hP : va_P (gg_D b) vwCl [(h0, .inr (1, [.ref q1, .ref q2, .int 0, .ref q3, .int 0, .ref q4, .null])), (q1, .inl (c1, 512, .inl (fun _ => 0))), (q2, .inl (c2, 512, .inl (fun _ => 0))), (q3, .inl (c3, 64, .inl (fun _ => 0))), (q4, .inl (c4, 64, .inl (fun _ => 0)))] H := hP
  have hD : va_D (nwA h0 s.heap.size) [(h0, .inr (1, [.ref q1, .ref q2, .int 0, .ref q3, .int 0, .ref q4, .null])), (q1, .inl (c1, 512, .inl (fun _ => 0))), (q2, .inl (c2, 512, .inl (fun _ => 0))), (q3, .inl (c3, 64, .inl (fun _ => 0))), (q4, .inl (c4, 64, .inl (fun _ => 0)))] := hD
  refine lv_aload_n hx hb dX1_init_38 rfl (lv_at hl 0 rfl) ?_
  refine lv_bipush (v := 6) hx hb dX1_init_39 (by decide) ?_
  refine va_newa (atype := .int) hx hb (hts _ wd_148) (ty := .int) rfl hK hP hD hS hA (N' := 6) (a0 := (6, .inl (fun _ => 0))) (fun _ => rfl) (by decide) (by decide) (Nat.le_of_ble_eq_true rfl) (Nat.le_of_ble_eq_true rfl) (Nat.le_of_ble_eq_true rfl) dX1_init_41 (fun q5 c5 H hK hP hD hS => ?_)
  have hP : va_P (gg_D b) vwCl [(h0, .inr (1, [.ref q1, .ref q2, .int 0, .ref q3, .int 0, .ref q4, .null])), (q1, .inl (c1, 512, .inl (fun _ => 0))), (q2, .inl (c2, 512, .inl (fun _ => 0))), (q3, .inl (c3, 64, .inl (fun _ => 0))), (q4, .inl (c4, 64, .inl (fun _ => 0))), (q5, .inl (c5, 6, .inl (fun _ => 0)))] H := hP
  have hD : va_D (nwA h0 s.heap.size) [(h0, .inr (1, [.ref q1, .ref q2, .int 0, .ref q3, .int 0, .ref q4, .null])), (q1, .inl (c1, 512, .inl (fun _ => 0))), (q2, .inl (c2, 512, .inl (fun _ => 0))), (q3, .inl (c3, 64, .inl (fun _ => 0))), (q4, .inl (c4, 64, .inl (fun _ => 0))), (q5, .inl (c5, 6, .inl (fun _ => 0)))] := hD
  have hK : va_K (gg_D b) vwCl [(c1, FieldType.int), (c2, FieldType.int), (c3, FieldType.int), (c4, FieldType.int), (c5, FieldType.int)] s := hK
  refine va_putF (D := gg_D b) (ci := 1) (v := .ref q5) (ty := (.array .int)) (C := RX1) (T := TX1) (N := 7) hx hb hts in_X1 tyX1 tyX1_ok nmX1 hown hK hP hD hS 0 rfl rfl 6 (by decide) (hts _ wd_170) (fun _ h9 => h9) rfl hin rfl (by decide +kernel) rfl rfl (Nat.le_of_ble_eq_true rfl) dX1_init_43 (fun H locs hP hD hS => ?_)
  have hP : va_P (gg_D b) vwCl [(h0, .inr (1, [.ref q1, .ref q2, .int 0, .ref q3, .int 0, .ref q4, .ref q5])), (q1, .inl (c1, 512, .inl (fun _ => 0))), (q2, .inl (c2, 512, .inl (fun _ => 0))), (q3, .inl (c3, 64, .inl (fun _ => 0))), (q4, .inl (c4, 64, .inl (fun _ => 0))), (q5, .inl (c5, 6, .inl (fun _ => 0)))] H := hP
  have hD : va_D (nwA h0 s.heap.size) [(h0, .inr (1, [.ref q1, .ref q2, .int 0, .ref q3, .int 0, .ref q4, .ref q5])), (q1, .inl (c1, 512, .inl (fun _ => 0))), (q2, .inl (c2, 512, .inl (fun _ => 0))), (q3, .inl (c3, 64, .inl (fun _ => 0))), (q4, .inl (c4, 64, .inl (fun _ => 0))), (q5, .inl (c5, 6, .inl (fun _ => 0)))] := hD
  have hw0 : wl wd_C (gO b k h0 [q1, q2, 0, q3, 0, q4, q5] [c1, c2, 0, c3, 0, c4, c5] [0, 0, 0, 0, 0, 0, 0] [0, 0, 0, 0, 0, 0, 0] [0, 1, 3, 5, 6] []) s0_C = [(h0, .inr (1, [.ref q1, .ref q2, .int 0, .ref q3, .int 0, .ref q4, .ref q5])), (q1, .inl (c1, 512, .inl (fun _ => 0))), (q2, .inl (c2, 512, .inl (fun _ => 0))), (q3, .inl (c3, 64, .inl (fun _ => 0))), (q4, .inl (c4, 64, .inl (fun _ => 0))), (q5, .inl (c5, 6, .inl (fun _ => 0)))] := by
    rw [gO_wl hk (by decide) (by decide)]
    have e0 : ∀ f, (ks_C 1)[f]? = some 0 → st_I s0_C (ky k f) = 0 := hI
    have i2 := e0 2 rfl
    have i4 := e0 4 rfl
    simp [ks_C, lt_C, List.range_succ, kv, gO, gg_a, gg_l, ky_mod, st_A, st_L, s0_C, st_I, show s0_I (ky k 2) = 0 from i2, show s0_I (ky k 4) = 0 from i4]
  have hP9 := hP.sub [0, 1, 2, 3, 4, 5] hw0.symm
  have hD9 : va_D (nwA h0 s.heap.size) (wl wd_C (gO b k h0 [q1, q2, 0, q3, 0, q4, q5] [c1, c2, 0, c3, 0, c4, c5] [0, 0, 0, 0, 0, 0, 0] [0, 0, 0, 0, 0, 0, 0] [0, 1, 3, 5, 6] []) s0_C) := hD.sub [0, 1, 2, 3, 4, 5] (by decide) (by rw [hw0]; rfl)
  have hK9 := hK.sub [0, 1, 2, 3, 4] (tys' := tl wd_C (gO b k h0 [q1, q2, 0, q3, 0, q4, q5] [c1, c2, 0, c3, 0, c4, c5] [0, 0, 0, 0, 0, 0, 0] [0, 0, 0, 0, 0, 0, 0] [0, 1, 3, 5, 6] [])) (by rw [gO_tl (by decide) (by decide)]; rfl)
  exact W.vret hx hb hr (fun t ht hW => ⟨⟨(gO b k h0 [q1, q2, 0, q3, 0, q4, q5] [c1, c2, 0, c3, 0, c4, c5] [0, 0, 0, 0, 0, 0, 0] [0, 0, 0, 0, 0, 0, 0] [0, 1, 3, 5, 6] [], s0_C), rfl, ⟨⟨_, _, _, _, rfl, rfl⟩, hD9⟩, by rw [ht]; exact hP9, va_K.moved hW.alike hK9⟩, hS.F ht⟩) hS.2.2 dX1_init_46
theorem dX2_init_0 : decode cX2_init 0 = .ok (.aload_n 0, 1) := by decide +kernel
theorem dX2_init_1 : decode cX2_init 1 = .ok (.invokespecial 3, 3) := by decide +kernel
theorem dX2_init_4 : decode cX2_init 4 = .ok (.aload_n 0, 1) := by decide +kernel
theorem dX2_init_5 : decode cX2_init 5 = .ok (.sipush 600, 3) := by decide +kernel
theorem dX2_init_8 : decode cX2_init 8 = .ok (.newarray .int, 2) := by decide +kernel
theorem dX2_init_10 : decode cX2_init 10 = .ok (.putfield 11, 3) := by decide +kernel
theorem dX2_init_13 : decode cX2_init 13 = .ok (.return_, 1) := by decide +kernel
abbrev rm_X2_init : Room := { frames := 1, cells := 1, slots := 600, locals := 20 }
set_option maxRecDepth 100000 in
set_option maxHeartbeats 4000000 in
theorem c_X2_init (l : Launch) (b : GG) (k h0 sz : Nat) (hk : cl_C k = 2) (hI : ∀ f, (ks_C 2)[f]? = some 0 → s0_I (ky k f) = 0) : Met l yX2_init (Cond.code yX2_init cX2_init 1 none :: gw_tbl) rm_X2_init (va_Pc [.ref h0] (pr_n b h0 sz 2 [.null, .int 0, .int 0])) (qc_n h0 sz (fun g S => ∃ qa ca ql cl, g = gO b k h0 qa ca ql cl [0] [] ∧ S = s0_C)) 1 600 (nwA h0 sz) := by
  refine Met.ofW (cc := cX2_init) (maxL := 1) (ret := none) (by decide) rfl ?_
  intro p e s m args below meth c s₁ B hml hv
  obtain ⟨rfl, hsz, hP, hK, hcs⟩ := hv
  have hx := B.exec
  have hb := B.bytes
  have hr := B.returns
  have hts0 := atoms_spec (ws := Cond.code yX2_init cX2_init 1 none :: gw_tbl) B.pre
  have hts : ∀ z ∈ gw_tbl, z.before _ s = true := fun z hz => hts0 z (List.mem_cons_of_mem _ hz)
  have hown : s.vm.findClass RX2 = some m.cls := findClass_of_methodNamed B.named
  have hlocks := B.notSynchronized
  have hin : meth.name = "<init>" := (name_of_methodNamed B.named B.method).1
  subst hsz
  have hA : ∀ q : Nat, s.heap.size ≤ q → nwA h0 s.heap.size q := fun q h => Or.inr h
  have hD : va_D (nwA h0 s.heap.size) [(h0, .inr (2, [.null, .int 0, .int 0]))] := vD_iff.mpr ⟨by simp, fun x hx => by rw [List.mem_singleton.mp hx]; exact Or.inl rfl⟩
  have hS : va_S (nwA h0 s.heap.size) s.heap s.heap [] := va_S.rf
  have hl := lv_entry ([.ref h0]) (n := 1) (Nat.le_of_ble_eq_true rfl)
  rw [lg_entry_eq]
  generalize (lg_sl ([.ref h0]) ++ List.replicate (1 - (lg_sl ([.ref h0])).length) Slot.unset).toArray = ls at hl ⊢
  have hl : lv_has ls 1 [(0, .ref h0)] := hl
  refine lv_aload_n hx hb dX2_init_0 rfl (lv_at hl 0 rfl) ?_
  refine W.objInit hx hb hown (hts _ wd_381) (hts _ wd_22) (hts _ wd_23) rfl (by rw [hml]; exact hl.1) rfl dX2_init_1 (Nat.le_of_ble_eq_true rfl) (Nat.le_of_ble_eq_true rfl) ?_
  refine W.eq (g2 := F0 m 4 ls []) rfl ?_
  refine lv_aload_n hx hb dX2_init_4 rfl (lv_at hl 0 rfl) ?_
  refine lv_sipush (v := 600) hx hb dX2_init_5 (by decide) ?_
  refine va_newa (atype := .int) hx hb (hts _ wd_148) (ty := .int) rfl hK hP hD hS hA (N' := 600) (a0 := (600, .inl (fun _ => 0))) (fun _ => rfl) (by decide) (by decide) (Nat.le_of_ble_eq_true rfl) (Nat.le_of_ble_eq_true rfl) (Nat.le_of_ble_eq_true rfl) dX2_init_8 (fun q1 c1 H hK hP hD hS => ?_)
  have hP : va_P (gg_D b) vwCl [(h0, .inr (2, [.null, .int 0, .int 0])), (q1, .inl (c1, 600, .inl (fun _ => 0)))] H := hP
  have hD : va_D (nwA h0 s.heap.size) [(h0, .inr (2, [.null, .int 0, .int 0])), (q1, .inl (c1, 600, .inl (fun _ => 0)))] := hD
  have hK : va_K (gg_D b) vwCl [(c1, FieldType.int)] s := hK
  refine va_putF (D := gg_D b) (ci := 2) (v := .ref q1) (ty := (.array .int)) (C := RX2) (T := TX2) (N := 3) hx hb hts in_X2 tyX2 tyX2_ok nmX2 hown hK hP hD hS 0 rfl rfl 0 (by decide) (hts _ wd_382) (fun _ h9 => h9) rfl hin rfl (by decide +kernel) rfl rfl (Nat.le_of_ble_eq_true rfl) dX2_init_10 (fun H locs hP hD hS => ?_)
  have hP : va_P (gg_D b) vwCl [(h0, .inr (2, [.ref q1, .int 0, .int 0])), (q1, .inl (c1, 600, .inl (fun _ => 0)))] H := hP
  have hD : va_D (nwA h0 s.heap.size) [(h0, .inr (2, [.ref q1, .int 0, .int 0])), (q1, .inl (c1, 600, .inl (fun _ => 0)))] := hD
  have hw0 : wl wd_C (gO b k h0 [q1, 0, 0] [c1, 0, 0] [0, 0, 0] [0, 0, 0] [0] []) s0_C = [(h0, .inr (2, [.ref q1, .int 0, .int 0])), (q1, .inl (c1, 600, .inl (fun _ => 0)))] := by
    rw [gO_wl hk (by decide) (by decide)]
    have e0 : ∀ f, (ks_C 2)[f]? = some 0 → st_I s0_C (ky k f) = 0 := hI
    have i1 := e0 1 rfl
    have i2 := e0 2 rfl
    simp [ks_C, lt_C, List.range_succ, kv, gO, gg_a, gg_l, ky_mod, st_A, st_L, s0_C, st_I, show s0_I (ky k 1) = 0 from i1, show s0_I (ky k 2) = 0 from i2]
  have hP9 := hP.sub [0, 1] hw0.symm
  have hD9 : va_D (nwA h0 s.heap.size) (wl wd_C (gO b k h0 [q1, 0, 0] [c1, 0, 0] [0, 0, 0] [0, 0, 0] [0] []) s0_C) := hD.sub [0, 1] (by decide) (by rw [hw0]; rfl)
  have hK9 := hK.sub [0] (tys' := tl wd_C (gO b k h0 [q1, 0, 0] [c1, 0, 0] [0, 0, 0] [0, 0, 0] [0] [])) (by rw [gO_tl (by decide) (by decide)]; rfl)
  exact W.vret hx hb hr (fun t ht hW => ⟨⟨(gO b k h0 [q1, 0, 0] [c1, 0, 0] [0, 0, 0] [0, 0, 0] [0] [], s0_C), rfl, ⟨⟨_, _, _, _, rfl, rfl⟩, hD9⟩, by rw [ht]; exact hP9, va_K.moved hW.alike hK9⟩, hS.F ht⟩) hS.2.2 dX2_init_13
