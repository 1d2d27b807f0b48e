section LK
variable {p : Program} {l : Launch} {e : Env} {s : State} {m : MethodId} {below : List Frame} {meth : Method} {c : Code} {b L : Nat} {xs : Nat → Int32} {g gm : GG} {S M : St} {H : Heap} {locs : List Loc} {cells slots : Nat} {Q : State → Prop} {ls : Array Slot} {x3 : Int32}
set_option maxRecDepth 100000 in
set_option maxHeartbeats 4000000 in
theorem lc_0 (C0 : lw_At p s m meth c b L xs) (hc : LC g gm s) (hw : RW S M) (h : LSw g gm s S M H locs) (h1 : vp_in (x3 + 1) L) (h2 : vp_in (x3 + 2) L) (h3 : vp_in (x3 + 3) L) (h4 : vp_in (x3 + 4) L) (h5 : vp_in (x3 + 5) L) (hfit : cells + 0 ≤ room_1.cells ∧ slots + 0 ≤ room_1.slots) (hl : lv_has ls 4 [(0, .ref b), (1, .ref (gg_o g 0)), (2, .ref (gg_o gm 0)), (3, .int x3)]) (kk : ∀ (S2 M2 : St) (H2 : Heap) (locs2 : List Loc), RW S2 M2 → LSw g gm s S2 M2 H2 locs2 → W p l e room_1 s m #[Value.ref b] below meth c H2 locs2 cells slots Q (F0 m 1750 ls [])) : W p l e room_1 s m #[Value.ref b] below meth c H locs cells slots Q (F0 m 224 ls []) := by
  obtain ⟨hx, hb, hr, hml, hown0, hts, hX, hbl, hlocks, hgv⟩ := C0
  have hown : s.vm.findClass RL = some m.cls := hown0
  have htsG : ∀ z ∈ gw_tbl, z.before #[Value.ref b] s = true := fun z hz => hts z (gw_lw z hz)
  have hbA : ¬ (fun z : Nat => s.heap.size ≤ z) b := Nat.not_le.mpr hbl
  obtain ⟨hP, hP2, hS⟩ := h
  obtain ⟨A, kt, sd, hA, hC, hM⟩ := hw
  obtain ⟨v, S2, M2, e1, e2, hw2⟩ := Q_feed hA hC hM (xs (x3 + 1).toNatClampNeg) (xs (x3 + 2).toNatClampNeg) (xs (x3 + 3).toNatClampNeg) (xs (x3 + 4).toNatClampNeg) (xs (x3 + 5).toNatClampNeg)
  refine lv_aload_n hx hb dL_law_224 rfl (lv_at hl 1 rfl) ?_
  refine lv_aload_n hx hb dL_law_225 rfl (lv_at hl 0 rfl) ?_
  refine lv_iload_n hx hb dL_law_226 rfl (lv_at hl 3 rfl) ?_
  refine lv_iconst (v := 1) hx hb dL_law_227 (by decide) ?_
  refine lv_iadd hx hb dL_law_228 ?_
  refine va_sld hx hb hX hbl hbA hS h1 dL_law_229 ?_
  refine lv_aload_n hx hb dL_law_230 rfl (lv_at hl 0 rfl) ?_
  refine lv_iload_n hx hb dL_law_231 rfl (lv_at hl 3 rfl) ?_
  refine lv_iconst (v := 2) hx hb dL_law_232 (by decide) ?_
  refine lv_iadd hx hb dL_law_233 ?_
  refine va_sld hx hb hX hbl hbA hS h2 dL_law_234 ?_
  refine lv_aload_n hx hb dL_law_235 rfl (lv_at hl 0 rfl) ?_
  refine lv_iload_n hx hb dL_law_236 rfl (lv_at hl 3 rfl) ?_
  refine lv_iconst (v := 3) hx hb dL_law_237 (by decide) ?_
  refine lv_iadd hx hb dL_law_238 ?_
  refine va_sld hx hb hX hbl hbA hS h3 dL_law_239 ?_
  refine lv_aload_n hx hb dL_law_240 rfl (lv_at hl 0 rfl) ?_
  refine lv_iload_n hx hb dL_law_241 rfl (lv_at hl 3 rfl) ?_
  refine lv_iconst (v := 4) hx hb dL_law_242 (by decide) ?_
  refine lv_iadd hx hb dL_law_243 ?_
  refine va_sld hx hb hX hbl hbA hS h4 dL_law_244 ?_
  refine lv_aload_n hx hb dL_law_245 rfl (lv_at hl 0 rfl) ?_
  refine lv_iload_n hx hb dL_law_246 rfl (lv_at hl 3 rfl) ?_
  refine lv_iconst (v := 5) hx hb dL_law_247 (by decide) ?_
  refine lv_iadd hx hb dL_law_248 ?_
  refine va_sld hx hb hX hbl hbA hS h5 dL_law_249 ?_
  refine r_L_w (w := wd_C) (g := g) (S := S) (As := [.int (xs (x3 + 1).toNatClampNeg), .int (xs (x3 + 2).toNatClampNeg), .int (xs (x3 + 3).toNatClampNeg), .int (xs (x3 + 4).toNatClampNeg), .int (xs (x3 + 5).toNatClampNeg)]) (rest := []) (q := (v, S2)) hx hb hml hown htsG hc.2.2.2.2.1 hc.2.2.2.2.2.2.1 hc.1 hP hP2 (LC_1 hc M) hS hc.2.2.2.2.2.2.2.2.1 hc.2.1.1.2.1 (by rw [hc.2.1.1.1]; rfl) lkL_13 (k_X5_feed l g hc.1 hc.2.1 S (xs (x3 + 1).toNatClampNeg) (xs (x3 + 2).toNatClampNeg) (xs (x3 + 3).toNatClampNeg) (xs (x3 + 4).toNatClampNeg) (xs (x3 + 5).toNatClampNeg) (v, S2) e1) ⟨⟨rfl, rfl⟩, Nat.le_of_ble_eq_true rfl, Nat.le_of_ble_eq_true rfl⟩ rfl hl.1 rfl (Nat.le_of_ble_eq_true rfl) dL_law_250 hfit (fun H locs hP hP2 hS => ?_)
  refine lv_aload_n hx hb dL_law_253 rfl (lv_at hl 2 rfl) ?_
  refine lv_aload_n hx hb dL_law_254 rfl (lv_at hl 0 rfl) ?_
  refine lv_iload_n hx hb dL_law_255 rfl (lv_at hl 3 rfl) ?_
  refine lv_iconst (v := 1) hx hb dL_law_256 (by decide) ?_
  refine lv_iadd hx hb dL_law_257 ?_
  refine va_sld hx hb hX hbl hbA hS h1 dL_law_258 ?_
  refine lv_aload_n hx hb dL_law_259 rfl (lv_at hl 0 rfl) ?_
  refine lv_iload_n hx hb dL_law_260 rfl (lv_at hl 3 rfl) ?_
  refine lv_iconst (v := 2) hx hb dL_law_261 (by decide) ?_
  refine lv_iadd hx hb dL_law_262 ?_
  refine va_sld hx hb hX hbl hbA hS h2 dL_law_263 ?_
  refine lv_aload_n hx hb dL_law_264 rfl (lv_at hl 0 rfl) ?_
  refine lv_iload_n hx hb dL_law_265 rfl (lv_at hl 3 rfl) ?_
  refine lv_iconst (v := 3) hx hb dL_law_266 (by decide) ?_
  refine lv_iadd hx hb dL_law_267 ?_
  refine va_sld hx hb hX hbl hbA hS h3 dL_law_268 ?_
  refine lv_aload_n hx hb dL_law_269 rfl (lv_at hl 0 rfl) ?_
  refine lv_iload_n hx hb dL_law_270 rfl (lv_at hl 3 rfl) ?_
  refine lv_iconst (v := 4) hx hb dL_law_271 (by decide) ?_
  refine lv_iadd hx hb dL_law_272 ?_
  refine va_sld hx hb hX hbl hbA hS h4 dL_law_273 ?_
  refine lv_aload_n hx hb dL_law_274 rfl (lv_at hl 0 rfl) ?_
  refine lv_iload_n hx hb dL_law_275 rfl (lv_at hl 3 rfl) ?_
  refine lv_iconst (v := 5) hx hb dL_law_276 (by decide) ?_
  refine lv_iadd hx hb dL_law_277 ?_
  refine va_sld hx hb hX hbl hbA hS h5 dL_law_278 ?_
  refine r_L_w (w := wd_M) (g := gm) (S := M) (As := [.int (xs (x3 + 1).toNatClampNeg), .int (xs (x3 + 2).toNatClampNeg), .int (xs (x3 + 3).toNatClampNeg), .int (xs (x3 + 4).toNatClampNeg), .int (xs (x3 + 5).toNatClampNeg)]) (rest := [.int (v)]) (q := (v, M2)) hx hb hml hown htsG hc.2.2.2.2.2.1 trivial hc.2.2.1 hP2 hP (LC_2 hc S2) hS hc.2.2.2.2.2.2.2.2.2 hc.2.2.2.1.2.1 (by rw [hc.2.2.2.1.1]; rfl) lkL_17 (k_X6_feed l gm hc.2.2.1 hc.2.2.2.1 M (xs (x3 + 1).toNatClampNeg) (xs (x3 + 2).toNatClampNeg) (xs (x3 + 3).toNatClampNeg) (xs (x3 + 4).toNatClampNeg) (xs (x3 + 5).toNatClampNeg) (v, M2) e2) ⟨⟨rfl, rfl⟩, Nat.le_of_ble_eq_true rfl, Nat.le_of_ble_eq_true rfl⟩ rfl hl.1 rfl (Nat.le_of_ble_eq_true rfl) dL_law_279 hfit (fun H locs hP2 hP hS => ?_)
  refine lv_icmp_eq (tgt := 1750) hx hb dL_law_282 rfl (fun _ => ?_) (fun hz2 => absurd rfl hz2)
  exact kk _ _ _ _ hw2 ⟨hP, hP2, hS⟩
set_option maxRecDepth 100000 in
set_option maxHeartbeats 4000000 in
theorem lc_1 (C0 : lw_At p s m meth c b L xs) (hc : LC g gm s) (hw : RW S M) (h : LSw g gm s S M H locs) (h1 : vp_in (x3 + 1) L) (h2 : vp_in (x3 + 2) L) (h3 : vp_in (x3 + 3) L) (h4 : vp_in (x3 + 4) L) (h5 : vp_in (x3 + 5) L) (hfit : cells + 0 ≤ room_1.cells ∧ slots + 0 ≤ room_1.slots) (hl : lv_has ls 4 [(0, .ref b), (1, .ref (gg_o g 0)), (2, .ref (gg_o gm 0)), (3, .int x3)]) (kk : ∀ (S2 M2 : St) (H2 : Heap) (locs2 : List Loc), RW S2 M2 → LSw g gm s S2 M2 H2 locs2 → W p l e room_1 s m #[Value.ref b] below meth c H2 locs2 cells slots Q (F0 m 1750 ls [])) : W p l e room_1 s m #[Value.ref b] below meth c H locs cells slots Q (F0 m 287 ls []) := by
  obtain ⟨hx, hb, hr, hml, hown0, hts, hX, hbl, hlocks, hgv⟩ := C0
  have hown : s.vm.findClass RL = some m.cls := hown0
  have htsG : ∀ z ∈ gw_tbl, z.before #[Value.ref b] s = true := fun z hz => hts z (gw_lw z hz)
  have hbA : ¬ (fun z : Nat => s.heap.size ≤ z) b := Nat.not_le.mpr hbl
  obtain ⟨hP, hP2, hS⟩ := h
  obtain ⟨A, kt, sd, hA, hC, hM⟩ := hw
  obtain ⟨v, S2, M2, e1, e2, hw2⟩ := Q_back hA hC hM (xs (x3 + 1).toNatClampNeg)
  refine lv_aload_n hx hb dL_law_287 rfl (lv_at hl 1 rfl) ?_
  refine lv_aload_n hx hb dL_law_288 rfl (lv_at hl 0 rfl) ?_
  refine lv_iload_n hx hb dL_law_289 rfl (lv_at hl 3 rfl) ?_
  refine lv_iconst (v := 1) hx hb dL_law_290 (by decide) ?_
  refine lv_iadd hx hb dL_law_291 ?_
  refine va_sld hx hb hX hbl hbA hS h1 dL_law_292 ?_
  refine r_L_w (w := wd_C) (g := g) (S := S) (As := [.int (xs (x3 + 1).toNatClampNeg)]) (rest := []) (q := (v, S2)) hx hb hml hown htsG hc.2.2.2.2.1 hc.2.2.2.2.2.2.1 hc.1 hP hP2 (LC_1 hc M) hS hc.2.2.2.2.2.2.2.2.1 hc.2.1.1.2.1 (by rw [hc.2.1.1.1]; rfl) lkL_18 (k_X5_back l g hc.1 hc.2.1 S (xs (x3 + 1).toNatClampNeg) (v, S2) e1) ⟨⟨rfl, rfl⟩, Nat.le_of_ble_eq_true rfl, Nat.le_of_ble_eq_true rfl⟩ rfl hl.1 rfl (Nat.le_of_ble_eq_true rfl) dL_law_293 hfit (fun H locs hP hP2 hS => ?_)
  refine lv_aload_n hx hb dL_law_296 rfl (lv_at hl 2 rfl) ?_
  refine lv_aload_n hx hb dL_law_297 rfl (lv_at hl 0 rfl) ?_
  refine lv_iload_n hx hb dL_law_298 rfl (lv_at hl 3 rfl) ?_
  refine lv_iconst (v := 1) hx hb dL_law_299 (by decide) ?_
  refine lv_iadd hx hb dL_law_300 ?_
  refine va_sld hx hb hX hbl hbA hS h1 dL_law_301 ?_
  refine r_L_w (w := wd_M) (g := gm) (S := M) (As := [.int (xs (x3 + 1).toNatClampNeg)]) (rest := [.int (v)]) (q := (v, M2)) hx hb hml hown htsG hc.2.2.2.2.2.1 trivial hc.2.2.1 hP2 hP (LC_2 hc S2) hS hc.2.2.2.2.2.2.2.2.2 hc.2.2.2.1.2.1 (by rw [hc.2.2.2.1.1]; rfl) lkL_22 (k_X6_back l gm hc.2.2.1 hc.2.2.2.1 M (xs (x3 + 1).toNatClampNeg) (v, M2) e2) ⟨⟨rfl, rfl⟩, Nat.le_of_ble_eq_true rfl, Nat.le_of_ble_eq_true rfl⟩ rfl hl.1 rfl (Nat.le_of_ble_eq_true rfl) dL_law_302 hfit (fun H locs hP2 hP hS => ?_)
  refine lv_icmp_eq (tgt := 1750) hx hb dL_law_305 rfl (fun _ => ?_) (fun hz2 => absurd rfl hz2)
  exact kk _ _ _ _ hw2 ⟨hP, hP2, hS⟩
set_option maxRecDepth 100000 in
set_option maxHeartbeats 4000000 in
theorem lc_2 (C0 : lw_At p s m meth c b L xs) (hc : LC g gm s) (hw : RW S M) (h : LSw g gm s S M H locs) (h1 : vp_in (x3 + 1) L) (h2 : vp_in (x3 + 2) L) (h3 : vp_in (x3 + 3) L) (h4 : vp_in (x3 + 4) L) (h5 : vp_in (x3 + 5) L) (hfit : cells + 0 ≤ room_1.cells ∧ slots + 0 ≤ room_1.slots) (hl : lv_has ls 4 [(0, .ref b), (1, .ref (gg_o g 0)), (2, .ref (gg_o gm 0)), (3, .int x3)]) (kk : ∀ (S2 M2 : St) (H2 : Heap) (locs2 : List Loc), RW S2 M2 → LSw g gm s S2 M2 H2 locs2 → W p l e room_1 s m #[Value.ref b] below meth c H2 locs2 cells slots Q (F0 m 1750 ls [])) : W p l e room_1 s m #[Value.ref b] below meth c H locs cells slots Q (F0 m 310 ls []) := by
  obtain ⟨hx, hb, hr, hml, hown0, hts, hX, hbl, hlocks, hgv⟩ := C0
  have hown : s.vm.findClass RL = some m.cls := hown0
  have htsG : ∀ z ∈ gw_tbl, z.before #[Value.ref b] s = true := fun z hz => hts z (gw_lw z hz)
  have hbA : ¬ (fun z : Nat => s.heap.size ≤ z) b := Nat.not_le.mpr hbl
  obtain ⟨hP, hP2, hS⟩ := h
  obtain ⟨A, kt, sd, hA, hC, hM⟩ := hw
  obtain ⟨v, S2, M2, e1, e2, hw2⟩ := Q_read hA hC hM 
  refine lv_aload_n hx hb dL_law_310 rfl (lv_at hl 1 rfl) ?_
  refine r_L_w (w := wd_C) (g := g) (S := S) (As := []) (rest := []) (q := (v, S2)) hx hb hml hown htsG hc.2.2.2.2.1 hc.2.2.2.2.2.2.1 hc.1 hP hP2 (LC_1 hc M) hS hc.2.2.2.2.2.2.2.2.1 hc.2.1.1.2.1 (by rw [hc.2.1.1.1]; rfl) lkL_23 (k_X5_read l g hc.1 hc.2.1 S  (v, S2) e1) ⟨⟨rfl, rfl⟩, Nat.le_of_ble_eq_true rfl, Nat.le_of_ble_eq_true rfl⟩ rfl hl.1 rfl (Nat.le_of_ble_eq_true rfl) dL_law_311 hfit (fun H locs hP hP2 hS => ?_)
  refine lv_aload_n hx hb dL_law_314 rfl (lv_at hl 2 rfl) ?_
  refine r_L_w (w := wd_M) (g := gm) (S := M) (As := []) (rest := [.int (v)]) (q := (v, M2)) hx hb hml hown htsG hc.2.2.2.2.2.1 trivial hc.2.2.1 hP2 hP (LC_2 hc S2) hS hc.2.2.2.2.2.2.2.2.2 hc.2.2.2.1.2.1 (by rw [hc.2.2.2.1.1]; rfl) lkL_27 (k_X6_read l gm hc.2.2.1 hc.2.2.2.1 M  (v, M2) e2) ⟨⟨rfl, rfl⟩, Nat.le_of_ble_eq_true rfl, Nat.le_of_ble_eq_true rfl⟩ rfl hl.1 rfl (Nat.le_of_ble_eq_true rfl) dL_law_315 hfit (fun H locs hP2 hP hS => ?_)
  refine lv_icmp_eq (tgt := 1750) hx hb dL_law_318 rfl (fun _ => ?_) (fun hz2 => absurd rfl hz2)
  exact kk _ _ _ _ hw2 ⟨hP, hP2, hS⟩
set_option maxRecDepth 100000 in
set_option maxHeartbeats 4000000 in
theorem lc_3 (C0 : lw_At p s m meth c b L xs) (hc : LC g gm s) (hw : RW S M) (h : LSw g gm s S M H locs) (h1 : vp_in (x3 + 1) L) (h2 : vp_in (x3 + 2) L) (h3 : vp_in (x3 + 3) L) (h4 : vp_in (x3 + 4) L) (h5 : vp_in (x3 + 5) L) (hfit : cells + 0 ≤ room_1.cells ∧ slots + 0 ≤ room_1.slots) (hl : lv_has ls 4 [(0, .ref b), (1, .ref (gg_o g 0)), (2, .ref (gg_o gm 0)), (3, .int x3)]) (kk : ∀ (S2 M2 : St) (H2 : Heap) (locs2 : List Loc), RW S2 M2 → LSw g gm s S2 M2 H2 locs2 → W p l e room_1 s m #[Value.ref b] below meth c H2 locs2 cells slots Q (F0 m 1750 ls [])) : W p l e room_1 s m #[Value.ref b] below meth c H locs cells slots Q (F0 m 323 ls []) := by
  obtain ⟨hx, hb, hr, hml, hown0, hts, hX, hbl, hlocks, hgv⟩ := C0
  have hown : s.vm.findClass RL = some m.cls := hown0
  have htsG : ∀ z ∈ gw_tbl, z.before #[Value.ref b] s = true := fun z hz => hts z (gw_lw z hz)
  have hbA : ¬ (fun z : Nat => s.heap.size ≤ z) b := Nat.not_le.mpr hbl
  obtain ⟨hP, hP2, hS⟩ := h
  obtain ⟨A, kt, sd, hA, hC, hM⟩ := hw
  obtain ⟨e1, e2⟩ := Q_place hC hM
  have hw2 : RW S M := ⟨A, kt, sd, hA, hC, hM⟩
  refine lv_aload_n hx hb dL_law_323 rfl (lv_at hl 1 rfl) ?_
  refine r_L_i (w := wd_C) (g := g) (S := S) (As := []) (rest := []) (q := (ap A)) hx hb hml hown htsG hc.2.2.2.2.1 hc.2.2.2.2.2.2.1 hc.1 hP hP2 (LC_1 hc M) hS hc.2.2.2.2.2.2.2.2.1 hc.2.1.1.2.1 (by rw [hc.2.1.1.1]; rfl) lkL_28 (k_X5_place l g hc.1 hc.2.1 S  (ap A) e1) ⟨⟨rfl, rfl⟩, Nat.le_of_ble_eq_true rfl, Nat.le_of_ble_eq_true rfl⟩ rfl hl.1 rfl (Nat.le_of_ble_eq_true rfl) dL_law_324 hfit (fun H locs hP hP2 hS => ?_)
  refine lv_aload_n hx hb dL_law_327 rfl (lv_at hl 2 rfl) ?_
  refine r_L_i (w := wd_M) (g := gm) (S := M) (As := []) (rest := [.int ((ap A))]) (q := (ap A)) hx hb hml hown htsG hc.2.2.2.2.2.1 trivial hc.2.2.1 hP2 hP (LC_2 hc S) hS hc.2.2.2.2.2.2.2.2.2 hc.2.2.2.1.2.1 (by rw [hc.2.2.2.1.1]; rfl) lkL_31 (k_X6_place l gm hc.2.2.1 hc.2.2.2.1 M  (ap A) e2) ⟨⟨rfl, rfl⟩, Nat.le_of_ble_eq_true rfl, Nat.le_of_ble_eq_true rfl⟩ rfl hl.1 rfl (Nat.le_of_ble_eq_true rfl) dL_law_328 hfit (fun H locs hP2 hP hS => ?_)
  refine lv_icmp_eq (tgt := 1750) hx hb dL_law_331 rfl (fun _ => ?_) (fun hz2 => absurd rfl hz2)
  exact kk _ _ _ _ hw2 ⟨hP, hP2, hS⟩
set_option maxRecDepth 100000 in
set_option maxHeartbeats 4000000 in
theorem lc_4 (C0 : lw_At p s m meth c b L xs) (hc : LC g gm s) (hw : RW S M) (h : LSw g gm s S M H locs) (h1 : vp_in (x3 + 1) L) (h2 : vp_in (x3 + 2) L) (h3 : vp_in (x3 + 3) L) (h4 : vp_in (x3 + 4) L) (h5 : vp_in (x3 + 5) L) (hfit : cells + 0 ≤ room_1.cells ∧ slots + 0 ≤ room_1.slots) (hl : lv_has ls 4 [(0, .ref b), (1, .ref (gg_o g 0)), (2, .ref (gg_o gm 0)), (3, .int x3)]) (kk : ∀ (S2 M2 : St) (H2 : Heap) (locs2 : List Loc), RW S2 M2 → LSw g gm s S2 M2 H2 locs2 → W p l e room_1 s m #[Value.ref b] below meth c H2 locs2 cells slots Q (F0 m 1750 ls [])) : W p l e room_1 s m #[Value.ref b] below meth c H locs cells slots Q (F0 m 336 ls []) := by
  obtain ⟨hx, hb, hr, hml, hown0, hts, hX, hbl, hlocks, hgv⟩ := C0
  have hown : s.vm.findClass RL = some m.cls := hown0
  have htsG : ∀ z ∈ gw_tbl, z.before #[Value.ref b] s = true := fun z hz => hts z (gw_lw z hz)
  have hbA : ¬ (fun z : Nat => s.heap.size ≤ z) b := Nat.not_le.mpr hbl
  obtain ⟨hP, hP2, hS⟩ := h
  obtain ⟨A, kt, sd, hA, hC, hM⟩ := hw
  obtain ⟨v, S2, M2, e1, e2, hw2⟩ := Q_man hA hC hM (xs (x3 + 1).toNatClampNeg) (xs (x3 + 2).toNatClampNeg) (xs (x3 + 3).toNatClampNeg)
  obtain ⟨e1, rS⟩ := pu_s e1
  rw [rS] at hw2
  obtain ⟨e2, rM⟩ := pu_s e2
  rw [rM] at hw2
  refine lv_aload_n hx hb dL_law_336 rfl (lv_at hl 1 rfl) ?_
  refine lv_aload_n hx hb dL_law_337 rfl (lv_at hl 0 rfl) ?_
  refine lv_iload_n hx hb dL_law_338 rfl (lv_at hl 3 rfl) ?_
  refine lv_iconst (v := 1) hx hb dL_law_339 (by decide) ?_
  refine lv_iadd hx hb dL_law_340 ?_
  refine va_sld hx hb hX hbl hbA hS h1 dL_law_341 ?_
  refine lv_aload_n hx hb dL_law_342 rfl (lv_at hl 0 rfl) ?_
  refine lv_iload_n hx hb dL_law_343 rfl (lv_at hl 3 rfl) ?_
  refine lv_iconst (v := 2) hx hb dL_law_344 (by decide) ?_
  refine lv_iadd hx hb dL_law_345 ?_
  refine va_sld hx hb hX hbl hbA hS h2 dL_law_346 ?_
  refine lv_aload_n hx hb dL_law_347 rfl (lv_at hl 0 rfl) ?_
  refine lv_iload_n hx hb dL_law_348 rfl (lv_at hl 3 rfl) ?_
  refine lv_iconst (v := 3) hx hb dL_law_349 (by decide) ?_
  refine lv_iadd hx hb dL_law_350 ?_
  refine va_sld hx hb hX hbl hbA hS h3 dL_law_351 ?_
  refine r_L_i (w := wd_C) (g := g) (S := S) (As := [.int (xs (x3 + 1).toNatClampNeg), .int (xs (x3 + 2).toNatClampNeg), .int (xs (x3 + 3).toNatClampNeg)]) (rest := []) (q := v) hx hb hml hown htsG hc.2.2.2.2.1 hc.2.2.2.2.2.2.1 hc.1 hP hP2 (LC_1 hc M) hS hc.2.2.2.2.2.2.2.2.1 hc.2.1.1.2.1 (by rw [hc.2.1.1.1]; rfl) lkL_32 (k_X5_man l g hc.1 hc.2.1 S (xs (x3 + 1).toNatClampNeg) (xs (x3 + 2).toNatClampNeg) (xs (x3 + 3).toNatClampNeg) v e1) ⟨⟨rfl, rfl⟩, Nat.le_of_ble_eq_true rfl, Nat.le_of_ble_eq_true rfl⟩ rfl hl.1 rfl (Nat.le_of_ble_eq_true rfl) dL_law_352 hfit (fun H locs hP hP2 hS => ?_)
  refine lv_aload_n hx hb dL_law_355 rfl (lv_at hl 2 rfl) ?_
  refine lv_aload_n hx hb dL_law_356 rfl (lv_at hl 0 rfl) ?_
  refine lv_iload_n hx hb dL_law_357 rfl (lv_at hl 3 rfl) ?_
  refine lv_iconst (v := 1) hx hb dL_law_358 (by decide) ?_
  refine lv_iadd hx hb dL_law_359 ?_
  refine va_sld hx hb hX hbl hbA hS h1 dL_law_360 ?_
  refine lv_aload_n hx hb dL_law_361 rfl (lv_at hl 0 rfl) ?_
  refine lv_iload_n hx hb dL_law_362 rfl (lv_at hl 3 rfl) ?_
  refine lv_iconst (v := 2) hx hb dL_law_363 (by decide) ?_
  refine lv_iadd hx hb dL_law_364 ?_
  refine va_sld hx hb hX hbl hbA hS h2 dL_law_365 ?_
  refine lv_aload_n hx hb dL_law_366 rfl (lv_at hl 0 rfl) ?_
  refine lv_iload_n hx hb dL_law_367 rfl (lv_at hl 3 rfl) ?_
  refine lv_iconst (v := 3) hx hb dL_law_368 (by decide) ?_
  refine lv_iadd hx hb dL_law_369 ?_
  refine va_sld hx hb hX hbl hbA hS h3 dL_law_370 ?_
  refine r_L_i (w := wd_M) (g := gm) (S := M) (As := [.int (xs (x3 + 1).toNatClampNeg), .int (xs (x3 + 2).toNatClampNeg), .int (xs (x3 + 3).toNatClampNeg)]) (rest := [.int (v)]) (q := v) hx hb hml hown htsG hc.2.2.2.2.2.1 trivial hc.2.2.1 hP2 hP (LC_2 hc S) hS hc.2.2.2.2.2.2.2.2.2 hc.2.2.2.1.2.1 (by rw [hc.2.2.2.1.1]; rfl) lkL_36 (k_X6_man l gm hc.2.2.1 hc.2.2.2.1 M (xs (x3 + 1).toNatClampNeg) (xs (x3 + 2).toNatClampNeg) (xs (x3 + 3).toNatClampNeg) v e2) ⟨⟨rfl, rfl⟩, Nat.le_of_ble_eq_true rfl, Nat.le_of_ble_eq_true rfl⟩ rfl hl.1 rfl (Nat.le_of_ble_eq_true rfl) dL_law_371 hfit (fun H locs hP2 hP hS => ?_)
  refine lv_icmp_eq (tgt := 1750) hx hb dL_law_374 rfl (fun _ => ?_) (fun hz2 => absurd rfl hz2)
  exact kk _ _ _ _ hw2 ⟨hP, hP2, hS⟩
set_option maxRecDepth 100000 in
set_option maxHeartbeats 4000000 in
theorem lc_5 (C0 : lw_At p s m meth c b L xs) (hc : LC g gm s) (hw : RW S M) (h : LSw g gm s S M H locs) (h1 : vp_in (x3 + 1) L) (h2 : vp_in (x3 + 2) L) (h3 : vp_in (x3 + 3) L) (h4 : vp_in (x3 + 4) L) (h5 : vp_in (x3 + 5) L) (hfit : cells + 0 ≤ room_1.cells ∧ slots + 0 ≤ room_1.slots) (hl : lv_has ls 4 [(0, .ref b), (1, .ref (gg_o g 0)), (2, .ref (gg_o gm 0)), (3, .int x3)]) (kk : ∀ (S2 M2 : St) (H2 : Heap) (locs2 : List Loc), RW S2 M2 → LSw g gm s S2 M2 H2 locs2 → W p l e room_1 s m #[Value.ref b] below meth c H2 locs2 cells slots Q (F0 m 1750 ls [])) : W p l e room_1 s m #[Value.ref b] below meth c H locs cells slots Q (F0 m 379 ls []) := by
  obtain ⟨hx, hb, hr, hml, hown0, hts, hX, hbl, hlocks, hgv⟩ := C0
  have hown : s.vm.findClass RL = some m.cls := hown0
  have htsG : ∀ z ∈ gw_tbl, z.before #[Value.ref b] s = true := fun z hz => hts z (gw_lw z hz)
  have hbA : ¬ (fun z : Nat => s.heap.size ≤ z) b := Nat.not_le.mpr hbl
  obtain ⟨hP, hP2, hS⟩ := h
  obtain ⟨A, kt, sd, hA, hC, hM⟩ := hw
  obtain ⟨v, S2, M2, e1, e2, hw2⟩ := Q_mirror hA hC hM (xs (x3 + 1).toNatClampNeg) (xs (x3 + 2).toNatClampNeg) (xs (x3 + 3).toNatClampNeg)
  obtain ⟨e1, rS⟩ := pu_s e1
  rw [rS] at hw2
  refine lv_aload_n hx hb dL_law_379 rfl (lv_at hl 1 rfl) ?_
  refine lv_aload_n hx hb dL_law_380 rfl (lv_at hl 0 rfl) ?_
  refine lv_iload_n hx hb dL_law_381 rfl (lv_at hl 3 rfl) ?_
  refine lv_iconst (v := 1) hx hb dL_law_382 (by decide) ?_
  refine lv_iadd hx hb dL_law_383 ?_
  refine va_sld hx hb hX hbl hbA hS h1 dL_law_384 ?_
  refine lv_aload_n hx hb dL_law_385 rfl (lv_at hl 0 rfl) ?_
  refine lv_iload_n hx hb dL_law_386 rfl (lv_at hl 3 rfl) ?_
  refine lv_iconst (v := 2) hx hb dL_law_387 (by decide) ?_
  refine lv_iadd hx hb dL_law_388 ?_
  refine va_sld hx hb hX hbl hbA hS h2 dL_law_389 ?_
  refine lv_aload_n hx hb dL_law_390 rfl (lv_at hl 0 rfl) ?_
  refine lv_iload_n hx hb dL_law_391 rfl (lv_at hl 3 rfl) ?_
  refine lv_iconst (v := 3) hx hb dL_law_392 (by decide) ?_
  refine lv_iadd hx hb dL_law_393 ?_
  refine va_sld hx hb hX hbl hbA hS h3 dL_law_394 ?_
  refine r_L_i (w := wd_C) (g := g) (S := S) (As := [.int (xs (x3 + 1).toNatClampNeg), .int (xs (x3 + 2).toNatClampNeg), .int (xs (x3 + 3).toNatClampNeg)]) (rest := []) (q := v) hx hb hml hown htsG hc.2.2.2.2.1 hc.2.2.2.2.2.2.1 hc.1 hP hP2 (LC_1 hc M) hS hc.2.2.2.2.2.2.2.2.1 hc.2.1.1.2.1 (by rw [hc.2.1.1.1]; rfl) lkL_37 (k_X5_mirror l g hc.1 hc.2.1 S (xs (x3 + 1).toNatClampNeg) (xs (x3 + 2).toNatClampNeg) (xs (x3 + 3).toNatClampNeg) v e1) ⟨⟨rfl, rfl⟩, Nat.le_of_ble_eq_true rfl, Nat.le_of_ble_eq_true rfl⟩ rfl hl.1 rfl (Nat.le_of_ble_eq_true rfl) dL_law_395 hfit (fun H locs hP hP2 hS => ?_)
  refine lv_aload_n hx hb dL_law_398 rfl (lv_at hl 2 rfl) ?_
  refine lv_aload_n hx hb dL_law_399 rfl (lv_at hl 0 rfl) ?_
  refine lv_iload_n hx hb dL_law_400 rfl (lv_at hl 3 rfl) ?_
  refine lv_iconst (v := 1) hx hb dL_law_401 (by decide) ?_
  refine lv_iadd hx hb dL_law_402 ?_
  refine va_sld hx hb hX hbl hbA hS h1 dL_law_403 ?_
  refine lv_aload_n hx hb dL_law_404 rfl (lv_at hl 0 rfl) ?_
  refine lv_iload_n hx hb dL_law_405 rfl (lv_at hl 3 rfl) ?_
  refine lv_iconst (v := 2) hx hb dL_law_406 (by decide) ?_
  refine lv_iadd hx hb dL_law_407 ?_
  refine va_sld hx hb hX hbl hbA hS h2 dL_law_408 ?_
  refine lv_aload_n hx hb dL_law_409 rfl (lv_at hl 0 rfl) ?_
  refine lv_iload_n hx hb dL_law_410 rfl (lv_at hl 3 rfl) ?_
  refine lv_iconst (v := 3) hx hb dL_law_411 (by decide) ?_
  refine lv_iadd hx hb dL_law_412 ?_
  refine va_sld hx hb hX hbl hbA hS h3 dL_law_413 ?_
  refine r_L_w (w := wd_M) (g := gm) (S := M) (As := [.int (xs (x3 + 1).toNatClampNeg), .int (xs (x3 + 2).toNatClampNeg), .int (xs (x3 + 3).toNatClampNeg)]) (rest := [.int (v)]) (q := (v, M2)) hx hb hml hown htsG hc.2.2.2.2.2.1 trivial hc.2.2.1 hP2 hP (LC_2 hc S) hS hc.2.2.2.2.2.2.2.2.2 hc.2.2.2.1.2.1 (by rw [hc.2.2.2.1.1]; rfl) lkL_40 (k_X6_mirror l gm hc.2.2.1 hc.2.2.2.1 M (xs (x3 + 1).toNatClampNeg) (xs (x3 + 2).toNatClampNeg) (xs (x3 + 3).toNatClampNeg) (v, M2) e2) ⟨⟨rfl, rfl⟩, Nat.le_of_ble_eq_true rfl, Nat.le_of_ble_eq_true rfl⟩ rfl hl.1 rfl (Nat.le_of_ble_eq_true rfl) dL_law_414 hfit (fun H locs hP2 hP hS => ?_)
  refine lv_icmp_eq (tgt := 1750) hx hb dL_law_417 rfl (fun _ => ?_) (fun hz2 => absurd rfl hz2)
  exact kk _ _ _ _ hw2 ⟨hP, hP2, hS⟩
set_option maxRecDepth 100000 in
set_option maxHeartbeats 4000000 in
theorem lc_6 (C0 : lw_At p s m meth c b L xs) (hc : LC g gm s) (hw : RW S M) (h : LSw g gm s S M H locs) (h1 : vp_in (x3 + 1) L) (h2 : vp_in (x3 + 2) L) (h3 : vp_in (x3 + 3) L) (h4 : vp_in (x3 + 4) L) (h5 : vp_in (x3 + 5) L) (hfit : cells + 0 ≤ room_1.cells ∧ slots + 0 ≤ room_1.slots) (hl : lv_has ls 4 [(0, .ref b), (1, .ref (gg_o g 0)), (2, .ref (gg_o gm 0)), (3, .int x3)]) (kk : ∀ (S2 M2 : St) (H2 : Heap) (locs2 : List Loc), RW S2 M2 → LSw g gm s S2 M2 H2 locs2 → W p l e room_1 s m #[Value.ref b] below meth c H2 locs2 cells slots Q (F0 m 1750 ls [])) : W p l e room_1 s m #[Value.ref b] below meth c H locs cells slots Q (F0 m 422 ls []) := by
  obtain ⟨hx, hb, hr, hml, hown0, hts, hX, hbl, hlocks, hgv⟩ := C0
  have hown : s.vm.findClass RL = some m.cls := hown0
  have htsG : ∀ z ∈ gw_tbl, z.before #[Value.ref b] s = true := fun z hz => hts z (gw_lw z hz)
  have hbA : ¬ (fun z : Nat => s.heap.size ≤ z) b := Nat.not_le.mpr hbl
  obtain ⟨hP, hP2, hS⟩ := h
  obtain ⟨A, kt, sd, hA, hC, hM⟩ := hw
  obtain ⟨v, S2, M2, e1, e2, hw2⟩ := Q_minutes hA hC hM (xs (x3 + 1).toNatClampNeg)
  refine lv_aload_n hx hb dL_law_422 rfl (lv_at hl 1 rfl) ?_
  refine lv_aload_n hx hb dL_law_423 rfl (lv_at hl 0 rfl) ?_
  refine lv_iload_n hx hb dL_law_424 rfl (lv_at hl 3 rfl) ?_
  refine lv_iconst (v := 1) hx hb dL_law_425 (by decide) ?_
  refine lv_iadd hx hb dL_law_426 ?_
  refine va_sld hx hb hX hbl hbA hS h1 dL_law_427 ?_
  refine r_L_w (w := wd_C) (g := g) (S := S) (As := [.int (xs (x3 + 1).toNatClampNeg)]) (rest := []) (q := (v, S2)) hx hb hml hown htsG hc.2.2.2.2.1 hc.2.2.2.2.2.2.1 hc.1 hP hP2 (LC_1 hc M) hS hc.2.2.2.2.2.2.2.2.1 hc.2.1.1.2.1 (by rw [hc.2.1.1.1]; rfl) lkL_41 (k_X5_minutes l g hc.1 hc.2.1 S (xs (x3 + 1).toNatClampNeg) (v, S2) e1) ⟨⟨rfl, rfl⟩, Nat.le_of_ble_eq_true rfl, Nat.le_of_ble_eq_true rfl⟩ rfl hl.1 rfl (Nat.le_of_ble_eq_true rfl) dL_law_428 hfit (fun H locs hP hP2 hS => ?_)
  refine lv_aload_n hx hb dL_law_431 rfl (lv_at hl 2 rfl) ?_
  refine lv_aload_n hx hb dL_law_432 rfl (lv_at hl 0 rfl) ?_
  refine lv_iload_n hx hb dL_law_433 rfl (lv_at hl 3 rfl) ?_
  refine lv_iconst (v := 1) hx hb dL_law_434 (by decide) ?_
  refine lv_iadd hx hb dL_law_435 ?_
  refine va_sld hx hb hX hbl hbA hS h1 dL_law_436 ?_
  refine r_L_w (w := wd_M) (g := gm) (S := M) (As := [.int (xs (x3 + 1).toNatClampNeg)]) (rest := [.int (v)]) (q := (v, M2)) hx hb hml hown htsG hc.2.2.2.2.2.1 trivial hc.2.2.1 hP2 hP (LC_2 hc S2) hS hc.2.2.2.2.2.2.2.2.2 hc.2.2.2.1.2.1 (by rw [hc.2.2.2.1.1]; rfl) lkL_44 (k_X6_minutes l gm hc.2.2.1 hc.2.2.2.1 M (xs (x3 + 1).toNatClampNeg) (v, M2) e2) ⟨⟨rfl, rfl⟩, Nat.le_of_ble_eq_true rfl, Nat.le_of_ble_eq_true rfl⟩ rfl hl.1 rfl (Nat.le_of_ble_eq_true rfl) dL_law_437 hfit (fun H locs hP2 hP hS => ?_)
  refine lv_icmp_eq (tgt := 1750) hx hb dL_law_440 rfl (fun _ => ?_) (fun hz2 => absurd rfl hz2)
  exact kk _ _ _ _ hw2 ⟨hP, hP2, hS⟩
set_option maxRecDepth 100000 in
set_option maxHeartbeats 4000000 in
theorem lc_7 (C0 : lw_At p s m meth c b L xs) (hc : LC g gm s) (hw : RW S M) (h : LSw g gm s S M H locs) (h1 : vp_in (x3 + 1) L) (h2 : vp_in (x3 + 2) L) (h3 : vp_in (x3 + 3) L) (h4 : vp_in (x3 + 4) L) (h5 : vp_in (x3 + 5) L) (hfit : cells + 0 ≤ room_1.cells ∧ slots + 0 ≤ room_1.slots) (hl : lv_has ls 4 [(0, .ref b), (1, .ref (gg_o g 0)), (2, .ref (gg_o gm 0)), (3, .int x3)]) (kk : ∀ (S2 M2 : St) (H2 : Heap) (locs2 : List Loc), RW S2 M2 → LSw g gm s S2 M2 H2 locs2 → W p l e room_1 s m #[Value.ref b] below meth c H2 locs2 cells slots Q (F0 m 1750 ls [])) : W p l e room_1 s m #[Value.ref b] below meth c H locs cells slots Q (F0 m 445 ls []) := by
  obtain ⟨hx, hb, hr, hml, hown0, hts, hX, hbl, hlocks, hgv⟩ := C0
  have hown : s.vm.findClass RL = some m.cls := hown0
  have htsG : ∀ z ∈ gw_tbl, z.before #[Value.ref b] s = true := fun z hz => hts z (gw_lw z hz)
  have hbA : ¬ (fun z : Nat => s.heap.size ≤ z) b := Nat.not_le.mpr hbl
  obtain ⟨hP, hP2, hS⟩ := h
  obtain ⟨A, kt, sd, hA, hC, hM⟩ := hw
  obtain ⟨v, S2, M2, e1, e2, hw2⟩ := Q_go hA hC hM (xs (x3 + 1).toNatClampNeg) (xs (x3 + 2).toNatClampNeg)
  refine lv_aload_n hx hb dL_law_445 rfl (lv_at hl 1 rfl) ?_
  refine lv_aload_n hx hb dL_law_446 rfl (lv_at hl 0 rfl) ?_
  refine lv_iload_n hx hb dL_law_447 rfl (lv_at hl 3 rfl) ?_
  refine lv_iconst (v := 1) hx hb dL_law_448 (by decide) ?_
  refine lv_iadd hx hb dL_law_449 ?_
  refine va_sld hx hb hX hbl hbA hS h1 dL_law_450 ?_
  refine lv_aload_n hx hb dL_law_451 rfl (lv_at hl 0 rfl) ?_
  refine lv_iload_n hx hb dL_law_452 rfl (lv_at hl 3 rfl) ?_
  refine lv_iconst (v := 2) hx hb dL_law_453 (by decide) ?_
  refine lv_iadd hx hb dL_law_454 ?_
  refine va_sld hx hb hX hbl hbA hS h2 dL_law_455 ?_
  refine r_L_w (w := wd_C) (g := g) (S := S) (As := [.int (xs (x3 + 1).toNatClampNeg), .int (xs (x3 + 2).toNatClampNeg)]) (rest := []) (q := (v, S2)) hx hb hml hown htsG hc.2.2.2.2.1 hc.2.2.2.2.2.2.1 hc.1 hP hP2 (LC_1 hc M) hS hc.2.2.2.2.2.2.2.2.1 hc.2.1.1.2.1 (by rw [hc.2.1.1.1]; rfl) lkL_45 (k_X5_go l g hc.1 hc.2.1 S (xs (x3 + 1).toNatClampNeg) (xs (x3 + 2).toNatClampNeg) (v, S2) e1) ⟨⟨rfl, rfl⟩, Nat.le_of_ble_eq_true rfl, Nat.le_of_ble_eq_true rfl⟩ rfl hl.1 rfl (Nat.le_of_ble_eq_true rfl) dL_law_456 hfit (fun H locs hP hP2 hS => ?_)
  refine lv_aload_n hx hb dL_law_459 rfl (lv_at hl 2 rfl) ?_
  refine lv_aload_n hx hb dL_law_460 rfl (lv_at hl 0 rfl) ?_
  refine lv_iload_n hx hb dL_law_461 rfl (lv_at hl 3 rfl) ?_
  refine lv_iconst (v := 1) hx hb dL_law_462 (by decide) ?_
  refine lv_iadd hx hb dL_law_463 ?_
  refine va_sld hx hb hX hbl hbA hS h1 dL_law_464 ?_
  refine lv_aload_n hx hb dL_law_465 rfl (lv_at hl 0 rfl) ?_
  refine lv_iload_n hx hb dL_law_466 rfl (lv_at hl 3 rfl) ?_
  refine lv_iconst (v := 2) hx hb dL_law_467 (by decide) ?_
  refine lv_iadd hx hb dL_law_468 ?_
  refine va_sld hx hb hX hbl hbA hS h2 dL_law_469 ?_
  refine r_L_w (w := wd_M) (g := gm) (S := M) (As := [.int (xs (x3 + 1).toNatClampNeg), .int (xs (x3 + 2).toNatClampNeg)]) (rest := [.int (v)]) (q := (v, M2)) hx hb hml hown htsG hc.2.2.2.2.2.1 trivial hc.2.2.1 hP2 hP (LC_2 hc S2) hS hc.2.2.2.2.2.2.2.2.2 hc.2.2.2.1.2.1 (by rw [hc.2.2.2.1.1]; rfl) lkL_49 (k_X6_go l gm hc.2.2.1 hc.2.2.2.1 M (xs (x3 + 1).toNatClampNeg) (xs (x3 + 2).toNatClampNeg) (v, M2) e2) ⟨⟨rfl, rfl⟩, Nat.le_of_ble_eq_true rfl, Nat.le_of_ble_eq_true rfl⟩ rfl hl.1 rfl (Nat.le_of_ble_eq_true rfl) dL_law_470 hfit (fun H locs hP2 hP hS => ?_)
  refine lv_icmp_eq (tgt := 1750) hx hb dL_law_473 rfl (fun _ => ?_) (fun hz2 => absurd rfl hz2)
  exact kk _ _ _ _ hw2 ⟨hP, hP2, hS⟩
end LK
