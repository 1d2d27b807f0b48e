/-! THE LAW, WHOLE. -/
theorem lkL_9 : LkI RL 9 yX5_init cX5_init 2 0 := ⟨wd_18, wd_19, wd_1, wd_20, by decide +kernel, rfl⟩
theorem lkL_12 : LkI RL 12 yX6_init cX6_init 1 0 := ⟨wd_1070, wd_1071, wd_14, wd_1072, by decide +kernel, rfl⟩
theorem classes_known {s : State} {args : Array Value} (hts : ∀ z ∈ gw_tbl, z.before args s = true) : ∃ D : va_G, ∀ (k : Nat) (q : vw_C), vwCl[k]? = some q → u_Kn s q.1 q.2.1 q.2.2 (D.1 k) (D.2 k) := by
  obtain ⟨c0, i0, k0⟩ := u_known (C := RX0) (T := TX0) (N := 9) (n := 9) hts in_X0 (hts _ wd_275)
  obtain ⟨c1, i1, k1⟩ := u_known (C := RX1) (T := TX1) (N := 7) (n := 7) hts in_X1 (hts _ wd_158)
  obtain ⟨c2, i2, k2⟩ := u_known (C := RX2) (T := TX2) (N := 3) (n := 3) hts in_X2 (hts _ wd_377)
  obtain ⟨c3, i3, k3⟩ := u_known (C := RX3) (T := TX3) (N := 15) (n := 15) hts in_X3 (hts _ wd_25)
  obtain ⟨c4, i4, k4⟩ := u_known (C := RX4) (T := TX4) (N := 19) (n := 19) hts in_X4 (hts _ wd_152)
  obtain ⟨c5, i5, k5⟩ := u_known (C := RX5) (T := TX5) (N := 16) (n := 16) hts in_X5 (hts _ wd_17)
  obtain ⟨c6, i6, k6⟩ := u_known (C := RX6) (T := TX6) (N := 75) (n := 75) hts in_X6 (hts _ wd_1069)
  refine ⟨(fun k => if k = 0 then c0 else if k = 1 then c1 else if k = 2 then c2 else if k = 3 then c3 else if k = 4 then c4 else if k = 5 then c5 else c6, fun k => if k = 0 then i0 else if k = 1 then i1 else if k = 2 then i2 else if k = 3 then i3 else if k = 4 then i4 else if k = 5 then i5 else i6), ?_⟩
  intro k q hq
  match k, hq with
  | 0, hq => cases hq; exact k0
  | 1, hq => cases hq; exact k1
  | 2, hq => cases hq; exact k2
  | 3, hq => cases hq; exact k3
  | 4, hq => cases hq; exact k4
  | 5, hq => cases hq; exact k5
  | 6, hq => cases hq; exact k6
  | k + 7, hq => simp [vwCl] at hq
set_option maxRecDepth 100000 in
set_option maxHeartbeats 8000000 in
theorem whole_start {p : Program} {e : Env} {s : State} {m : MethodId} {below : List Frame} {meth : Method} {c : Code} (l : Launch) (hflags : l.flags = flags0) {b L : Nat} {xs : Nat → Int32} (hL : L ≤ 3072) (C0 : lw_At p s m meth c b L xs) : W p l e room_1 s m #[Value.ref b] below meth c s.heap [] 0 0 (lw_Z below #[Value.ref b] s) (entryFrame m ([Value.ref b] : List Value).toArray 4) := by
  obtain ⟨hx, hb, hr, hml, hown0, hts, hX, hbl, hlocks, hgv⟩ := id C0
  have hown : s.vm.findClass RL = some m.cls := hown0
  have htsG : ∀ z ∈ gw_tbl, z.before #[Value.ref b] s = true := fun z hz => hts z (gw_lw z hz)
  obtain ⟨D, hKc⟩ := classes_known htsG
  obtain ⟨g0, hg0, hcs⟩ := cs_start D hts hgv
  obtain ⟨M1, eM, hRM⟩ := M_start
  have hA : ∀ q : Nat, s.heap.size ≤ q → (fun q : Nat => s.heap.size ≤ q) q := fun _ h => h
  have hS : va_S (fun q : Nat => s.heap.size ≤ q) s.heap s.heap [] := va_S.rf
  have hK : va_K (gg_D g0) vwCl [] s := ⟨by rw [hg0]; exact hKc, fun k q h => by simp at h⟩
  have hP : va_P (gg_D g0) vwCl [] s.heap := fun k q h => by simp at h
  have hD : va_D (fun q : Nat => s.heap.size ≤ q) [] := ⟨fun i j p q h => by simp at h, fun k q h => by simp at h⟩
  have hl := lv_entry ([.ref b]) (n := 4) (Nat.le_of_ble_eq_true rfl)
  rw [lg_entry_eq]
  generalize (lg_sl ([.ref b]) ++ List.replicate (4 - (lg_sl ([.ref b])).length) Slot.unset).toArray = ls at hl ⊢
  have hl : lv_has ls 4 [(0, .ref b)] := hl
  refine va_new (ci := 5) (fs := [.null, .int 0, .int 0, .null, .null, .null, .null, .null, .null, .null, .int 0, .null, .int 0, .null, .null, .null]) (C := RX5) (T := TX5) (N := 16) hx hb htsG in_X5 tyX5 tyX5_ok hown (htsG _ wd_16) (htsG _ wd_17) (htsG _ wd_1) hK hP hD hS hA rfl (fun j hj => by rcases (show j = 0 ∨ j = 1 ∨ j = 2 ∨ j = 3 ∨ j = 4 ∨ j = 5 ∨ j = 6 ∨ j = 7 ∨ j = 8 ∨ j = 9 ∨ j = 10 ∨ j = 11 ∨ j = 12 ∨ j = 13 ∨ j = 14 ∨ j = 15 by omega) with rfl | rfl | rfl | rfl | rfl | rfl | rfl | rfl | rfl | rfl | rfl | rfl | rfl | rfl | rfl | rfl <;> rfl) (Nat.le_of_ble_eq_true rfl) (Nat.le_of_ble_eq_true rfl) dL_law_0 (fun q5 H hP hD hS => ?_)
  have hP : va_P (gg_D g0) vwCl [(q5, .inr (5, [.null, .int 0, .int 0, .null, .null, .null, .null, .null, .null, .null, .int 0, .null, .int 0, .null, .null, .null]))] H := hP
  have hD : va_D (fun q : Nat => s.heap.size ≤ q) [(q5, .inr (5, [.null, .int 0, .int 0, .null, .null, .null, .null, .null, .null, .null, .int 0, .null, .int 0, .null, .null, .null]))] := hD
  refine lv_dup hx hb dL_law_3 rfl ?_
  have hF : ∀ z, nwA q5 H.size z → s.heap.size ≤ z := fun z h => by
    rcases h with rfl | h
    · exact (vD_iff.mp hD).2 _ List.mem_cons_self
    · exact Nat.le_trans hS.1 h
  obtain ⟨l1, l2, l3, l4, l5, l6⟩ := lkL_9
  refine va_callv (va_runI (Ts := gw_tbl) (As := []) (rest := [.ref q5]) ⟨hx, hb, hml, hown, htsG⟩ (c_X5_init l g0 q5 H.size) ⟨callB_of 0 htsG (gw_inG l4) rfl rfl rfl (htsG _ l3) (htsG _ l1) l5 ⟨Nat.le_of_ble_eq_true rfl, Nat.le_of_ble_eq_true rfl⟩, l6, htsG _ l2⟩ ⟨px_blind, fun U hU hW => ⟨rfl, ⟨by rw [hU], by rw [hU]; exact hP, va_K.moved hW.alike hK, cs_narrow rfl rfl rfl hF (cs_warm g0 _ s U hW (by rw [hU]; exact hS.2.1) hcs)⟩, va_AO.moved hW.alike (va_AO.of (hts _ wd_393))⟩⟩ rfl rfl hl.1 rfl (lv_room (Nat.le_of_ble_eq_true rfl)) dL_law_4 ⟨Nat.le_of_ble_eq_true rfl, Nat.le_of_ble_eq_true rfl⟩) hS (fun z _ h => hF z h) hF (fun u t H1 locs1 ht hvm hw hB hz1 hk1 hS => ?_)
  obtain ⟨g, S⟩ := u
  obtain ⟨⟨hgd, hAll, hkn, hgo, hRC⟩, hD1⟩ := hw
  obtain ⟨hP1, hK1⟩ := hB
  dsimp only at hD1 hP1 hK1 hgd hAll hkn hgo hRC
  rw [ht] at hP1
  have hK1 := va_K.moved hvm.symm hK1
  have hD2 : va_D (fun q : Nat => s.heap.size ≤ q) (wl wd_C g S) := hD1.weaken (fun _ _ _ h => hF _ h)
  have hP2 : va_P (gg_D g0) vwCl (wl wd_C g S) H1 := by rw [← hkn.1]; exact hP1
  refine lv_astore_n (lv' := [(1, .ref q5), (0, .ref b)]) hx hb dL_law_7 rfl hl (by decide) rfl (fun ls hl => ?_)
  refine va_new (ci := 6) (fs := [.int 0, .null, .int 0, .null, .int 0, .null, .null, .null, .null, .null, .int 0, .int 0, .int 0, .int 0, .int 0, .int 0, .int 0, .int 0, .int 0, .int 0, .int 0, .null, .null, .null, .null, .null, .null, .null, .null, .null, .null, .null, .null, .null, .null, .null, .null, .null, .int 0, .null, .null, .null, .null, .null, .int 0, .null, .null, .null, .int 0, .null, .null, .int 0, .null, .int 0, .null, .null, .null, .int 0, .null, .null, .int 0, .int 0, .null, .null, .null, .null, .null, .int 0, .null, .null, .null, .null, .null, .null, .null]) (C := RX6) (T := TX6) (N := 75) hx hb htsG in_X6 tyX6 tyX6_ok hown (htsG _ wd_1068) (htsG _ wd_1069) (htsG _ wd_14) hK hP2 hD2 hS hA rfl (fun j hj => by rcases (show j = 0 ∨ j = 1 ∨ j = 2 ∨ j = 3 ∨ j = 4 ∨ j = 5 ∨ j = 6 ∨ j = 7 ∨ j = 8 ∨ j = 9 ∨ j = 10 ∨ j = 11 ∨ j = 12 ∨ j = 13 ∨ j = 14 ∨ j = 15 ∨ j = 16 ∨ j = 17 ∨ j = 18 ∨ j = 19 ∨ j = 20 ∨ j = 21 ∨ j = 22 ∨ j = 23 ∨ j = 24 ∨ j = 25 ∨ j = 26 ∨ j = 27 ∨ j = 28 ∨ j = 29 ∨ j = 30 ∨ j = 31 ∨ j = 32 ∨ j = 33 ∨ j = 34 ∨ j = 35 ∨ j = 36 ∨ j = 37 ∨ j = 38 ∨ j = 39 ∨ j = 40 ∨ j = 41 ∨ j = 42 ∨ j = 43 ∨ j = 44 ∨ j = 45 ∨ j = 46 ∨ j = 47 ∨ j = 48 ∨ j = 49 ∨ j = 50 ∨ j = 51 ∨ j = 52 ∨ j = 53 ∨ j = 54 ∨ j = 55 ∨ j = 56 ∨ j = 57 ∨ j = 58 ∨ j = 59 ∨ j = 60 ∨ j = 61 ∨ j = 62 ∨ j = 63 ∨ j = 64 ∨ j = 65 ∨ j = 66 ∨ j = 67 ∨ j = 68 ∨ j = 69 ∨ j = 70 ∨ j = 71 ∨ j = 72 ∨ j = 73 ∨ j = 74 by omega) with rfl | rfl | rfl | rfl | rfl | rfl | rfl | rfl | rfl | rfl | rfl | rfl | rfl | rfl | rfl | rfl | rfl | rfl | rfl | rfl | rfl | rfl | rfl | rfl | rfl | rfl | rfl | rfl | rfl | rfl | rfl | rfl | rfl | rfl | rfl | rfl | rfl | rfl | rfl | rfl | rfl | rfl | rfl | rfl | rfl | rfl | rfl | rfl | rfl | rfl | rfl | rfl | rfl | rfl | rfl | rfl | rfl | rfl | rfl | rfl | rfl | rfl | rfl | rfl | rfl | rfl | rfl | rfl | rfl | rfl | rfl | rfl | rfl | rfl | rfl <;> rfl) (Nat.le_of_ble_eq_true rfl) (Nat.le_of_ble_eq_true rfl) dL_law_8 (fun q6 H hP hD hS => ?_)
  refine lv_dup hx hb dL_law_11 rfl ?_
  have hap := nw_apart hP hD
  have hF6 : ∀ z, nwA q6 H.size z → s.heap.size ≤ z := fun z h => by
    rcases h with rfl | h
    · exact (vD_iff.mp hD).2 _ (List.mem_append_right _ (List.mem_singleton.mpr rfl))
    · exact Nat.le_trans hS.1 h
  have hPc := (vP_app.mp hP).2
  have hPr := (vP_app.mp hP).1
  have hDr := (vD_app.mp hD).1
  obtain ⟨m1, m2, m3, m4, m5, m6⟩ := lkL_12
  refine va_callv (va_runI (Ts := gw_tbl) (As := []) (rest := [.ref q6]) ⟨hx, hb, hml, hown, htsG⟩ (c_X6_init l g0 q6 H.size M1 eM) ⟨callB_of 0 htsG (gw_inG m4) rfl rfl rfl (htsG _ m3) (htsG _ m1) m5 ⟨Nat.le_of_ble_eq_true rfl, Nat.le_of_ble_eq_true rfl⟩, m6, htsG _ m2⟩ ⟨pm_blind, fun U hU hW => ⟨rfl, by rw [hU], by rw [hU]; exact hPc, va_K.moved hW.alike hK⟩⟩ rfl rfl hl.1 rfl (lv_room (Nat.le_of_ble_eq_true rfl)) dL_law_12 ⟨Nat.le_of_ble_eq_true rfl, Nat.le_of_ble_eq_true rfl⟩) hS (fun z _ h => hF6 z h) hF6 (fun u t H2 locs2 ht2 hvm2 hw2 hB2 hz2 hk2 hS => ?_)
  obtain ⟨gm, M⟩ := u
  obtain ⟨⟨⟨hgm, hsm, hDm, hgom⟩, eM2⟩, hD3⟩ := hw2
  obtain ⟨hP3, hK3⟩ := hB2
  dsimp only at hD3 hP3 hK3 hgm hsm hDm hgom eM2
  subst eM2
  rw [ht2] at hP3
  have hK3 := va_K.moved hvm2.symm hK3
  have hP4 : va_P (gg_D g0) vwCl (wl wd_M gm M) H2 := by rw [← hDm]; exact hP3
  obtain ⟨hP5, hD5⟩ := w_join hPr hDr hap hk2 hF6 hP4 hD3
  obtain ⟨hP6, -⟩ := vP_app.mp hP5
  obtain ⟨hD6, hD7, hdj⟩ := vD_app.mp hD5
  refine lv_astore_n (lv' := [(2, .ref q6), (1, .ref q5), (0, .ref b)]) hx hb dL_law_15 rfl hl (by decide) rfl (fun ls hl => ?_)
  refine lv_iconst (v := 0) hx hb dL_law_16 (by decide) ?_
  refine lv_istore_n (lv' := [(3, .int 0), (2, .ref q6), (1, .ref q5), (0, .ref b)]) hx hb dL_law_17 rfl hl (by decide) rfl (fun ls hl => ?_)
  have hc : LC g gm s := ⟨hgd, hAll, hgm, hsm, hK1, hK3, cs_narrow hkn.2.1 hkn.2.2.1 hkn.2.2.2 (wA_sub hD6) hcs, fun z h1 h2 => by
    obtain ⟨x, hx1, e1⟩ := aw_of (w := wd_C) (S := S) h1
    obtain ⟨y, hy1, e2⟩ := aw_of (w := wd_M) (S := M) h2
    exact hdj x hx1 y hy1 (e1.trans e2.symm), wA_sub hD6, wA_sub hD7⟩
  have hl2 : lv_has ls 4 [(0, .ref b), (1, .ref (gg_o g 0)), (2, .ref (gg_o gm 0)), (3, .int (nI (6 * 0)))] := by
    rw [hgo, hgom]
    exact lv_sub hl [3, 2, 1, 0] rfl
  exact law_loop hL C0 hc ⟨Nat.le_of_ble_eq_true rfl, Nat.le_of_ble_eq_true rfl⟩ (L + 1) 0 S M H2 _ ls (by omega) (by omega) ⟨A00, 2, 0, RA_00, hRC, hRM⟩ ⟨by rw [hkn.1]; exact hP6, hP3, hS⟩ hl2
