/-! THE REFERENCE TAKES A TELL: men, mirrors. -/
section TE
variable {B : Nat → Nat} {n sd : Nat}
theorem nN_2 {P P' : TP} (h0 : pc P' 0 = pc P 0) (h2 : pc P' 2 = pc P 2 + 1) (h4 : pc P' 4 = pc P 4) : nN P' = nN P + 1 := by unfold nN; omega
theorem nN_4 {P P' : TP} (h0 : pc P' 0 = pc P 0) (h2 : pc P' 2 = pc P 2) (h4 : pc P' 4 = pc P 4 + 1) : nN P' = nN P + 1 := by unfold nN; omega
theorem M_tell22 {S : St} {t sp pt br ifs : Nat} {wb fr : Bool} {all : CL} {bl : List BR} {P : TP} {w : Option (Nat × Nat)} (hn : n ≤ 2000) (h : TB B n sd S t all bl P w) (k20 : tkK B n t = 22) : ∃ S', f_X6_tellOne S = some S' ∧ TEc B n sd S t P w (rn (tkK B n) t (tq sp pt wb fr br ifs (pc P))) S' := by
  obtain ⟨hX, hb4, ⟨h19, ⟨c24, c25, c28, c31⟩, ⟨b0, b1, b2, b4⟩, hN⟩, hr, sw, hl, hct⟩ := h
  have hA := hX.1.1
  have hsd := hX.1.2.2.2.2.2
  unfold f_X6_tellOne
  rw [chk_t (at_ib hA), at_k hA, lt_e, k20, if_neg (show ¬ nI 22 = (20 : Int32) by decide), if_neg (show ¬ nI 22 = (21 : Int32) by decide), if_pos (show nI 22 = (22 : Int32) from rfl), h19, chk_t (ib_nI hsd (by decide)), nI_clamp (by omega), c28]
  obtain ⟨S1, e1, o1, d1⟩ := op_room (k := 22) (c := pc P 2) (most := 6) (sp := sp) (pt := pt) (wb := wb) (fr := fr) (br := br) (ifs := ifs) (cn := pc P) hA sw hl (by decide) k20 rfl rfl b2 (by decide)
  generalize hr0 : rn (tkK B n) t (tq sp pt wb fr br ifs (pc P)) = r0 at *
  rw [show f_X6_roomFor S (nI (pc P 2)) (6 : Int32) = _ from e1, bnd]
  have q1 : oh sd fsTe S S1 := oh_ofS (by decide) (by decide) o1
  rcases d1 with f | ⟨hc, d1⟩
  · rw [if_neg (flt_p f).2.1]
    exact ⟨S1, rfl, q1, Or.inl f⟩
  rw [d1.1.1, if_pos rfl, bid]
  have hm : ¬ mostN.getD (22 - 20) 0 < inc (pc P) 2 (22 - 20) := by
    show ¬ 6 < inc (pc P) 2 2
    rw [inc_s]; omega
  have m19 : st_I S1 (ky 0 19) = nI sd := by rw [kI o1 19]; exact h19
  have m25 : st_A S1 (ky 0 28) sd = nI (pc P 2) := by rw [kA o1 28]; exact c28
  have hu : 6 * sd + pc P 2 < 12 := by omega
  have w29 : wd 29 = 6 := by decide
  have w30 : wd 30 = 6 := by decide
  unfold f_X6_tellMan
  rw [m19, chk_t (ib_nI hsd (by decide)), nI_clamp (by omega), m25, show (6 : Int32) * nI sd + nI (pc P 2) = nI (6 * sd + pc P 2) from u12 6 sd _, lt_e]
  obtain ⟨x, S2, e2, o2, d2⟩ := op_named (E := True) (q := qd 22 0 (inc (pc P) 2)) (q' := qd 22 1 (inc (pc P) 2)) hn (Or.inr ⟨trivial, d1⟩) (NMS_on hN (by decide) o1) (qd0 (by decide)) (fun j _ => gqd _ (by decide) (by decide) (by decide) (by decide) j) (many_d hm)
  rw [e2, bnd]
  obtain ⟨v1, S3, e3, o3, d3⟩ := op_bounded (m := 20) (q' := qd 22 2 (inc (pc P) 2)) hn d2 (by decide) (qd0 (by decide)) (fun j _ => gqd _ (by decide) (by decide) (by decide) (by decide) j) (many_d hm)
  rw [show f_X6_bounded S2 (0 : Int32) (20 : Int32) = _ from e3, bnd, chk_t (ib_nI hu (by decide)), nI_clamp (by omega), lt_e]
  have o4 : on (kM [29]) S3 (up_A S3 (ky 0 29) (upd (st_A S3 (ky 0 29)) (6 * sd + pc P 2) v1)) := on_A _ _ _ ⟨29, by decide, rfl⟩
  have q4 : oh sd fsTe S3 (up_A S3 (ky 0 29) (upd (st_A S3 (ky 0 29)) (6 * sd + pc P 2) v1)) := oh_U S3 29 _ _ (by decide) (by decide) (by rw [w29]; omega) (by rw [w29]; omega)
  have x29 : st_A (up_A S3 (ky 0 29) (upd (st_A S3 (ky 0 29)) (6 * sd + pc P 2) v1)) (ky 0 29) = upd (st_A S3 (ky 0 29)) (6 * sd + pc P 2) v1 := gAs _ _ _
  have d4 := FO_on d3 (by decide) o4
  generalize up_A S3 (ky 0 29) (upd (st_A S3 (ky 0 29)) (6 * sd + pc P 2) v1) = S4 at *
  have hN4 := NMS_on (NMS_on (NMS_on (NMS_on hN (by decide) o1) (by decide) o2) (by decide) o3) (by decide) o4
  obtain ⟨v2, S5, e5, o5, -, d5⟩ := op_known (s := 0) (q' := qd 22 3 (inc (pc P) 2)) hn d4 hN4 (by decide) (qd0 (by decide)) (fun j _ => gqd _ (by decide) (by decide) (by decide) (by decide) j) (many_d hm)
  rw [show f_X6_known S4 (0 : Int32) = _ from e5, bnd, chk_t (ib_nI hu (by decide)), lt_e]
  have o6 : on (kM [30]) S5 (up_A S5 (ky 0 30) (upd (st_A S5 (ky 0 30)) (6 * sd + pc P 2) v2)) := on_A _ _ _ ⟨30, by decide, rfl⟩
  have q6 : oh sd fsTe S5 (up_A S5 (ky 0 30) (upd (st_A S5 (ky 0 30)) (6 * sd + pc P 2) v2)) := oh_U S5 30 _ _ (by decide) (by decide) (by rw [w30]; omega) (by rw [w30]; omega)
  have x30 : st_A (up_A S5 (ky 0 30) (upd (st_A S5 (ky 0 30)) (6 * sd + pc P 2) v2)) (ky 0 30) = upd (st_A S5 (ky 0 30)) (6 * sd + pc P 2) v2 := gAs _ _ _
  have d6 := FO_on d5 (by decide) o6
  generalize up_A S5 (ky 0 30) (upd (st_A S5 (ky 0 30)) (6 * sd + pc P 2) v2) = S6 at *
  obtain ⟨S7, e7, o7, d7⟩ := op_must (k := 4) (q' := qd 0 4 (inc (pc P) 2)) d6 (by decide) (by decide) (qd0 (by decide)) (fun j _ => gqe _ (by decide) (by decide) j) many_e
  rw [show f_X6_must S6 (4 : Int32) = _ from e7, bnd]
  have oo : on (kM [11, 13, 14, 15, 16, 29, 30]) S S7 := on_trans (kM_mono (by decide) o1) (on_trans (kM_mono (by decide) o2) (on_trans (kM_mono (by decide) o3) (on_trans (kM_mono (by decide) o4) (on_trans (kM_mono (by decide) o5) (on_trans (kM_mono (by decide) o6) (kM_mono (by decide) o7))))))
  have q7 : oh sd fsTe S S7 := oh_trans q1 (oh_trans (oh_ofS (by decide) (by decide) o2) (oh_trans (oh_ofS (by decide) (by decide) o3) (oh_trans q4 (oh_trans (oh_ofS (by decide) (by decide) o5) (oh_trans q6 (oh_ofS (by decide) (by decide) o7))))))
  rcases d7 with f | ⟨⟨⟨⟨⟨⟨⟨⟨_, k1⟩, rfl⟩, k2⟩, rfl⟩, k3⟩, rfl⟩, k4⟩, a7, r7, s7, l7⟩
  · rw [if_neg (flt_p f).1]
    exact ⟨S7, rfl, q7, Or.inl f⟩
  have n19 : st_I S7 (ky 0 19) = nI sd := by rw [kI oo 19]; exact h19
  have n28 : st_A S7 (ky 0 28) sd = nI (pc P 2) := by rw [kA oo 28]; exact c28
  have hN7 := NMS_on hN (by decide) oo
  obtain ⟨S8, e8, q8, hN8, e28⟩ := M_note (sd := sd) (s := 1) (c := pc P 2) (g := 28) hN7 (by unfold nN; omega) (at_8 a7 (show t + 1 < t + 1 + 1 + 1 + 1 + 1 by omega) k1) (tk_vL k1) (by have := a7.2.2.1; omega) (by decide) (by omega) (fun _ => by omega) n19 hsd (by decide) n28
  rw [a7.1, if_pos (Int32.le_refl _), n19, chk_t (ib_nI hsd (by decide)), nI_clamp (by omega), n28]
  have a8 := atM_on (by decide) a7 q8.1
  have o08 : on (kM [11, 13, 14, 15, 16, 29, 30, 20, 21, 22, 23, 28]) S S8 := on_trans (kM_mono (by decide) oo) (kM_mono (by decide) q8.1)
  have n29 : st_A S8 (ky 0 29) = upd (st_A S (ky 0 29)) (6 * sd + pc P 2) (nI (tkV B n (t + 2))) := by rw [kA q8.1 29, kA o7 29, kA o6 29, kA o5 29, x29, kA o3 29, kA o2 29, kA o1 29]
  have n30 : st_A S8 (ky 0 30) = upd (st_A S (ky 0 30)) (6 * sd + pc P 2) (bkM (lk (nN P) (pn P) (tkL B n (t + 3)) 0)) := by rw [kA q8.1 30, kA o7 30, x30, kA o5 30, kA o4 30, kA o3 30, kA o2 30, kA o1 30]
  have eP : tkP (tkK B n) (tkL B n) (tkV B n) P t [] = (inc (pc P) 2, addN (pn P) (nN P) (tkL B n (t + 1), 1, pc P 2), setR (setR (pr P) 2 (pc P 2) (tkV B n (t + 2))) 3 (pc P 2) (lkv P (tkL B n (t + 3)) 0), pl P, pk P, pd P) := by
    unfold tkP
    rw [if_neg (by omega), if_neg (by omega), if_pos k20]
  have eF : tkF (tkK B n) (tkL B n) (tkV B n) P t = ow (ow (dupP P (tkL B n (t + 1)) (t + 1)) (numF 20 (tkV B n (t + 2)) (t + 2))) (lkP P (tkL B n (t + 3)) 0 (t + 3)) := by
    unfold tkF
    rw [if_neg (by omega), if_neg (by omega), if_pos k20]
  refine ⟨S8, e8, oh_trans q7 (oh_mono (by decide) q8), Or.inr ⟨t + 5, [], all, bl, 4, 0, true, true, 0, 0, by omega, Or.inr (Or.inr (Or.inl ⟨k20, k1, k2, k3, k4, rfl⟩)), ?_, ?_⟩⟩
  · rw [eP]; exact r7
  · have ew : ow w (ow (ow (dupP P (tkL B n (t + 1)) (t + 1)) (numF 20 (tkV B n (t + 2)) (t + 2))) (lkP P (tkL B n (t + 3)) 0 (t + 3))) = ow (ow (ow w (dupF (nN P) (pn P) (tkL B n (t + 1)) (t + 1))) (numF 20 (tkV B n (t + 2)) (t + 2))) (lkF (nN P) (pn P) (tkL B n (t + 3)) 0 (t + 3)) := by
      rw [ow_a, ow_a, ow_a]
      rfl
    rw [eP, eF, ew]
    refine ⟨LX_mv (by decide) hX o08 (by omega) a8, by omega, ⟨?_, ⟨?_, ?_, ?_, ?_⟩, ⟨b0, b1, ?_, b4⟩, ?_⟩, fun hw => ?_, wst_on s7 (by decide) q8.1, l7, inc_le 2 hct (by omega)⟩
    · rw [kI q8.1 19]; exact n19
    · rw [kA o08 24]; exact c24
    · rw [kA o08 25]; exact c25
    · rw [e28, upd_s]; rfl
    · rw [kA o08 31]; exact c31
    · show pc P 2 + 1 ≤ 6
      omega
    · rw [nN_2 (P := P) (P' := (inc (pc P) 2, addN (pn P) (nN P) (tkL B n (t + 1), 1, pc P 2), setR (setR (pr P) 2 (pc P 2) (tkV B n (t + 2))) 3 (pc P 2) (lkv P (tkL B n (t + 3)) 0), pl P, pk P, pd P)) rfl rfl rfl]
      exact hN8
    · obtain ⟨hw1, hF3⟩ := ow_none hw
      obtain ⟨hw2, -⟩ := ow_none hw1
      obtain ⟨hw3, -⟩ := ow_none hw2
      obtain ⟨ra, rb, rc, rd, re, rf⟩ := hr hw3
      refine ⟨?_, fun a ha => ?_, ?_, ?_, ?_, fun i hi => ?_⟩
      · rw [kA o08 26, kA o08 27]
        exact fun a ha => ra a ha
      · have hd2 : a < pc P 2 + 1 := ha
        rw [n29, n30]
        by_cases c : a = pc P 2
        · subst c
          have g0 : pr (inc (pc P) 2, addN (pn P) (nN P) (tkL B n (t + 1), 1, pc P 2), setR (setR (pr P) 2 (pc P 2) (tkV B n (t + 2))) 3 (pc P 2) (lkv P (tkL B n (t + 3)) 0), pl P, pk P, pd P) 2 (pc P 2) = tkV B n (t + 2) := by
            show setR (setR (pr P) 2 (pc P 2) (tkV B n (t + 2))) 3 (pc P 2) (lkv P (tkL B n (t + 3)) 0) 2 (pc P 2) = _
            rw [setR_n (by omega), setR_s]
          have g1 : pr (inc (pc P) 2, addN (pn P) (nN P) (tkL B n (t + 1), 1, pc P 2), setR (setR (pr P) 2 (pc P 2) (tkV B n (t + 2))) 3 (pc P 2) (lkv P (tkL B n (t + 3)) 0), pl P, pk P, pd P) 3 (pc P 2) = lkv P (tkL B n (t + 3)) 0 := setR_s _ _ _ _
          rw [upd_s, upd_s, g0, g1, lk_some hF3]
          exact ⟨rfl, rfl⟩
        · have g0 : ∀ i, pr (inc (pc P) 2, addN (pn P) (nN P) (tkL B n (t + 1), 1, pc P 2), setR (setR (pr P) 2 (pc P 2) (tkV B n (t + 2))) 3 (pc P 2) (lkv P (tkL B n (t + 3)) 0), pl P, pk P, pd P) i a = pr P i a := fun i => by
            show setR (setR (pr P) 2 (pc P 2) (tkV B n (t + 2))) 3 (pc P 2) (lkv P (tkL B n (t + 3)) 0) i a = _
            rw [setR_n (fun z => c z.2), setR_n (fun z => c z.2)]
          rw [upd_n (by omega), upd_n (by omega), g0, g0]
          exact rb a (by omega)
      · rw [kA o08 32, kA o08 33]
        exact fun a ha => rc a ha
      · rw [kA o08 34]; exact rd
      · rw [kA o08 35]; exact re
      · have := rf i hi
        unfold lawR at *
        rw [kA o08 36, kA o08 37]
        exact this
theorem M_tell24 {S : St} {t sp pt br ifs : Nat} {wb fr : Bool} {all : CL} {bl : List BR} {P : TP} {w : Option (Nat × Nat)} (hn : n ≤ 2000) (h : TB B n sd S t all bl P w) (k20 : tkK B n t = 24) : ∃ S', f_X6_tellOne S = some S' ∧ TEc B n sd S t P w (rn (tkK B n) t (tq sp pt wb fr br ifs (pc P))) S' := by
  obtain ⟨hX, hb4, ⟨h19, ⟨c24, c25, c28, c31⟩, ⟨b0, b1, b2, b4⟩, hN⟩, hr, sw, hl, hct⟩ := h
  have hA := hX.1.1
  have hsd := hX.1.2.2.2.2.2
  unfold f_X6_tellOne
  rw [chk_t (at_ib hA), at_k hA, lt_e, k20, if_neg (show ¬ nI 24 = (20 : Int32) by decide), if_neg (show ¬ nI 24 = (21 : Int32) by decide), if_neg (show ¬ nI 24 = (22 : Int32) by decide), if_neg (show ¬ nI 24 = (23 : Int32) by decide), if_pos (show nI 24 = (24 : Int32) from rfl), h19, chk_t (ib_nI hsd (by decide)), nI_clamp (by omega), c31]
  obtain ⟨S1, e1, o1, d1⟩ := op_room (k := 24) (c := pc P 4) (most := 8) (sp := sp) (pt := pt) (wb := wb) (fr := fr) (br := br) (ifs := ifs) (cn := pc P) hA sw hl (by decide) k20 rfl rfl b4 (by decide)
  generalize hr0 : rn (tkK B n) t (tq sp pt wb fr br ifs (pc P)) = r0 at *
  rw [show f_X6_roomFor S (nI (pc P 4)) (8 : Int32) = _ from e1, bnd]
  have q1 : oh sd fsTe S S1 := oh_ofS (by decide) (by decide) o1
  rcases d1 with f | ⟨hc, d1⟩
  · rw [if_neg (flt_p f).2.1]
    exact ⟨S1, rfl, q1, Or.inl f⟩
  rw [d1.1.1, if_pos rfl, bid]
  have hm : ¬ mostN.getD (24 - 20) 0 < inc (pc P) 4 (24 - 20) := by
    show ¬ 8 < inc (pc P) 4 4
    rw [inc_s]; omega
  have m19 : st_I S1 (ky 0 19) = nI sd := by rw [kI o1 19]; exact h19
  have m25 : st_A S1 (ky 0 31) sd = nI (pc P 4) := by rw [kA o1 31]; exact c31
  have hu : 8 * sd + pc P 4 < 16 := by omega
  have w32 : wd 32 = 8 := by decide
  have w33 : wd 33 = 8 := by decide
  unfold f_X6_tellMirror
  rw [m19, chk_t (ib_nI hsd (by decide)), nI_clamp (by omega), m25, show (8 : Int32) * nI sd + nI (pc P 4) = nI (8 * sd + pc P 4) from u12 8 sd _, lt_e]
  obtain ⟨x, S2, e2, o2, d2⟩ := op_named (E := True) (q := qd 24 0 (inc (pc P) 4)) (q' := qd 24 1 (inc (pc P) 4)) hn (Or.inr ⟨trivial, d1⟩) (NMS_on hN (by decide) o1) (qd0 (by decide)) (fun j _ => gqd _ (by decide) (by decide) (by decide) (by decide) j) (many_d hm)
  rw [e2, bnd]
  have hN2 := NMS_on (NMS_on hN (by decide) o1) (by decide) o2
  obtain ⟨v1, S3, e3, o3, -, d3⟩ := op_known (s := 0) (q' := qd 24 2 (inc (pc P) 4)) hn d2 hN2 (by decide) (qd0 (by decide)) (fun j _ => gqd _ (by decide) (by decide) (by decide) (by decide) j) (many_d hm)
  rw [show f_X6_known S2 (0 : Int32) = _ from e3, bnd, chk_t (ib_nI hu (by decide)), nI_clamp (by omega), lt_e]
  have o4 : on (kM [32]) S3 (up_A S3 (ky 0 32) (upd (st_A S3 (ky 0 32)) (8 * sd + pc P 4) v1)) := on_A _ _ _ ⟨32, by decide, rfl⟩
  have q4 : oh sd fsTe S3 (up_A S3 (ky 0 32) (upd (st_A S3 (ky 0 32)) (8 * sd + pc P 4) v1)) := oh_U S3 32 _ _ (by decide) (by decide) (by rw [w32]; omega) (by rw [w32]; omega)
  have x32 : st_A (up_A S3 (ky 0 32) (upd (st_A S3 (ky 0 32)) (8 * sd + pc P 4) v1)) (ky 0 32) = upd (st_A S3 (ky 0 32)) (8 * sd + pc P 4) v1 := gAs _ _ _
  have d4 := FO_on d3 (by decide) o4
  generalize up_A S3 (ky 0 32) (upd (st_A S3 (ky 0 32)) (8 * sd + pc P 4) v1) = S4 at *
  have hN4 := NMS_on (NMS_on hN2 (by decide) o3) (by decide) o4
  obtain ⟨v2, S5, e5, o5, -, d5⟩ := op_known (s := 1) (q' := qd 24 3 (inc (pc P) 4)) hn d4 hN4 (by decide) (qd0 (by decide)) (fun j _ => gqd _ (by decide) (by decide) (by decide) (by decide) j) (many_d hm)
  rw [show f_X6_known S4 (1 : Int32) = _ from e5, bnd, chk_t (ib_nI hu (by decide)), lt_e]
  have o6 : on (kM [33]) S5 (up_A S5 (ky 0 33) (upd (st_A S5 (ky 0 33)) (8 * sd + pc P 4) v2)) := on_A _ _ _ ⟨33, by decide, rfl⟩
  have q6 : oh sd fsTe S5 (up_A S5 (ky 0 33) (upd (st_A S5 (ky 0 33)) (8 * sd + pc P 4) v2)) := oh_U S5 33 _ _ (by decide) (by decide) (by rw [w33]; omega) (by rw [w33]; omega)
  have x33 : st_A (up_A S5 (ky 0 33) (upd (st_A S5 (ky 0 33)) (8 * sd + pc P 4) v2)) (ky 0 33) = upd (st_A S5 (ky 0 33)) (8 * sd + pc P 4) v2 := gAs _ _ _
  have d6 := FO_on d5 (by decide) o6
  generalize up_A S5 (ky 0 33) (upd (st_A S5 (ky 0 33)) (8 * sd + pc P 4) v2) = S6 at *
  obtain ⟨S7, e7, o7, d7⟩ := op_must (k := 4) (q' := qd 0 4 (inc (pc P) 4)) d6 (by decide) (by decide) (qd0 (by decide)) (fun j _ => gqe _ (by decide) (by decide) j) many_e
  rw [show f_X6_must S6 (4 : Int32) = _ from e7, bnd]
  have oo : on (kM [11, 13, 14, 15, 16, 32, 33]) S S7 := on_trans (kM_mono (by decide) o1) (on_trans (kM_mono (by decide) o2) (on_trans (kM_mono (by decide) o3) (on_trans (kM_mono (by decide) o4) (on_trans (kM_mono (by decide) o5) (on_trans (kM_mono (by decide) o6) (kM_mono (by decide) o7))))))
  have q7 : oh sd fsTe S S7 := oh_trans q1 (oh_trans (oh_ofS (by decide) (by decide) o2) (oh_trans (oh_ofS (by decide) (by decide) o3) (oh_trans q4 (oh_trans (oh_ofS (by decide) (by decide) o5) (oh_trans q6 (oh_ofS (by decide) (by decide) o7))))))
  rcases d7 with f | ⟨⟨⟨⟨⟨⟨⟨⟨_, k1⟩, rfl⟩, k2⟩, rfl⟩, k3⟩, rfl⟩, k4⟩, a7, r7, s7, l7⟩
  · rw [if_neg (flt_p f).1]
    exact ⟨S7, rfl, q7, Or.inl f⟩
  have n19 : st_I S7 (ky 0 19) = nI sd := by rw [kI oo 19]; exact h19
  have n28 : st_A S7 (ky 0 31) sd = nI (pc P 4) := by rw [kA oo 31]; exact c31
  have hN7 := NMS_on hN (by decide) oo
  obtain ⟨S8, e8, q8, hN8, e28⟩ := M_note (sd := sd) (s := 2) (c := pc P 4) (g := 31) hN7 (by unfold nN; omega) (at_8 a7 (show t + 1 < t + 1 + 1 + 1 + 1 + 1 by omega) k1) (tk_vL k1) (by have := a7.2.2.1; omega) (by decide) (by omega) (fun z => absurd z (by decide)) n19 hsd (by decide) n28
  rw [a7.1, if_pos (Int32.le_refl _), n19, chk_t (ib_nI hsd (by decide)), nI_clamp (by omega), n28]
  have a8 := atM_on (by decide) a7 q8.1
  have o08 : on (kM [11, 13, 14, 15, 16, 32, 33, 20, 21, 22, 23, 31]) S S8 := on_trans (kM_mono (by decide) oo) (kM_mono (by decide) q8.1)
  have n32 : st_A S8 (ky 0 32) = upd (st_A S (ky 0 32)) (8 * sd + pc P 4) (bkM (lk (nN P) (pn P) (tkL B n (t + 2)) 0)) := by rw [kA q8.1 32, kA o7 32, kA o6 32, kA o5 32, x32, kA o3 32, kA o2 32, kA o1 32]
  have n33 : st_A S8 (ky 0 33) = upd (st_A S (ky 0 33)) (8 * sd + pc P 4) (bkM (lk (nN P) (pn P) (tkL B n (t + 3)) 1)) := by rw [kA q8.1 33, kA o7 33, x33, kA o5 33, kA o4 33, kA o3 33, kA o2 33, kA o1 33]
  have eP : tkP (tkK B n) (tkL B n) (tkV B n) P t [] = (inc (pc P) 4, addN (pn P) (nN P) (tkL B n (t + 1), 2, pc P 4), setR (setR (pr P) 4 (pc P 4) (lkv P (tkL B n (t + 2)) 0)) 5 (pc P 4) (lkv P (tkL B n (t + 3)) 1), pl P, pk P, pd P) := by
    unfold tkP
    rw [if_neg (by omega), if_neg (by omega), if_neg (by omega), if_neg (by omega), if_pos k20]
  have eF : tkF (tkK B n) (tkL B n) (tkV B n) P t = ow (ow (dupP P (tkL B n (t + 1)) (t + 1)) (lkP P (tkL B n (t + 2)) 0 (t + 2))) (lkP P (tkL B n (t + 3)) 1 (t + 3)) := by
    unfold tkF
    rw [if_neg (by omega), if_neg (by omega), if_neg (by omega), if_neg (by omega), if_pos k20]
  refine ⟨S8, e8, oh_trans q7 (oh_mono (by decide) q8), Or.inr ⟨t + 5, [], all, bl, 4, 0, true, true, 0, 0, by omega, Or.inr (Or.inr (Or.inr (Or.inr (Or.inl ⟨k20, k1, k2, k3, k4, rfl⟩)))), ?_, ?_⟩⟩
  · rw [eP]; exact r7
  · have ew : ow w (ow (ow (dupP P (tkL B n (t + 1)) (t + 1)) (lkP P (tkL B n (t + 2)) 0 (t + 2))) (lkP P (tkL B n (t + 3)) 1 (t + 3))) = ow (ow (ow w (dupF (nN P) (pn P) (tkL B n (t + 1)) (t + 1))) (lkF (nN P) (pn P) (tkL B n (t + 2)) 0 (t + 2))) (lkF (nN P) (pn P) (tkL B n (t + 3)) 1 (t + 3)) := by
      rw [ow_a, ow_a, ow_a]
      rfl
    rw [eP, eF, ew]
    refine ⟨LX_mv (by decide) hX o08 (by omega) a8, by omega, ⟨?_, ⟨?_, ?_, ?_, ?_⟩, ⟨b0, b1, b2, ?_⟩, ?_⟩, fun hw => ?_, wst_on s7 (by decide) q8.1, l7, inc_le 4 hct (by omega)⟩
    · rw [kI q8.1 19]; exact n19
    · rw [kA o08 24]; exact c24
    · rw [kA o08 25]; exact c25
    · rw [kA o08 28]; exact c28
    · rw [e28, upd_s]; rfl
    · show pc P 4 + 1 ≤ 8
      omega
    · rw [nN_4 (P := P) (P' := (inc (pc P) 4, addN (pn P) (nN P) (tkL B n (t + 1), 2, pc P 4), setR (setR (pr P) 4 (pc P 4) (lkv P (tkL B n (t + 2)) 0)) 5 (pc P 4) (lkv P (tkL B n (t + 3)) 1), pl P, pk P, pd P)) rfl rfl rfl]
      exact hN8
    · obtain ⟨hw1, hF3⟩ := ow_none hw
      obtain ⟨hw2, hF2⟩ := ow_none hw1
      obtain ⟨hw3, -⟩ := ow_none hw2
      obtain ⟨ra, rb, rc, rd, re, rf⟩ := hr hw3
      refine ⟨?_, ?_, fun a ha => ?_, ?_, ?_, fun i hi => ?_⟩
      · rw [kA o08 26, kA o08 27]
        exact fun a ha => ra a ha
      · rw [kA o08 29, kA o08 30]
        exact fun a ha => rb a ha
      · have hd2 : a < pc P 4 + 1 := ha
        rw [n32, n33]
        by_cases c : a = pc P 4
        · subst c
          have g0 : pr (inc (pc P) 4, addN (pn P) (nN P) (tkL B n (t + 1), 2, pc P 4), setR (setR (pr P) 4 (pc P 4) (lkv P (tkL B n (t + 2)) 0)) 5 (pc P 4) (lkv P (tkL B n (t + 3)) 1), pl P, pk P, pd P) 4 (pc P 4) = lkv P (tkL B n (t + 2)) 0 := by
            show setR (setR (pr P) 4 (pc P 4) (lkv P (tkL B n (t + 2)) 0)) 5 (pc P 4) (lkv P (tkL B n (t + 3)) 1) 4 (pc P 4) = _
            rw [setR_n (by omega), setR_s]
          have g1 : pr (inc (pc P) 4, addN (pn P) (nN P) (tkL B n (t + 1), 2, pc P 4), setR (setR (pr P) 4 (pc P 4) (lkv P (tkL B n (t + 2)) 0)) 5 (pc P 4) (lkv P (tkL B n (t + 3)) 1), pl P, pk P, pd P) 5 (pc P 4) = lkv P (tkL B n (t + 3)) 1 := setR_s _ _ _ _
          rw [upd_s, upd_s, g0, g1, lk_some hF2, lk_some hF3]
          exact ⟨rfl, rfl⟩
        · have g0 : ∀ i, pr (inc (pc P) 4, addN (pn P) (nN P) (tkL B n (t + 1), 2, pc P 4), setR (setR (pr P) 4 (pc P 4) (lkv P (tkL B n (t + 2)) 0)) 5 (pc P 4) (lkv P (tkL B n (t + 3)) 1), pl P, pk P, pd P) i a = pr P i a := fun i => by
            show setR (setR (pr P) 4 (pc P 4) (lkv P (tkL B n (t + 2)) 0)) 5 (pc P 4) (lkv P (tkL B n (t + 3)) 1) i a = _
            rw [setR_n (fun z => c z.2), setR_n (fun z => c z.2)]
          rw [upd_n (by omega), upd_n (by omega), g0, g0]
          exact rc a (by omega)
      · rw [kA o08 34]; exact rd
      · rw [kA o08 35]; exact re
      · have := rf i hi
        unfold lawR at *
        rw [kA o08 36, kA o08 37]
        exact this
end TE
