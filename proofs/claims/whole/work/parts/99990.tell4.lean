/-! THE REFERENCE TAKES A TELL: laws, breaks, seed; any. -/
section TE
variable {B : Nat → Nat} {n sd : Nat}
theorem M_tellLawF {S : St} {b : Nat} {c : Nat × Nat} (f : fltM B n S c) (hs : sd < 2) (hb0 : 130 * sd ≤ b) (hb : b < 130 * sd + 130) (h : st_I S (ky 0 38) = nI b) (x1 : Int32) : ∃ S', f_X6_tellLaw S x1 = some S' ∧ oh sd fsL2 S S' ∧ fltM B n S' c := by
  have lp : iter (f_X6_tellLaw_L12 x1 (st_I S (ky 0 38))) FU ((0 : Int32), S) = some (.inl S) := by
    refine iter_FU (fun _ => ((0 : Int32), S)) 0 (by decide) (fun i hi => absurd hi (Nat.not_lt_zero _)) ?_
    rw [L12_e, if_neg (flt_p f).2.1]
  unfold f_X6_tellLaw
  rw [M_mustF f, bnd, lp, bnd]
  exact M_129F f hs hb0 hb h x1 _
theorem lawR_app {S : St} {bl : List BR} {i : Nat} {o : Option (List BR)} (h : lawR sd S bl i o) (x : List BR) : lawR sd S (bl ++ x) i o := by
  cases o with
  | none => exact h
  | some brs =>
    obtain ⟨j, a, b, c, d⟩ := h
    refine ⟨j, a, b, by rw [List.length_append]; omega, fun u hu => ?_⟩
    rw [← d u hu, List.getD_eq_getElem?_getD, List.getD_eq_getElem?_getD, List.getElem?_append_left (by omega)]
theorem lawR_new {S S' : St} {P : TP} {bl brs : List BR} {a : Nat} (ha : a < 7) (hr : ∀ i, i < 7 → lawR sd S bl i (pl P i)) (h36 : st_A S' (ky 0 36) = upd (st_A S (ky 0 36)) (7 * sd + a) (nI (130 * sd + bl.length))) (h37 : st_A S' (ky 0 37) = upd (st_A S (ky 0 37)) (7 * sd + a) (nI (130 * sd + (bl ++ brs).length))) : ∀ i, i < 7 → lawR sd S' (bl ++ brs) i (setL (pl P) (some a) brs i) := by
  intro i hi
  by_cases c : a = i
  · subst c
    have e : setL (pl P) (some a) brs a = some brs := if_pos rfl
    rw [e]
    refine ⟨bl.length, ?_, ?_, ?_, fun u hu => ?_⟩
    · rw [h36, upd_s]
    · rw [h37, upd_s, List.length_append, Nat.add_assoc]
    · rw [List.length_append]; omega
    · rw [List.getD_eq_getElem?_getD, List.getD_eq_getElem?_getD, List.getElem?_append_right (by omega), Nat.add_sub_cancel_left]
  · have e : setL (pl P) (some a) brs i = pl P i := if_neg (fun z => c (Option.some.inj z))
    rw [e]
    have h2 := lawR_app (hr i hi) brs
    unfold lawR at *
    rw [h36, h37, upd_n (by omega), upd_n (by omega)]
    exact h2
theorem M_tell23 {S : St} {t sp pt br ifs : Nat} {wb fr : Bool} {all : CL} {bl : List BR} {P : TP} {w : Option (Nat × Nat)} (hn : n ≤ 2000) (h : TB B n sd S t all bl P w) (k20 : tkK B n t = 23) : ∃ S', f_X6_tellOne S = some S' ∧ TEc B n sd S t P w (rn (tkK B n) t (tq sp pt wb fr br ifs (pc P))) S' := by
  obtain ⟨hX, hb4, ⟨h19, ⟨c24, c25, c28, c31⟩, ⟨b0, b1, b2, b4⟩, hN⟩, hr, sw, hl, hct⟩ := h
  have hA := hX.1.1
  have hsd := hX.1.2.2.2.2.2
  have h400 := hA.2.2.1
  unfold f_X6_tellOne
  rw [chk_t (at_ib hA), at_k hA, lt_e, k20, if_neg (show ¬ nI 23 = (20 : Int32) by decide), if_neg (show ¬ nI 23 = (21 : Int32) by decide), if_neg (show ¬ nI 23 = (22 : Int32) by decide), if_pos (show nI 23 = (23 : Int32) from rfl)]
  obtain ⟨S1, e1, o1, d1⟩ := op_go (k := 23) (sp := sp) (pt := pt) (wb := wb) (fr := fr) (br := br) (ifs := ifs) (cn := pc P) hA sw hl (by decide) k20 (hct _) rfl
  generalize hr0 : rn (tkK B n) t (tq sp pt wb fr br ifs (pc P)) = r0 at *
  rw [e1, bnd]
  have hc3 := hct 3
  have hm : ¬ mostN.getD (23 - 20) 0 < inc (pc P) 3 (23 - 20) := by
    show ¬ 1000 < inc (pc P) 3 3
    rw [inc_s]; omega
  obtain ⟨x, S2, e2, o2, hx, d2⟩ := op_known (s := 1) (q := qd 23 0 (inc (pc P) 3)) (q' := qd 23 1 (inc (pc P) 3)) hn d1 (NMS_on hN (by decide) o1) (by decide) (qd0 (by decide)) (fun j _ => gqd _ (by decide) (by decide) (by decide) (by decide) j) (many_d hm)
  rw [show f_X6_known S1 (1 : Int32) = _ from e2, bnd]
  have oo : on (kM [11, 13, 14, 15, 16]) S S2 := on_trans (kM_mono (by decide) o1) (kM_mono (by decide) o2)
  have q2 : oh sd fsTe S S2 := oh_trans (oh_ofS (by decide) (by decide) o1) (oh_ofS (by decide) (by decide) o2)
  have m38 : st_I S2 (ky 0 38) = nI (130 * sd + bl.length) := by rw [kI oo 38]; exact hX.2.1
  have m19 : st_I S2 (ky 0 19) = nI sd := by rw [kI oo 19]; exact h19
  rw [bid]
  rcases d2 with f | ⟨⟨⟨_, k1⟩, ex⟩, a2, r2, s2, l2⟩
  · obtain ⟨S3, e3, q3, f3⟩ := M_tellLawF (sd := sd) f hsd (by omega) (by omega) m38 x
    exact ⟨S3, e3, oh_trans q2 (oh_mono (by decide) q3), Or.inl f3⟩
  have hX2 := LX_mv (by decide) hX oo (show t ≤ t + 1 + 1 by omega) a2
  have hx2 : x = -1 ∨ ∃ k, k < 7 ∧ x = nI k := (hx (Or.inr rfl)).elim Or.inl (fun ⟨k, a, b⟩ => Or.inr ⟨k, by omega, b⟩)
  obtain ⟨S3, e3, q3, d3⟩ := M_tellLaw (tel := 23) (sp := 1) (cn := inc (pc P) 3) ⟨by decide, by decide, hm⟩ hX2 (by omega) m19 hx2
  refine ⟨S3, e3, oh_trans q2 (oh_mono (by decide) q3), ?_⟩
  rcases d3 with f3 | ⟨e, brs, all', ifs', k5, he, hT, hX3, h43, r3, kp⟩
  · exact Or.inl (by rw [r2]; exact f3)
  have eP : tkP (tkK B n) (tkL B n) (tkV B n) P t brs = (inc (pc P) 3, pn P, pr P, setL (pl P) (lk (nN P) (pn P) (tkL B n (t + 1)) 1) brs, pk P, pd P) := by
    unfold tkP
    rw [if_neg (by omega), if_neg (by omega), if_neg (by omega), if_pos k20]
  have eF : tkF (tkK B n) (tkL B n) (tkV B n) P t = lkP P (tkL B n (t + 1)) 1 (t + 1) := by
    unfold tkF
    rw [if_neg (by omega), if_neg (by omega), if_neg (by omega), if_pos k20]
  refine Or.inr ⟨e + 1, brs, all', bl ++ brs, 1, 4, true, true, 0, ifs', by omega, Or.inr (Or.inr (Or.inr (Or.inl ⟨k20, k1, k5, e, by omega, hT, rfl⟩))), ?_, ?_⟩
  · rw [eP]; exact r2.trans r3
  · rw [eP, eF]
    refine ⟨hX3, h43, ⟨?_, ⟨?_, ?_, ?_, ?_⟩, ⟨b0, b1, b2, b4⟩, ?_⟩, fun hw => ?_, wst_on s2 (by decide) q3.1, fun y hy => by have := l2 y hy; omega, inc_le 3 hct (by omega)⟩
    · rw [kI q3.1 19]; exact m19
    · rw [kA q3.1 24, kA oo 24]; exact c24
    · rw [kA q3.1 25, kA oo 25]; exact c25
    · rw [kA q3.1 28, kA oo 28]; exact c28
    · rw [kA q3.1 31, kA oo 31]; exact c31
    · exact NMS_on (NMS_on hN (by decide) oo) (by decide) q3.1
    · obtain ⟨hw1, hF⟩ := ow_none hw
      obtain ⟨ra, rb, rc, rd, re, rf⟩ := TBr_mv (hr hw1) (by decide) oo
      refine ⟨?_, ?_, ?_, ?_, ?_, ?_⟩
      · rw [kA q3.1 26, kA q3.1 27]; exact ra
      · rw [kA q3.1 29, kA q3.1 30]; exact rb
      · rw [kA q3.1 32, kA q3.1 33]; exact rc
      · rw [kA q3.1 34]; exact rd
      · rw [kA q3.1 35]; exact re
      · cases hk : lk (nN P) (pn P) (tkL B n (t + 1)) 1 with
        | none =>
          have hF2 : lkF (nN P) (pn P) (tkL B n (t + 1)) 1 (t + 1) = none := hF
          rw [lkF_n hk] at hF2
          cases hF2
        | some a =>
          rw [hk] at ex
          have ha := lk_lt hN hk
          have ex2 : x = nI a := ex
          rcases kp with ⟨z, -⟩ | ⟨k, hk7, z, h36, h37⟩
          · rw [ex2] at z
            have h1 : ¬ nI a < 0 := nI_pos (by omega)
            rw [z] at h1
            exact absurd (by decide : (-1 : Int32) < 0) h1
          · have hka : k = a := ((nI_eq (by omega) (by omega)).mp (by rw [← ex2, z])).symm
            subst hka
            exact lawR_new hk7 rf h36 h37
theorem M_tell25 {S : St} {t sp pt br ifs : Nat} {wb fr : Bool} {all : CL} {bl : List BR} {P : TP} {w : Option (Nat × Nat)} (h : TB B n sd S t all bl P w) (k20 : tkK B n t = 25) : ∃ S', f_X6_tellOne S = some S' ∧ TEc B n sd S t P w (rn (tkK B n) t (tq sp pt wb fr br ifs (pc P))) S' := by
  obtain ⟨hX, hb4, ⟨h19, ⟨c24, c25, c28, c31⟩, ⟨b0, b1, b2, b4⟩, hN⟩, hr, sw, hl, hct⟩ := h
  have hA := hX.1.1
  have hsd := hX.1.2.2.2.2.2
  have h400 := hA.2.2.1
  unfold f_X6_tellOne
  rw [chk_t (at_ib hA), at_k hA, lt_e, k20, if_neg (show ¬ nI 25 = (20 : Int32) by decide), if_neg (show ¬ nI 25 = (21 : Int32) by decide), if_neg (show ¬ nI 25 = (22 : Int32) by decide), if_neg (show ¬ nI 25 = (23 : Int32) by decide), if_neg (show ¬ nI 25 = (24 : Int32) by decide), if_pos (show nI 25 = (25 : Int32) from rfl)]
  obtain ⟨S1, e1, o1, d1⟩ := op_go (k := 25) (sp := sp) (pt := pt) (wb := wb) (fr := fr) (br := br) (ifs := ifs) (cn := pc P) hA sw hl (by decide) k20 (hct _) rfl
  generalize hr0 : rn (tkK B n) t (tq sp pt wb fr br ifs (pc P)) = r0 at *
  rw [e1, bnd, bid]
  have hc3 := hct 5
  have hm : ¬ mostN.getD (25 - 20) 0 < inc (pc P) 5 (25 - 20) := by
    show ¬ 1000 < inc (pc P) 5 5
    rw [inc_s]; omega
  have q2 : oh sd fsTe S S1 := oh_ofS (by decide) (by decide) o1
  have m38 : st_I S1 (ky 0 38) = nI (130 * sd + bl.length) := by rw [kI o1 38]; exact hX.2.1
  have m19 : st_I S1 (ky 0 19) = nI sd := by rw [kI o1 19]; exact h19
  rcases d1 with f | ⟨-, a2, r2, s2, l2⟩
  · obtain ⟨S3, e3, q3, f3⟩ := M_tellLawF (sd := sd) f hsd (by omega) (by omega) m38 6
    exact ⟨S3, e3, oh_trans q2 (oh_mono (by decide) q3), Or.inl f3⟩
  have hX2 := LX_mv (by decide) hX o1 (show t ≤ t + 1 by omega) a2
  obtain ⟨S3, e3, q3, d3⟩ := M_tellLaw (tel := 25) (sp := 0) (cn := inc (pc P) 5) (x1 := 6) ⟨by decide, by decide, hm⟩ hX2 (by omega) m19 (Or.inr ⟨6, by decide, rfl⟩)
  refine ⟨S3, e3, oh_trans q2 (oh_mono (by decide) q3), ?_⟩
  rcases d3 with f3 | ⟨e, brs, all', ifs', k5, he, hT, hX3, h43, r3, kp⟩
  · exact Or.inl (by rw [r2]; exact f3)
  have eP : tkP (tkK B n) (tkL B n) (tkV B n) P t brs = (inc (pc P) 5, pn P, pr P, setL (pl P) (some 6) brs, pk P, pd P) := by
    unfold tkP
    rw [if_neg (by omega), if_neg (by omega), if_neg (by omega), if_neg (by omega), if_neg (by omega), if_pos k20]
  have eF : tkF (tkK B n) (tkL B n) (tkV B n) P t = none := by
    unfold tkF
    rw [if_neg (by omega), if_neg (by omega), if_neg (by omega), if_neg (by omega), if_neg (by omega), if_pos k20]
  refine Or.inr ⟨e + 1, brs, all', bl ++ brs, 0, 4, true, true, 0, ifs', by omega, Or.inr (Or.inr (Or.inr (Or.inr (Or.inr (Or.inl ⟨k20, k5, e, by omega, hT, rfl⟩))))), ?_, ?_⟩
  · rw [eP]; exact r2.trans r3
  · rw [eP, eF, ow_N]
    refine ⟨hX3, h43, ⟨?_, ⟨?_, ?_, ?_, ?_⟩, ⟨b0, b1, b2, b4⟩, ?_⟩, fun hw => ?_, wst_on s2 (by decide) q3.1, fun y hy => by have := l2 y hy; omega, inc_le 5 hct (by omega)⟩
    · rw [kI q3.1 19]; exact m19
    · rw [kA q3.1 24, kA o1 24]; exact c24
    · rw [kA q3.1 25, kA o1 25]; exact c25
    · rw [kA q3.1 28, kA o1 28]; exact c28
    · rw [kA q3.1 31, kA o1 31]; exact c31
    · exact NMS_on (NMS_on hN (by decide) o1) (by decide) q3.1
    · obtain ⟨ra, rb, rc, rd, re, rf⟩ := TBr_mv (hr hw) (by decide) o1
      refine ⟨?_, ?_, ?_, ?_, ?_, ?_⟩
      · rw [kA q3.1 26, kA q3.1 27]; exact ra
      · rw [kA q3.1 29, kA q3.1 30]; exact rb
      · rw [kA q3.1 32, kA q3.1 33]; exact rc
      · rw [kA q3.1 34]; exact rd
      · rw [kA q3.1 35]; exact re
      · rcases kp with ⟨z, -⟩ | ⟨k, hk7, z, h36, h37⟩
        · exact absurd z (by decide)
        · have hka : k = 6 := ((nI_eq (a := 6) (b := k) (by omega) (by omega)).mp z).symm
          subst hka
          exact lawR_new hk7 rf h36 h37
end TE
