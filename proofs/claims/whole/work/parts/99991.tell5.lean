/-! THE REFERENCE TAKES A TELL: breaks, seed; any. -/
section TE
variable {B : Nat → Nat} {n sd : Nat}
/-- 'breaks' and 'seed': a number into the row g -/
theorem M_num {S : St} {t k m g sp pt br ifs : Nat} {wb fr : Bool} {all : CL} {bl : List BR} {P P' : TP} {w : Option (Nat × Nat)} (hn : n ≤ 2000) (h : TB B n sd S t all bl P w) (hk : tkK B n t = k) (hk2 : k = 26 ∧ m = 100 ∧ g = 34 ∨ k = 27 ∧ m = 9999 ∧ g = 35) (eP : tkP (tkK B n) (tkL B n) (tkV B n) P t [] = P') (hP : P' = if k = 26 then (inc (pc P) 6, pn P, pr P, pl P, tkV B n (t + 1), pd P) else (inc (pc P) 7, pn P, pr P, pl P, pk P, tkV B n (t + 1))) (eF : tkF (tkK B n) (tkL B n) (tkV B n) P t = numF m (tkV B n (t + 1)) (t + 1)) : ∃ S', (f_X6_goesOn S).bind (fun (q24 : St) => (f_X6_bounded q24 (0 : Int32) (nI m)).bind (fun (q25 : Int32 × St) => chk (ib (st_I q24 (ky 0 19)) 2) (lt_v (up_A q25.2 (ky 0 g) (upd (st_A q25.2 (ky 0 g)) (st_I q24 (ky 0 19)).toNatClampNeg q25.1)) (fun (S26 : St) => (f_X6_must S26 (4 : Int32)).bind (fun (q27 : St) => some q27))))) = some S' ∧ TEc B n sd S t P w (rn (tkK B n) t (tq sp pt wb fr br ifs (pc P))) S' := by
  obtain ⟨hX, hb4, ⟨h19, ⟨c24, c25, c28, c31⟩, ⟨b0, b1, b2, b4⟩, hN⟩, hr, sw, hl, hct⟩ := h
  have hA := hX.1.1
  have hsd := hX.1.2.2.2.2.2
  have h400 := hA.2.2.1
  have hk28 : 20 ≤ k ∧ k < 28 := by omega
  have hmost : mostN.getD (k - 20) 0 = 1000 := by rcases hk2 with ⟨rfl, _⟩ | ⟨rfl, _⟩ <;> rfl
  obtain ⟨S1, e1, o1, d1⟩ := op_go (k := k) (sp := sp) (pt := pt) (wb := wb) (fr := fr) (br := br) (ifs := ifs) (cn := pc P) hA sw hl hk28 hk (hct _) hmost
  generalize hr0 : rn (tkK B n) t (tq sp pt wb fr br ifs (pc P)) = r0 at *
  rw [e1, bnd]
  have hc3 := hct (k - 20)
  have hm : ¬ mostN.getD (k - 20) 0 < inc (pc P) (k - 20) (k - 20) := by
    rw [hmost, inc_s]; omega
  have du0 : due k 0 = 2 := by rcases hk2 with ⟨rfl, _⟩ | ⟨rfl, _⟩ <;> rfl
  have du1 : due k 1 = 4 := by rcases hk2 with ⟨rfl, _⟩ | ⟨rfl, _⟩ <;> rfl
  have m19 : st_I S1 (ky 0 19) = nI sd := by rw [kI o1 19]; exact h19
  obtain ⟨v, S2, e2, o2, d2⟩ := op_bounded (m := m) (q := qd k 0 (inc (pc P) (k - 20))) (q' := qd k 1 (inc (pc P) (k - 20))) hn d1 (by omega) (qd0 (by omega)) (fun j _ => gqd _ (by omega) du0 (by decide) (by decide) j) (many_d hm)
  rw [e2, bnd, m19, chk_t (ib_nI hsd (by decide)), nI_clamp (by omega), lt_e]
  have hg : g = 34 ∨ g = 35 := by omega
  have o3 : on (kM [g]) S2 (up_A S2 (ky 0 g) (upd (st_A S2 (ky 0 g)) sd v)) := on_A _ _ _ ⟨g, by simp, rfl⟩
  have q3 : oh sd fsTe S2 (up_A S2 (ky 0 g) (upd (st_A S2 (ky 0 g)) sd v)) := oh_U S2 g _ _ (by rcases hg with rfl | rfl <;> decide) (by omega) (by rw [wd1 g (by omega)]; omega) (by rw [wd1 g (by omega)]; omega)
  have xg : st_A (up_A S2 (ky 0 g) (upd (st_A S2 (ky 0 g)) sd v)) (ky 0 g) = upd (st_A S2 (ky 0 g)) sd v := gAs _ _ _
  have d3 := FO_on d2 (fun f hf => by have := List.mem_singleton.mp hf; omega) o3
  generalize up_A S2 (ky 0 g) (upd (st_A S2 (ky 0 g)) sd v) = S3 at *
  obtain ⟨S4, e4, o4, d4⟩ := op_must (k := 4) (q' := qd 0 2 (inc (pc P) (k - 20))) d3 (by decide) (by decide) (qd0 (by omega)) (fun j _ => gqe _ (by omega) du1 j) many_e
  rw [show f_X6_must S3 (4 : Int32) = _ from e4, bnd]
  have q4 : oh sd fsTe S S4 := oh_trans (oh_ofS (by decide) (by decide) o1) (oh_trans (oh_ofS (by decide) (by decide) o2) (oh_trans q3 (oh_ofS (by decide) (by decide) o4)))
  refine ⟨S4, rfl, q4, ?_⟩
  rcases d4 with f | ⟨⟨⟨⟨_, k2⟩, rfl⟩, k4⟩, a4, r4, s4, l4⟩
  · exact Or.inl f
  have o3' : on (kM [34, 35]) S2 S3 := kM_mono (by rcases hg with rfl | rfl <;> decide) o3
  have oo : on (kM [11, 13, 14, 15, 16, 34, 35]) S S4 := on_trans (kM_mono (by decide) o1) (on_trans (kM_mono (by decide) o2) (on_trans (kM_mono (by decide) o3') (kM_mono (by decide) o4)))
  have pcs : pc P' 0 = pc P 0 ∧ pc P' 1 = pc P 1 ∧ pc P' 2 = pc P 2 ∧ pc P' 4 = pc P 4 ∧ pn P' = pn P ∧ pr P' = pr P ∧ pl P' = pl P ∧ pc P' = inc (pc P) (k - 20) := by
    rcases hk2 with ⟨rfl, _⟩ | ⟨rfl, _⟩
    · rw [hP, if_pos rfl]; exact ⟨rfl, rfl, rfl, rfl, rfl, rfl, rfl, rfl⟩
    · rw [hP, if_neg (by decide)]; exact ⟨rfl, rfl, rfl, rfl, rfl, rfl, rfl, rfl⟩
  obtain ⟨p0, p1, p2, p4, p5, p6, p7, p8⟩ := pcs
  have hs : shp (tkK B n) (tkV B n) t (t + 3) [] := by
    unfold shp
    rcases hk2 with ⟨rfl, _⟩ | ⟨rfl, _⟩
    · exact Or.inr (Or.inr (Or.inr (Or.inr (Or.inr (Or.inr (Or.inl ⟨hk, k2, k4, rfl⟩))))))
    · exact Or.inr (Or.inr (Or.inr (Or.inr (Or.inr (Or.inr (Or.inr ⟨hk, k2, k4, rfl⟩))))))
  refine Or.inr ⟨t + 3, [], all, bl, 2, 0, true, true, 0, 0, by omega, hs, ?_, ?_⟩
  · rw [eP, p8]; exact r4
  · rw [eP, eF]
    refine ⟨LX_mv (by decide) hX oo (by omega) a4, by omega, ⟨?_, ⟨?_, ?_, ?_, ?_⟩, ⟨?_, ?_, ?_, ?_⟩, ?_⟩, fun hw => ?_, s4, l4, by rw [p8]; exact inc_le _ hct (by omega)⟩
    · rw [kI oo 19]; exact h19
    · rw [kA oo 24, p0]; exact c24
    · rw [kA oo 25, p1]; exact c25
    · rw [kA oo 28, p2]; exact c28
    · rw [kA oo 31, p4]; exact c31
    · rw [p0]; exact b0
    · rw [p1]; exact b1
    · rw [p2]; exact b2
    · rw [p4]; exact b4
    · have eN : nN P' = nN P := by unfold nN; rw [p0, p2, p4]
      rw [eN, p5]
      exact NMS_on hN (by decide) oo
    · obtain ⟨hw1, hF⟩ := ow_none hw
      obtain ⟨ra, rb, rc, rd, re, rf⟩ := hr hw1
      unfold TBr
      rw [p1, p2, p4, p6, p7]
      refine ⟨?_, ?_, ?_, ?_, ?_, fun i hi => ?_⟩
      · rw [kA oo 26, kA oo 27]; exact ra
      · rw [kA oo 29, kA oo 30]; exact rb
      · rw [kA oo 32, kA oo 33]; exact rc
      · rcases hk2 with ⟨rfl, _, rfl⟩ | ⟨rfl, _, rfl⟩
        · rw [kA o4 34, xg, upd_s, hP, if_pos rfl]; rfl
        · rw [kA o4 34, kA o3 34, kA o2 34, kA o1 34, hP, if_neg (by decide)]; exact rd
      · rcases hk2 with ⟨rfl, _, rfl⟩ | ⟨rfl, _, rfl⟩
        · rw [kA o4 35, kA o3 35, kA o2 35, kA o1 35, hP, if_pos rfl]; exact re
        · rw [kA o4 35, xg, upd_s, hP, if_neg (by decide)]; rfl
      · have := rf i hi
        unfold lawR at *
        rw [kA oo 36, kA oo 37]
        exact this
theorem M_tellOne {S : St} {t sp pt br ifs : Nat} {wb fr : Bool} {all : CL} {bl : List BR} {P : TP} {w : Option (Nat × Nat)} (hn : n ≤ 2000) (h : TB B n sd S t all bl P w) (h0 : tkK B n t ≠ 0) : ∃ S', f_X6_tellOne S = some S' ∧ TEc B n sd S t P w (rn (tkK B n) t (tq sp pt wb fr br ifs (pc P))) S' := by
  have hA := h.1.1.1
  have h37 := tkK_37 hA.2.2.2.2 t
  by_cases c20 : tkK B n t = 20
  · exact M_tell20 hn h c20
  by_cases c21 : tkK B n t = 21
  · exact M_tell21 hn h c21
  by_cases c22 : tkK B n t = 22
  · exact M_tell22 hn h c22
  by_cases c23 : tkK B n t = 23
  · exact M_tell23 hn h c23
  by_cases c24 : tkK B n t = 24
  · exact M_tell24 hn h c24
  by_cases c25 : tkK B n t = 25
  · exact M_tell25 h c25
  have start : f_X6_tellOne S = if nI (tkK B n t) = 26 then ((f_X6_goesOn S).bind (fun (q24 : St) => (f_X6_bounded q24 (0 : Int32) (100 : Int32)).bind (fun (q25 : Int32 × St) => chk (ib (st_I q24 (ky 0 19)) 2) (lt_v (up_A q25.2 (ky 0 34) (upd (st_A q25.2 (ky 0 34)) (st_I q24 (ky 0 19)).toNatClampNeg q25.1)) (fun (S26 : St) => (f_X6_must S26 (4 : Int32)).bind (fun (q27 : St) => some q27)))))) else (if nI (tkK B n t) = 27 then ((f_X6_goesOn S).bind (fun (q28 : St) => (f_X6_bounded q28 (0 : Int32) (9999 : Int32)).bind (fun (q29 : Int32 × St) => chk (ib (st_I q28 (ky 0 19)) 2) (lt_v (up_A q29.2 (ky 0 35) (upd (st_A q29.2 (ky 0 35)) (st_I q28 (ky 0 19)).toNatClampNeg q29.1)) (fun (S30 : St) => (f_X6_must S30 (4 : Int32)).bind (fun (q31 : St) => some q31)))))) else ((f_X6_fail S (1 : Int32)).bind (fun (q32 : St) => some q32))) := by
    unfold f_X6_tellOne
    have ne : ∀ k : Nat, k < 100 → tkK B n t ≠ k → ¬ nI (tkK B n t) = nI k := fun k hk z => nI_eq' (by omega) (by omega) z
    rw [chk_t (at_ib hA), at_k hA, lt_e, if_neg (show ¬ nI (tkK B n t) = (20 : Int32) from ne 20 (by decide) c20), if_neg (show ¬ nI (tkK B n t) = (21 : Int32) from ne 21 (by decide) c21), if_neg (show ¬ nI (tkK B n t) = (22 : Int32) from ne 22 (by decide) c22), if_neg (show ¬ nI (tkK B n t) = (23 : Int32) from ne 23 (by decide) c23), if_neg (show ¬ nI (tkK B n t) = (24 : Int32) from ne 24 (by decide) c24), if_neg (show ¬ nI (tkK B n t) = (25 : Int32) from ne 25 (by decide) c25)]
  rw [start]
  by_cases c26 : tkK B n t = 26
  · rw [if_pos (by rw [c26]; rfl)]
    refine M_num (k := 26) (m := 100) (g := 34) hn h c26 (Or.inl ⟨rfl, rfl, rfl⟩) rfl ?_ ?_
    · unfold tkP
      rw [if_neg c20, if_neg c21, if_neg c22, if_neg c23, if_neg c24, if_neg c25, if_pos c26, if_pos rfl]
    · unfold tkF
      rw [if_neg c20, if_neg c21, if_neg c22, if_neg c23, if_neg c24, if_neg c25, if_pos c26]
  rw [if_neg (show ¬ nI (tkK B n t) = (26 : Int32) from nI_eq' (b := 26) (by omega) (by decide) c26)]
  by_cases c27 : tkK B n t = 27
  · rw [if_pos (by rw [c27]; rfl)]
    refine M_num (k := 27) (m := 9999) (g := 35) hn h c27 (Or.inr ⟨rfl, rfl, rfl⟩) rfl ?_ ?_
    · unfold tkP
      rw [if_neg c20, if_neg c21, if_neg c22, if_neg c23, if_neg c24, if_neg c25, if_neg c26, if_neg (by decide)]
    · unfold tkF
      rw [if_neg c20, if_neg c21, if_neg c22, if_neg c23, if_neg c24, if_neg c25, if_neg c26]
  rw [if_neg (show ¬ nI (tkK B n t) = (27 : Int32) from nI_eq' (b := 27) (by omega) (by decide) c27)]
  obtain ⟨e1, f⟩ := M_fail hA (k := 1) (Or.inl rfl)
  rw [show f_X6_fail S (1 : Int32) = _ from e1, bnd]
  refine ⟨_, rfl, oh_ofS (by decide) (by decide) (upFl_on S (nI 1) (nI (ps B n t))), Or.inl ?_⟩
  have eg : goQ (tq sp pt wb fr br ifs (pc P)) (tkK B n t) = none := by
    have e : goQ (tq sp pt wb fr br ifs (pc P)) (tkK B n t) = (if 20 ≤ tkK B n t ∧ tkK B n t < 28 then some (tkK B n t, 0, 0, true, true, 0, 0, fun i => if i = tkK B n t - 20 then pc P i + 1 else pc P i) else none) := rfl
    rw [e, if_neg (by omega)]
  rw [rn_e _ _ hA.2.2.1, if_neg h0, eg, aft_n]
  exact f
end TE
