/-! THE REFERENCE READS A LAW: its end, and where it is kept. -/
section EXS
variable {B : Nat → Nat} {n sd tel sp ifs : Nat} {cn : Nat → Nat}
/-- a branch more, the last -/
theorem LX_last {S S' : St} {t t' : Nat} {all : CL} {bl : List BR} {l3 : CL} (h : LX B n sd S t all bl) (h2 : EXs B n sd S' t' (all ++ l3)) (h38 : st_I S' (ky 0 38) = nI (130 * sd + bl.length + 1)) (b1 : st_A S' (ky 0 39) = upd (st_A S (ky 0 39)) (130 * sd + bl.length) 0) (b2 : st_A S' (ky 0 40) = st_A S (ky 0 40)) (b3 : st_A S' (ky 0 41) = st_A S (ky 0 41)) (b4 : st_A S' (ky 0 42) = upd (st_A S (ky 0 42)) (130 * sd + bl.length) (nI (420 * sd + all.length))) (b5 : st_A S' (ky 0 43) = upd (st_A S (ky 0 43)) (130 * sd + bl.length) (nI (420 * sd + (all ++ l3).length))) : LX B n sd S' t' (all ++ l3) (bl ++ [(none, l3)]) := by
  refine ⟨h2, ?_, fun j hj => ?_⟩
  · rw [h38, List.length_append]; rfl
  · rw [List.length_append] at hj
    have hj2 : j < bl.length + 1 := hj
    by_cases c : j = bl.length
    · subst c
      rw [getD_l]
      refine ⟨all, [], ?_, ?_, ?_, ?_⟩
      · rw [List.append_nil]
      · rw [b1, upd_s]
      · rw [b4, upd_s]
      · rw [b5, upd_s, List.length_append]; congr 1; omega
    · have hj3 : j < bl.length := by omega
      rw [getD_a _ _ _ hj3]
      refine brAt_app (brAt_cg (h.2.2 j hj3) (fun f g1 g2 => ?_)) _
      have hne : 130 * sd + j ≠ 130 * sd + bl.length := by omega
      rcases (show f = 39 ∨ f = 40 ∨ f = 41 ∨ f = 42 ∨ f = 43 by omega) with rfl | rfl | rfl | rfl | rfl
      · rw [b1, upd_n hne]
      · rw [b2]
      · rw [b3]
      · rw [b4, upd_n hne]
      · rw [b5, upd_n hne]
theorem LX_cg {S S' : St} {t : Nat} {all : CL} {bl : List BR} {fs : List Nat} (hf : ∀ f ∈ fs, f < 100 ∧ f ≠ 11 ∧ f ≠ 12 ∧ f ≠ 13 ∧ (f < 5 ∨ 8 < f) ∧ (f < 38 ∨ 46 < f)) (h : LX B n sd S t all bl) (o : on (kM fs) S S') : LX B n sd S' t all bl := by
  have g : ∀ f, f < 100 → (f = 12 ∨ 38 ≤ f ∧ f ≤ 46) → ¬ kM fs (ky 0 f) := fun f h1 h2 => kM_n (fun f hf2 => (hf f hf2).1) h1 (fun z => by have := hf f z; omega)
  obtain ⟨⟨a1, a2, a3, a4, a5, a6⟩, a7, a8⟩ := h
  refine ⟨⟨atM_on (fun f z => by have := hf f z; omega) a1 o, ?_, ?_, ?_, a5, a6⟩, ?_, fun j hj => brAt_cg (a8 j hj) (fun f g1 g2 => ?_)⟩
  · rw [(o _ (g 12 (by decide) (by decide))).1]; exact a2
  · rw [(o _ (g 44 (by decide) (by decide))).1]; exact a3
  · rw [(o _ (g 45 (by decide) (by decide))).2.1, (o _ (g 46 (by decide) (by decide))).2.1]; exact a4
  · rw [(o _ (g 38 (by decide) (by decide))).1]; exact a7
  · rw [(o _ (g f (by omega) (by omega))).2.1]
theorem M_129 {S : St} {t : Nat} {all : CL} {bl : List BR} (hL : inL tel sp 4 ifs cn) (h : LX B n sd S t all bl) (hk : tkK B n t ≠ 28) (hb : 4 * bl.length + 2 ≤ t) (h19 : st_I S (ky 0 19) = nI sd) {x1 : Int32} (hx : x1 = -1 ∨ ∃ k, k < 7 ∧ x1 = nI k) (b0 : Nat) : ∃ S', f_X6_tellLaw_J129 S x1 (nI b0) = some S' ∧ oh sd fsL2 S S' ∧ (fltM B n S' (rn (tkK B n) t (tel, sp, 4, true, true, 0, ifs, cn)) ∨ ∃ d, exT (tkK B n) (tkV B n) t d ∧ tkK B n d = 4 ∧ LX B n sd S' (d + 1) (all ++ xo (tkK B n) (tkV B n) t d) (bl ++ [(none, xo (tkK B n) (tkV B n) t d)]) ∧ rn (tkK B n) t (tel, sp, 4, true, true, 0, ifs, cn) = rn (tkK B n) (d + 1) (0, sp, 4, true, true, 0, ifs, cn) ∧ keptM sd S S' x1 b0 (130 * sd + bl.length + 1)) := by
  have hsd := h.1.2.2.2.2.2
  have h400 := h.1.1.2.2.1
  have hb0 : 130 * sd ≤ 130 * sd + bl.length := by omega
  have hb1 : 130 * sd + bl.length < 130 * sd + 130 := by omega
  have hb3 : 130 * sd + bl.length < 260 := by omega
  have h2 : ∀ g, EXs B n sd (up_A S (ky 0 39) g) t all := fun _ => h.1
  have oU : oh sd fsL2 S (up_A S (ky 0 39) (upd (st_A S (ky 0 39)) (130 * sd + bl.length) (vp_nar .boolean (0 : Int32)))) := oh_U S 39 _ _ (by decide) (by decide) hb0 hb1
  obtain ⟨S1, e1, o1, g38, d1⟩ := M_tm (fr := true) hL (h2 (upd (st_A S (ky 0 39)) (130 * sd + bl.length) (vp_nar .boolean (0 : Int32)))) (fun _ => hk) hb0 hb1 (show st_I (up_A S (ky 0 39) _) (ky 0 38) = _ from h.2.1)
  unfold f_X6_tellLaw_J129
  rw [h.2.1, chk_t (ib_nI hb3 (by decide)), nI_clamp (by omega), lt_e, e1, bnd]
  rcases d1 with f | ⟨d, g1, g2, g3, g4, q42, q43⟩
  · rw [M_mustF f, bnd, if_pos (flt_p f).2.2]
    exact ⟨S1, rfl, oh_trans oU (oh_mono (by decide) o1), Or.inl f⟩
  rcases M_must2 g2.1 (q := (tel, sp, 4, false, false, 0, ifs, cn)) (q' := (0, sp, 4, true, true, 0, ifs, cn)) (k := 4) (by decide) (by decide) hL.1 (fun _ => gq_4 hL g3) (decide_eq_false (by have := hL.2.2.2.2; omega)) with ⟨S2, e2, o2, f2⟩ | ⟨h4, k4, e2, a2, r2⟩
  · rw [show f_X6_must S1 (4 : Int32) = _ from e2, bnd, if_pos (flt_p f2).2.2]
    exact ⟨S2, rfl, oh_trans oU (oh_trans (oh_mono (by decide) o1) (oh_ofS (by decide) (by decide) o2)), Or.inl (by rw [g4]; exact f2)⟩
  have q0 : st_I (up_I S1 (ky 0 11) (nI (d + 1))) (ky 0 13) = 0 := a2.1
  rw [show f_X6_must S1 (4 : Int32) = _ from e2, bnd, q0, if_neg (show ¬ (0 : Int32) < 0 by decide)]
  have oo : oh sd fsL2 S (up_I S1 (ky 0 11) (nI (d + 1))) := oh_trans oU (oh_trans (oh_mono (by decide) o1) (oh_I _ 11 _ (by decide)))
  have hd := EXs_up g2 (Nat.le_succ d) a2
  have b1 : st_A (up_I S1 (ky 0 11) (nI (d + 1))) (ky 0 39) = upd (st_A S (ky 0 39)) (130 * sd + bl.length) 0 := by
    show st_A S1 (ky 0 39) = _
    rw [(o1.1 _ (kM_n (by decide) (by decide) (by decide))).2.1, gAs, nar_0]
  have b2 : st_A (up_I S1 (ky 0 11) (nI (d + 1))) (ky 0 40) = st_A S (ky 0 40) := (o1.1 _ (kM_n (by decide) (by decide) (by decide))).2.1
  have b3 : st_A (up_I S1 (ky 0 11) (nI (d + 1))) (ky 0 41) = st_A S (ky 0 41) := (o1.1 _ (kM_n (by decide) (by decide) (by decide))).2.1
  have hX := LX_last h hd g38 b1 b2 b3 q42 q43
  have c36 : st_A (up_I S1 (ky 0 11) (nI (d + 1))) (ky 0 36) = st_A S (ky 0 36) := (o1.1 _ (kM_n (by decide) (by decide) (by decide))).2.1
  have c37 : st_A (up_I S1 (ky 0 11) (nI (d + 1))) (ky 0 37) = st_A S (ky 0 37) := (o1.1 _ (kM_n (by decide) (by decide) (by decide))).2.1
  have c19 : st_I (up_I S1 (ky 0 11) (nI (d + 1))) (ky 0 19) = nI sd := by
    show st_I S1 (ky 0 19) = _
    rw [(o1.1 _ (kM_n (by decide) (by decide) (by decide))).1]; exact h19
  have c38 : st_I (up_I S1 (ky 0 11) (nI (d + 1))) (ky 0 38) = nI (130 * sd + bl.length + 1) := g38
  generalize up_I S1 (ky 0 11) (nI (d + 1)) = Z at *
  rcases hx with rfl | ⟨k, hk7, rfl⟩
  · rw [if_neg (show ¬ (0 : Int32) ≤ -1 by decide)]
    exact ⟨Z, rfl, oo, Or.inr ⟨d, g1, k4, hX, by rw [g4, r2], Or.inl ⟨rfl, c36, c37⟩⟩⟩
  · have e7 : (7 : Int32) * nI sd + nI k = nI (7 * sd + k) := by
      rw [show (7 : Int32) = nI 7 from rfl, pk_mul, nI_add]
    have c19b : ∀ g, st_I (up_A Z (ky 0 36) g) (ky 0 19) = nI sd := fun _ => c19
    have c38b : ∀ g, st_I (up_A Z (ky 0 36) g) (ky 0 38) = nI (130 * sd + bl.length + 1) := fun _ => c38
    rw [if_pos (nI_pos' (by omega)), c19, e7, chk_t (ib_nI (by omega) (by decide)), nI_clamp (by omega), lt_e, c19b, e7, chk_t (ib_nI (by omega) (by decide)), nI_clamp (by omega), c38b, lt_e]
    have w36 : wd 36 = 7 := by decide
    have w37 : wd 37 = 7 := by decide
    have u36 := oh_U (sd := sd) (fs := fsL2) Z 36 (7 * sd + k) (nI b0) (by decide) (by decide) (by rw [w36]; omega) (by rw [w36]; omega)
    have u37 := oh_U (sd := sd) (fs := fsL2) (up_A Z (ky 0 36) (upd (st_A Z (ky 0 36)) (7 * sd + k) (nI b0))) 37 (7 * sd + k) (nI (130 * sd + bl.length + 1)) (by decide) (by decide) (by rw [w37]; omega) (by rw [w37]; omega)
    refine ⟨_, rfl, oh_trans oo (oh_trans u36 u37), Or.inr ⟨d, g1, k4, ?_, by rw [g4, r2], Or.inr ⟨k, hk7, rfl, ?_, ?_⟩⟩⟩
    · exact LX_cg (fs := [36, 37]) (by decide) hX (on_trans (on_A _ _ _ ⟨36, by decide, rfl⟩) (on_A _ _ _ ⟨37, by decide, rfl⟩))
    · show upd (st_A Z (ky 0 36)) _ _ = _
      rw [c36]
    · show upd (st_A Z (ky 0 37)) _ _ = _
      rw [c37]
theorem LX_up {S : St} {t t' : Nat} {all : CL} {bl : List BR} (h : LX B n sd S t all bl) (ht : t ≤ t') (hA : atM B n (up_I S (ky 0 11) (nI t')) t') : LX B n sd (up_I S (ky 0 11) (nI t')) t' all bl := ⟨EXs_up h.1 ht hA, h.2.1, fun j hj => brAt_cg (h.2.2 j hj) (fun _ _ _ => rfl)⟩
theorem M_tellLaw {S : St} {t : Nat} {all : CL} {bl : List BR} (ht : tel ≠ 0 ∧ due tel sp = 99 ∧ ¬ mostN.getD (tel - 20) 0 < cn (tel - 20)) (h : LX B n sd S t all bl) (hb : 4 * bl.length + 1 ≤ t) (h19 : st_I S (ky 0 19) = nI sd) {x1 : Int32} (hx : x1 = -1 ∨ ∃ k, k < 7 ∧ x1 = nI k) : ∃ S', f_X6_tellLaw S x1 = some S' ∧ oh sd fsL2 S S' ∧ (fltM B n S' (rn (tkK B n) t (tel, sp, 0, true, true, 0, 0, cn)) ∨ ∃ d brs all' ifs, tkK B n t = 5 ∧ t < d ∧ LawT (tkK B n) (tkV B n) d brs (t + 1) ∧ LX B n sd S' (d + 1) all' (bl ++ brs) ∧ 4 * (bl ++ brs).length ≤ d + 1 ∧ rn (tkK B n) t (tel, sp, 0, true, true, 0, 0, cn) = rn (tkK B n) (d + 1) (0, sp, 4, true, true, 0, ifs, cn) ∧ keptM sd S S' x1 (130 * sd + bl.length) (130 * sd + (bl ++ brs).length)) := by
  have hL : inL tel sp 4 0 cn := ⟨ht.1, ht.2.1, by decide, ht.2.2, by decide⟩
  have hsd := h.1.2.2.2.2.2
  have h400 := h.1.1.2.2.1
  have hg : ∀ k, goQ (tel, sp, 0, true, true, 0, 0, cn) k = if k = 5 then some (tel, sp, 4, true, true, 0, 0, cn) else none := fun k => by
    have e : goQ (tel, sp, 0, true, true, 0, 0, cn) k = if tel = 0 then (if 20 ≤ k ∧ k < 28 then some (k, 0, 0, true, true, 0, 0, fun i => if i = k - 20 then cn i + 1 else cn i) else none) else if due tel sp = 99 then (if (0 : Nat) = 0 then (if k = 5 then some (tel, sp, 4, true, true, 0, 0, cn) else none) else uBeg (tel, sp, 0, true, true, 0, 0, cn) k) else if k = due tel sp then some (if due tel sp = 4 then 0 else tel, sp + 1, 0, true, true, 0, 0, cn) else none := rfl
    rw [e, if_neg ht.1, if_pos ht.2.1, if_pos rfl]
  unfold f_X6_tellLaw
  rcases M_must h.1.1 (q := (tel, sp, 0, true, true, 0, 0, cn)) (q' := (tel, sp, 4, true, true, 0, 0, cn)) (k := 5) (by decide) (by decide) ht.1 (fun j _ => hg j) (inL_m hL true true (by decide) 4) with ⟨S1, e1, o1, f1⟩ | ⟨h4, k5, e1, a1, r1⟩
  · have u38 : st_I S1 (ky 0 38) = nI (130 * sd + bl.length) := by
      rw [(o1 _ (kM_n (by decide) (by decide) (by decide))).1]; exact h.2.1
    have lp : iter (f_X6_tellLaw_L12 x1 (st_I S1 (ky 0 38))) FU ((0 : Int32), S1) = some (.inl S1) := by
      refine iter_FU (fun _ => ((0 : Int32), S1)) 0 (by decide) (fun i hi => absurd hi (Nat.not_lt_zero _)) ?_
      rw [L12_e, if_neg (flt_p f1).2.1]
    obtain ⟨S2, e2, o2, f2⟩ := M_129F (sd := sd) f1 hsd (by omega) (by omega) u38 x1 (st_I S1 (ky 0 38))
    rw [show f_X6_must S (5 : Int32) = _ from e1, bnd, lp, bnd]
    exact ⟨S2, e2, oh_trans (oh_ofS (by decide) (by decide) o1) o2, Or.inl f2⟩
  have hX := LX_up h (Nat.le_succ t) a1
  have c38 : st_I (up_I S (ky 0 11) (nI (t + 1))) (ky 0 38) = nI (130 * sd + bl.length) := h.2.1
  obtain ⟨r, er, hr⟩ := M_ifs hL hX (by omega) x1 (nI (130 * sd + bl.length))
  rw [show f_X6_must S (5 : Int32) = _ from e1, bnd, c38, er, bnd]
  have oU : oh sd fsL2 S (up_I S (ky 0 11) (nI (t + 1))) := oh_I _ 11 _ (by decide)
  cases r with
  | inr Z => exact ⟨Z, rfl, oh_trans oU (oh_mono (by decide) hr.1), Or.inl (by rw [r1]; exact hr.2)⟩
  | inl Z =>
    obtain ⟨oZ, ⟨f, b, fb0, fb1, f38⟩ | ⟨t', brs, all', ifs, h1, h2, h3, h5, h6, h7, h8⟩⟩ := hr
    · obtain ⟨S2, e2, o2, f2⟩ := M_129F (sd := sd) f hsd fb0 (by omega) f38 x1 (nI (130 * sd + bl.length))
      exact ⟨S2, e2, oh_trans oU (oh_trans (oh_mono (by decide) oZ) o2), Or.inl (by rw [r1]; exact f2)⟩
    · have z19 : st_I Z (ky 0 19) = nI sd := by
        rw [(oZ.1 _ (kM_n (by decide) (by decide) (by decide))).1]; exact h19
      obtain ⟨S2, e2, o2, d2⟩ := M_129 (inL_pt hL (p := 4) (i := ifs) (by decide) h3) h5 h2 h6 z19 hx (130 * sd + bl.length)
      refine ⟨S2, e2, oh_trans oU (oh_trans (oh_mono (by decide) oZ) o2), ?_⟩
      rcases d2 with f2 | ⟨d, k1, k2, k3, k4, k6⟩
      · exact Or.inl (by rw [r1, h7]; exact f2)
      · have z1 := k1.1
        have hl : (bl ++ (brs ++ [(none, xo (tkK B n) (tkV B n) t' d)])).length = (bl ++ brs).length + 1 := by
          rw [← List.append_assoc, List.length_append]; rfl
        refine Or.inr ⟨d, brs ++ [(none, xo (tkK B n) (tkV B n) t' d)], all' ++ xo (tkK B n) (tkV B n) t' d, ifs, k5, by omega, h8 _ _ ⟨rfl, h2, k1, k2, rfl⟩, ?_, ?_, by rw [r1, h7, k4], ?_⟩
        · rw [← List.append_assoc]; exact k3
        · rw [hl]; omega
        · have e36 : st_A Z (ky 0 36) = st_A S (ky 0 36) := (oZ.1 _ (kM_n (by decide) (by decide) (by decide))).2.1
          have e37 : st_A Z (ky 0 37) = st_A S (ky 0 37) := (oZ.1 _ (kM_n (by decide) (by decide) (by decide))).2.1
          unfold keptM at *
          rw [e36, e37] at k6
          rw [hl]
          exact k6
end EXS
