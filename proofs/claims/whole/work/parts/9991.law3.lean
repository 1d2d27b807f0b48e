/-! THE REFERENCE READS A LAW: the test, and all branches. -/
section EXS
variable {B : Nat → Nat} {n sd tel sp pt ifs : Nat} {cn : Nat → Nat}
theorem M_T2 {S : St} {t b : Nat} {P : CL} (hL : inL tel sp 2 ifs cn) (h : EXs B n sd S t P) (hb0 : 130 * sd ≤ b) (hb2 : b < 130 * sd + 130) (h38 : st_I S (ky 0 38) = nI b) (x1 x2 x3 : Int32) : ∃ S', lwT2 S x1 x2 x3 = some (.inl (x3 + 1, S')) ∧ oh sd fsLw S S' ∧ st_I S' (ky 0 38) = nI (b + 1) ∧ (fltM B n S' (rn (tkK B n) t (tel, sp, 2, true, true, 0, ifs, cn)) ∨ ∃ a c, exT (tkK B n) (tkV B n) t a ∧ tkK B n a = 29 ∧ exT (tkK B n) (tkV B n) (a + 1) c ∧ tkK B n c = 30 ∧ EXs B n sd S' (c + 1) ((P ++ xo (tkK B n) (tkV B n) t a) ++ xo (tkK B n) (tkV B n) (a + 1) c) ∧ rn (tkK B n) t (tel, sp, 2, true, true, 0, ifs, cn) = rn (tkK B n) (c + 1) (tel, sp, 4, true, true, 0, ifs, cn) ∧ st_A S' (ky 0 39) = st_A S (ky 0 39) ∧ st_A S' (ky 0 40) = st_A S (ky 0 40) ∧ st_A S' (ky 0 41) = upd (st_A S (ky 0 41)) b (nI (420 * sd + P.length)) ∧ st_A S' (ky 0 42) = upd (st_A S (ky 0 42)) b (nI (420 * sd + (P ++ xo (tkK B n) (tkV B n) t a).length)) ∧ st_A S' (ky 0 43) = upd (st_A S (ky 0 43)) b (nI (420 * sd + ((P ++ xo (tkK B n) (tkV B n) t a) ++ xo (tkK B n) (tkV B n) (a + 1) c).length))) := by
  have hsd := h.2.2.2.2.2
  have hb3 : b < 260 := by omega
  have h41 : EXs B n sd (up_A S (ky 0 41) (upd (st_A S (ky 0 41)) b (st_I S (ky 0 44)))) t P := h
  have oU : oh sd fsLw S (up_A S (ky 0 41) (upd (st_A S (ky 0 41)) b (st_I S (ky 0 44)))) := oh_U S 41 b _ (by decide) (by decide) hb0 hb2
  unfold lwT2
  rw [h38, chk_t (ib_nI hb3 (by decide)), nI_clamp (by omega), lt_e, if_pos h41.1.1]
  obtain ⟨S1, e1, o1, d1⟩ := M_ex (fr := true) hL h41 (fun z => absurd z.1 (by decide))
  have e38 : st_I S1 (ky 0 38) = nI b := by
    rw [(o1.1 _ (kM_n (by decide) (by decide) (by decide))).1]; exact h38
  have keep : ∀ f, f = 39 ∨ f = 40 ∨ f = 41 ∨ f = 42 ∨ f = 43 → st_A S1 (ky 0 f) = st_A (up_A S (ky 0 41) (upd (st_A S (ky 0 41)) b (st_I S (ky 0 44)))) (ky 0 f) := fun f hf => (o1.1 _ (kM_n (by decide) (by omega) (by rcases hf with rfl | rfl | rfl | rfl | rfl <;> decide))).2.1
  rw [e1, bnd]
  rcases d1 with f | ⟨a, g1, g2, g3, g4⟩
  · obtain ⟨S2, e2, o2, f2, g38⟩ := M_110F (sd := sd) f hsd hb0 hb2 e38 x1 x2 (x3 + 1)
    exact ⟨S2, e2, oh_trans oU (oh_trans (oh_mono (by decide) o1) o2), g38, Or.inl f2⟩
  obtain ⟨S2, e2, o2, g38, d2⟩ := M_110 hL g2 g3 hb0 hb2 e38 x1 x2 (x3 + 1)
  refine ⟨S2, e2, oh_trans oU (oh_trans (oh_mono (by decide) o1) o2), g38, ?_⟩
  rcases d2 with f2 | ⟨c, k1, k2, k3, k4, k5, q39, q40, q41, q42, q43⟩
  · exact Or.inl (by rw [g4]; exact f2)
  refine Or.inr ⟨a, c, g1, k1, k2, k3, k4, by rw [g4, k5], ?_, ?_, ?_, ?_, ?_⟩
  · rw [q39, keep 39 (by decide)]; rfl
  · rw [q40, keep 40 (by decide)]; rfl
  · rw [q41, keep 41 (by decide), gAs, h.2.2.1]
  · rw [q42, keep 42 (by decide)]; rfl
  · rw [q43, keep 43 (by decide)]; rfl
/-- the five rows of a branch with its test -/
def br5 (S S' : St) (b : Nat) (v0 v1 v2 v3 : Nat) : Prop := st_A S' (ky 0 39) = upd (st_A S (ky 0 39)) b 1 ∧ st_A S' (ky 0 40) = upd (st_A S (ky 0 40)) b (nI v0) ∧ st_A S' (ky 0 41) = upd (st_A S (ky 0 41)) b (nI v1) ∧ st_A S' (ky 0 42) = upd (st_A S (ky 0 42)) b (nI v2) ∧ st_A S' (ky 0 43) = upd (st_A S (ky 0 43)) b (nI v3)
theorem M_T1 {S : St} {t b : Nat} {P : CL} (hL : inL tel sp 1 ifs cn) (h : EXs B n sd S t P) (hb0 : 130 * sd ≤ b) (hb2 : b < 130 * sd + 130) (h38 : st_I S (ky 0 38) = nI b) (x1 x2 x3 : Int32) : ∃ S', lwT1 S x1 x2 x3 = some (.inl (x3 + 1, S')) ∧ oh sd fsLw S S' ∧ st_I S' (ky 0 38) = nI (b + 1) ∧ (fltM B n S' (rn (tkK B n) t (tel, sp, 1, true, true, 0, ifs, cn)) ∨ ∃ d a c, exT (tkK B n) (tkV B n) t d ∧ tkK B n d = 13 ∧ exT (tkK B n) (tkV B n) (d + 1) a ∧ tkK B n a = 29 ∧ exT (tkK B n) (tkV B n) (a + 1) c ∧ tkK B n c = 30 ∧ EXs B n sd S' (c + 1) (((P ++ xo (tkK B n) (tkV B n) t d) ++ xo (tkK B n) (tkV B n) (d + 1) a) ++ xo (tkK B n) (tkV B n) (a + 1) c) ∧ rn (tkK B n) t (tel, sp, 1, true, true, 0, ifs, cn) = rn (tkK B n) (c + 1) (tel, sp, 4, true, true, 0, ifs, cn) ∧ br5 S S' b (420 * sd + P.length) (420 * sd + (P ++ xo (tkK B n) (tkV B n) t d).length) (420 * sd + ((P ++ xo (tkK B n) (tkV B n) t d) ++ xo (tkK B n) (tkV B n) (d + 1) a).length) (420 * sd + (((P ++ xo (tkK B n) (tkV B n) t d) ++ xo (tkK B n) (tkV B n) (d + 1) a) ++ xo (tkK B n) (tkV B n) (a + 1) c).length)) := by
  have hsd := h.2.2.2.2.2
  have hb3 : b < 260 := by omega
  have hL2 := inL_pt hL (p := 2) (i := ifs) (by decide) hL.2.2.2.2
  have h1 : ∀ g, st_I (up_A S (ky 0 39) g) (ky 0 38) = nI b := fun _ => h38
  have h2 : ∀ g, EXs B n sd (up_A (up_A S (ky 0 39) g) (ky 0 40) (upd (st_A (up_A S (ky 0 39) g) (ky 0 40)) b (st_I (up_A S (ky 0 39) g) (ky 0 44)))) t P := fun _ => h
  have oU : oh sd fsLw S (up_A (up_A S (ky 0 39) (upd (st_A S (ky 0 39)) b (vp_nar .boolean (1 : Int32)))) (ky 0 40) (upd (st_A (up_A S (ky 0 39) (upd (st_A S (ky 0 39)) b (vp_nar .boolean (1 : Int32)))) (ky 0 40)) b (st_I (up_A S (ky 0 39) (upd (st_A S (ky 0 39)) b (vp_nar .boolean (1 : Int32)))) (ky 0 44)))) := oh_trans (oh_U S 39 b _ (by decide) (by decide) hb0 hb2) (oh_U _ 40 b _ (by decide) (by decide) hb0 hb2)
  unfold lwT1
  rw [h38, chk_t (ib_nI hb3 (by decide)), nI_clamp (by omega), lt_e, h1, chk_t (ib_nI hb3 (by decide)), nI_clamp (by omega), lt_e]
  obtain ⟨S1, e1, o1, d1⟩ := M_ex (fr := true) hL (h2 (upd (st_A S (ky 0 39)) b (vp_nar .boolean (1 : Int32)))) (fun z => absurd z.1 (by decide))
  generalize hZ : up_A (up_A S (ky 0 39) (upd (st_A S (ky 0 39)) b (vp_nar .boolean (1 : Int32)))) (ky 0 40) (upd (st_A (up_A S (ky 0 39) (upd (st_A S (ky 0 39)) b (vp_nar .boolean (1 : Int32)))) (ky 0 40)) b (st_I (up_A S (ky 0 39) (upd (st_A S (ky 0 39)) b (vp_nar .boolean (1 : Int32)))) (ky 0 44))) = Z at *
  have z38 : st_I Z (ky 0 38) = nI b := by rw [← hZ]; exact h38
  have z39 : st_A Z (ky 0 39) = upd (st_A S (ky 0 39)) b 1 := by rw [← hZ, nar_1]; rfl
  have z40 : st_A Z (ky 0 40) = upd (st_A S (ky 0 40)) b (nI (420 * sd + P.length)) := by rw [← hZ, gAs]; show upd (st_A S (ky 0 40)) b (st_I S (ky 0 44)) = _; rw [h.2.2.1]
  have z41 : st_A Z (ky 0 41) = st_A S (ky 0 41) := by rw [← hZ]; rfl
  have z42 : st_A Z (ky 0 42) = st_A S (ky 0 42) := by rw [← hZ]; rfl
  have z43 : st_A Z (ky 0 43) = st_A S (ky 0 43) := by rw [← hZ]; rfl
  have keep : ∀ f, f = 39 ∨ f = 40 ∨ f = 41 ∨ f = 42 ∨ f = 43 → st_A S1 (ky 0 f) = st_A Z (ky 0 f) := fun f hf => (o1.1 _ (kM_n (by decide) (by omega) (by rcases hf with rfl | rfl | rfl | rfl | rfl <;> decide))).2.1
  have e38 : st_I S1 (ky 0 38) = nI b := by
    rw [(o1.1 _ (kM_n (by decide) (by decide) (by decide))).1]; exact z38
  rw [e1, bnd]
  rcases d1 with f | ⟨d, g1, g2, g3, g4⟩
  · obtain ⟨S2, e2, o2, f2, g38⟩ := M_T2F (sd := sd) f hsd hb0 hb2 e38 x1 x2 x3
    rw [M_mustF f, bnd]
    exact ⟨S2, e2, oh_trans oU (oh_trans (oh_mono (by decide) o1) o2), g38, Or.inl f2⟩
  rcases M_must2 g2.1 (q := (tel, sp, 1, false, false, 0, ifs, cn)) (q' := (tel, sp, 2, true, true, 0, ifs, cn)) (k := 13) (by decide) (by decide) hL.1 (fun _ => gq_1 hL g3) (inL_m hL true true (by decide) 2) with ⟨S2, e2, o2, f2⟩ | ⟨h4, k13, e2, a2, r2⟩
  · have u38 : st_I S2 (ky 0 38) = nI b := by
      rw [(o2 _ (kM_n (by decide) (by decide) (by decide))).1]; exact e38
    obtain ⟨S3, e3, o3, f3, g38⟩ := M_T2F (sd := sd) f2 hsd hb0 hb2 u38 x1 x2 x3
    rw [show f_X6_must S1 (13 : Int32) = _ from e2, bnd]
    exact ⟨S3, e3, oh_trans oU (oh_trans (oh_mono (by decide) o1) (oh_trans (oh_ofS (by decide) (by decide) o2) o3)), g38, Or.inl (by rw [g4]; exact f3)⟩
  rw [show f_X6_must S1 (13 : Int32) = _ from e2, bnd]
  obtain ⟨S3, e3, o3, g38, d3⟩ := M_T2 hL2 (EXs_up g2 (by omega) a2) hb0 hb2 (show st_I (up_I S1 (ky 0 11) (nI (d + 1))) (ky 0 38) = nI b from e38) x1 x2 x3
  refine ⟨S3, e3, oh_trans oU (oh_trans (oh_mono (by decide) o1) (oh_trans (oh_I _ 11 _ (by decide)) o3)), g38, ?_⟩
  rcases d3 with f3 | ⟨a, c, k1, k2, k3, k4, k5, k6, q39, q40, q41, q42, q43⟩
  · exact Or.inl (by rw [g4, r2]; exact f3)
  refine Or.inr ⟨d, a, c, g1, k13, k1, k2, k3, k4, k5, by rw [g4, r2, k6], ?_, ?_, ?_, ?_, ?_⟩
  · rw [q39]; show st_A S1 (ky 0 39) = _; rw [keep 39 (by decide), z39]
  · rw [q40]; show st_A S1 (ky 0 40) = _; rw [keep 40 (by decide), z40]
  · rw [q41]; show upd (st_A S1 (ky 0 41)) _ _ = _; rw [keep 41 (by decide), z41]
  · rw [q42]; show upd (st_A S1 (ky 0 42)) _ _ = _; rw [keep 42 (by decide), z42]
  · rw [q43]; show upd (st_A S1 (ky 0 43)) _ _ = _; rw [keep 43 (by decide), z43]
/-- all that was emitted, with all branches -/
def LX (B : Nat → Nat) (n sd : Nat) (S : St) (t : Nat) (all : CL) (bl : List BR) : Prop := EXs B n sd S t all ∧ st_I S (ky 0 38) = nI (130 * sd + bl.length) ∧ ∀ j, j < bl.length → brAt S (420 * sd) all (130 * sd + j) (bl.getD j (none, []))
theorem getD_a (bl : List BR) (x : BR) : ∀ j, j < bl.length → (bl ++ [x]).getD j (none, []) = bl.getD j (none, []) := fun j hj => by
  rw [List.getD_eq_getElem?_getD, List.getD_eq_getElem?_getD, List.getElem?_append_left hj]
theorem getD_l (bl : List BR) (x : BR) : (bl ++ [x]).getD bl.length (none, []) = x := by
  rw [List.getD_eq_getElem?_getD, List.getElem?_append_right (Nat.le_refl _), Nat.sub_self]
  rfl
/-- a branch more -/
theorem LX_if {S S' : St} {t t' : Nat} {all : CL} {bl : List BR} {l1 l2 l3 : CL} (h : LX B n sd S t all bl) (h2 : EXs B n sd S' t' (((all ++ l1) ++ l2) ++ l3)) (h38 : st_I S' (ky 0 38) = nI (130 * sd + bl.length + 1)) (h5 : br5 S S' (130 * sd + bl.length) (420 * sd + all.length) (420 * sd + (all ++ l1).length) (420 * sd + ((all ++ l1) ++ l2).length) (420 * sd + (((all ++ l1) ++ l2) ++ l3).length)) : LX B n sd S' t' (((all ++ l1) ++ l2) ++ l3) (bl ++ [(some (l1, l2), l3)]) := by
  refine ⟨h2, ?_, fun j hj => ?_⟩
  · rw [h38, List.length_append]; rfl
  · rw [List.length_append] at hj
    have hj2 : j < bl.length + 1 := hj
    obtain ⟨b1, b2, b3, b4, b5⟩ := h5
    by_cases c : j = bl.length
    · subst c
      rw [getD_l]
      refine ⟨all, [], ?_, ?_, ?_, ?_, ?_, ?_⟩
      · rw [List.append_nil, List.append_assoc, List.append_assoc]
      · rw [b1, upd_s]
      · rw [b2, upd_s]
      · rw [b3, upd_s, List.length_append]; congr 1; omega
      · rw [b4, upd_s, List.length_append, List.length_append]; congr 1; omega
      · rw [b5, upd_s, List.length_append, List.length_append, List.length_append]; congr 1; omega
    · have hj3 : j < bl.length := by omega
      rw [getD_a _ _ _ hj3, List.append_assoc, List.append_assoc]
      refine brAt_app (brAt_cg (h.2.2 j hj3) (fun f g1 g2 => ?_)) _
      have hne : 130 * sd + j ≠ 130 * sd + bl.length := by omega
      rcases (show f = 39 ∨ f = 40 ∨ f = 41 ∨ f = 42 ∨ f = 43 by omega) with rfl | rfl | rfl | rfl | rfl
      · rw [b1, upd_n hne]
      · rw [b2, upd_n hne]
      · rw [b3, upd_n hne]
      · rw [b4, upd_n hne]
      · rw [b5, upd_n hne]
end EXS
