/-! THE REFERENCE READS A LAW: one branch with its test. -/
theorem nar_1 : vp_nar .boolean (1 : Int32) = 1 := tellM_i
theorem nar_0 : vp_nar .boolean (0 : Int32) = 0 := tellM_0
/-- between two expressions: P is all that this text has emitted -/
def EXs (B : Nat → Nat) (n sd : Nat) (S : St) (t : Nat) (P : CL) : Prop := atM B n S t ∧ st_I S (ky 0 12) = 0 ∧ st_I S (ky 0 44) = nI (420 * sd + P.length) ∧ cds (st_A S (ky 0 45)) (st_A S (ky 0 46)) (420 * sd) P ∧ P.length ≤ t ∧ sd < 2
def lwT2 (q11 : St) (x1 x2 x3 : Int32) : Option ((Int32 × St) ⊕ (St ⊕ St)) := chk (ib (st_I q11 (ky 0 38)) 260) (lt_v (up_A q11 (ky 0 41) (upd (st_A q11 (ky 0 41)) (st_I q11 (ky 0 38)).toNatClampNeg (st_I q11 (ky 0 44)))) (fun (S12 : St) => if (st_I S12 (ky 0 13)) = 0 then ((f_X6_expression S12).bind (fun (q17 : St) => f_X6_tellLaw_J110 q17 x1 x2 (x3 + 1))) else (f_X6_tellLaw_J110 S12 x1 x2 (x3 + 1))))
def lwT1 (q7 : St) (x1 x2 x3 : Int32) : Option ((Int32 × St) ⊕ (St ⊕ St)) := chk (ib (st_I q7 (ky 0 38)) 260) (lt_v (up_A q7 (ky 0 39) (upd (st_A q7 (ky 0 39)) (st_I q7 (ky 0 38)).toNatClampNeg (vp_nar .boolean (1 : Int32)))) (fun (S8 : St) => chk (ib (st_I S8 (ky 0 38)) 260) (lt_v (up_A S8 (ky 0 40) (upd (st_A S8 (ky 0 40)) (st_I S8 (ky 0 38)).toNatClampNeg (st_I S8 (ky 0 44)))) (fun (S9 : St) => (f_X6_expression S9).bind (fun (q10 : St) => (f_X6_must q10 (13 : Int32)).bind (fun (q11 : St) => lwT2 q11 x1 x2 x3))))))
theorem J38_e (S : St) (x1 x2 x3 : Int32) : f_X6_tellLaw_J38 S x1 x2 x3 = if (st_I S (ky 0 13)) ≤ 0 then ((f_X6_goesOn S).bind (fun (q7 : St) => lwT1 q7 x1 x2 x3)) else (some (.inr (.inr S))) := rfl
section EXS
variable {B : Nat → Nat} {n sd tel sp pt ifs : Nat} {cn : Nat → Nat}
theorem inL_pt (h : inL tel sp pt ifs cn) {p i : Nat} (hp : p ≠ 0) (hi : i ≤ 4) : inL tel sp p i cn := ⟨h.1, h.2.1, hp, h.2.2.2.1, hi⟩
/-- with a fault, from the middle of the test on -/
theorem M_T2F {S : St} {b : Nat} {c : Nat × Nat} (f : fltM B n S c) (hs : sd < 2) (hb0 : 130 * sd ≤ b) (hb : b < 130 * sd + 130) (h : st_I S (ky 0 38) = nI b) (x1 x2 x3 : Int32) : ∃ S', lwT2 S x1 x2 x3 = some (.inl (x3 + 1, S')) ∧ oh sd fsLw S S' ∧ fltM B n S' c ∧ st_I S' (ky 0 38) = nI (b + 1) := by
  have hb2 : b < 260 := by omega
  have f1 : ∀ g, fltM B n (up_A S (ky 0 41) g) c := fun _ => f
  have h1 : ∀ g, st_I (up_A S (ky 0 41) g) (ky 0 38) = nI b := fun _ => h
  obtain ⟨S', e, o, f2, e38⟩ := M_110F (sd := sd) (f1 (upd (st_A S (ky 0 41)) b (st_I S (ky 0 44)))) hs hb0 hb (h1 _) x1 x2 (x3 + 1)
  unfold lwT2
  rw [h, chk_t (ib_nI hb2 (by decide)), nI_clamp (by omega), lt_e, if_neg (flt_p (f1 _)).2.1, e]
  exact ⟨S', rfl, oh_trans (oh_U S 41 b _ (by decide) (by decide) hb0 hb) o, f2, e38⟩
theorem M_T1F {S : St} {b : Nat} {c : Nat × Nat} (f : fltM B n S c) (hs : sd < 2) (hb0 : 130 * sd ≤ b) (hb : b < 130 * sd + 130) (h : st_I S (ky 0 38) = nI b) (x1 x2 x3 : Int32) : ∃ S', lwT1 S x1 x2 x3 = some (.inl (x3 + 1, S')) ∧ oh sd fsLw S S' ∧ fltM B n S' c ∧ st_I S' (ky 0 38) = nI (b + 1) := by
  have hb2 : b < 260 := by omega
  have h1 : ∀ g, st_I (up_A S (ky 0 39) g) (ky 0 38) = nI b := fun _ => h
  have f2 : ∀ g g', fltM B n (up_A (up_A S (ky 0 39) g) (ky 0 40) g') c := fun _ _ => f
  have f3 : ∀ g g', fltM B n (up_I (up_A (up_A S (ky 0 39) g) (ky 0 40) g') (ky 0 48) (0 : Int32)) c := fun _ _ => f
  have h3 : ∀ g g', st_I (up_I (up_A (up_A S (ky 0 39) g) (ky 0 40) g') (ky 0 48) (0 : Int32)) (ky 0 38) = nI b := fun _ _ => h
  unfold lwT1
  rw [h, chk_t (ib_nI hb2 (by decide)), nI_clamp (by omega), lt_e, h1, chk_t (ib_nI hb2 (by decide)), nI_clamp (by omega), lt_e, M_expressionF (f2 _ _), bnd, M_mustF (f3 _ _), bnd]
  obtain ⟨S', e, o, f4, e38⟩ := M_T2F (sd := sd) (f3 (upd (st_A S (ky 0 39)) b (vp_nar .boolean (1 : Int32))) (upd (st_A (up_A S (ky 0 39) (upd (st_A S (ky 0 39)) b (vp_nar .boolean (1 : Int32)))) (ky 0 40)) b (st_I (up_A S (ky 0 39) (upd (st_A S (ky 0 39)) b (vp_nar .boolean (1 : Int32)))) (ky 0 44)))) hs hb0 hb (h3 _ _) x1 x2 x3
  exact ⟨S', e, oh_trans (oh_trans (oh_trans (oh_U S 39 b _ (by decide) (by decide) hb0 hb) (oh_U _ 40 b _ (by decide) (by decide) hb0 hb)) (oh_I _ 48 _ (by decide))) o, f4, e38⟩
/-- an expression from here, its codes behind those that were -/
theorem M_ex {S : St} {t : Nat} {fr : Bool} {P : CL} (hL : inL tel sp pt ifs cn) (h : EXs B n sd S t P) (hf : pt = 4 ∧ fr = true → tkK B n t ≠ 28) : ∃ S', f_X6_expression S = some S' ∧ oh sd fsE S S' ∧ (fltM B n S' (rn (tkK B n) t (tel, sp, pt, true, fr, 0, ifs, cn)) ∨ ∃ t', exT (tkK B n) (tkV B n) t t' ∧ EXs B n sd S' t' (P ++ xo (tkK B n) (tkV B n) t t') ∧ ¬ (tkK B n t' = 8 ∨ tkK B n t' = 9 ∨ tkK B n t' = 10 ∨ tkK B n t' = 15) ∧ rn (tkK B n) t (tel, sp, pt, true, fr, 0, ifs, cn) = rn (tkK B n) t' (tel, sp, pt, false, false, 0, ifs, cn)) := by
  obtain ⟨S', e, o, d⟩ := M_expression (pre := P) (fr := fr) hL h.1 h.2.1 h.2.2.1 h.2.2.2.1 h.2.2.2.2 hf
  refine ⟨S', e, o, d.elim Or.inl ?_⟩
  rintro ⟨t', ⟨d1, d2, d3, d4, d5, d6, d7, d8⟩, d9⟩
  refine Or.inr ⟨t', ⟨d1, d6, d8⟩, ⟨d2, d3, d4, d5, ?_, h.2.2.2.2.2⟩, d7, d9⟩
  have h1 := d6.2.2.1
  have h2 := h.2.2.2.2.1
  rw [List.length_append]
  omega
theorem EXs_up {S : St} {t t' : Nat} {P : CL} (h : EXs B n sd S t P) (ht : t ≤ t') (hA : atM B n (up_I S (ky 0 11) (nI t')) t') : EXs B n sd (up_I S (ky 0 11) (nI t')) t' P := ⟨hA, h.2.1, h.2.2.1, h.2.2.2.1, by have := h.2.2.2.2.1; omega, h.2.2.2.2.2⟩
/-- the term, its codes behind those that were -/
theorem M_tm {S : St} {t b : Nat} {fr : Bool} {P : CL} (hL : inL tel sp pt ifs cn) (h : EXs B n sd S t P) (hf : pt = 4 ∧ fr = true → tkK B n t ≠ 28) (hb0 : 130 * sd ≤ b) (hb2 : b < 130 * sd + 130) (h38 : st_I S (ky 0 38) = nI b) : ∃ S', f_X6_term S = some S' ∧ oh sd fsTm S S' ∧ st_I S' (ky 0 38) = nI (b + 1) ∧ (fltM B n S' (rn (tkK B n) t (tel, sp, pt, true, fr, 0, ifs, cn)) ∨ ∃ t', exT (tkK B n) (tkV B n) t t' ∧ EXs B n sd S' t' (P ++ xo (tkK B n) (tkV B n) t t') ∧ ¬ (tkK B n t' = 8 ∨ tkK B n t' = 9 ∨ tkK B n t' = 10 ∨ tkK B n t' = 15) ∧ rn (tkK B n) t (tel, sp, pt, true, fr, 0, ifs, cn) = rn (tkK B n) t' (tel, sp, pt, false, false, 0, ifs, cn) ∧ st_A S' (ky 0 42) = upd (st_A S (ky 0 42)) b (nI (420 * sd + P.length)) ∧ st_A S' (ky 0 43) = upd (st_A S (ky 0 43)) b (nI (420 * sd + (P ++ xo (tkK B n) (tkV B n) t t').length))) := by
  obtain ⟨S', e, o, e38, d⟩ := M_term (pre := P) (fr := fr) hL h.1 h.2.1 h.2.2.1 h.2.2.2.1 h.2.2.2.2 hf hb0 hb2 h38
  refine ⟨S', e, o, e38, d.elim Or.inl ?_⟩
  rintro ⟨t', ⟨d1, d2, d3, d4, d5, d6, d7, d8⟩, d9, d10, d11⟩
  refine Or.inr ⟨t', ⟨d1, d6, d8⟩, ⟨d2, d3, d4, d5, ?_, h.2.2.2.2.2⟩, d7, d9, d10, d11⟩
  have h1 := d6.2.2.1
  have h2 := h.2.2.2.2.1
  rw [List.length_append]
  omega
/-- 'then', a term, 'else' -/
theorem M_110 {S : St} {t b : Nat} {P : CL} (hL : inL tel sp 2 ifs cn) (h : EXs B n sd S t P) (hk : ¬ (tkK B n t = 8 ∨ tkK B n t = 9 ∨ tkK B n t = 10 ∨ tkK B n t = 15)) (hb0 : 130 * sd ≤ b) (hb2 : b < 130 * sd + 130) (h38 : st_I S (ky 0 38) = nI b) (x1 x2 x3 : Int32) : ∃ S', f_X6_tellLaw_J110 S x1 x2 x3 = some (.inl (x3, S')) ∧ oh sd fsLw S S' ∧ st_I S' (ky 0 38) = nI (b + 1) ∧ (fltM B n S' (rn (tkK B n) t (tel, sp, 2, false, false, 0, ifs, cn)) ∨ ∃ t', tkK B n t = 29 ∧ exT (tkK B n) (tkV B n) (t + 1) t' ∧ tkK B n t' = 30 ∧ EXs B n sd S' (t' + 1) (P ++ xo (tkK B n) (tkV B n) (t + 1) t') ∧ rn (tkK B n) t (tel, sp, 2, false, false, 0, ifs, cn) = rn (tkK B n) (t' + 1) (tel, sp, 4, true, true, 0, ifs, cn) ∧ st_A S' (ky 0 39) = st_A S (ky 0 39) ∧ st_A S' (ky 0 40) = st_A S (ky 0 40) ∧ st_A S' (ky 0 41) = st_A S (ky 0 41) ∧ st_A S' (ky 0 42) = upd (st_A S (ky 0 42)) b (nI (420 * sd + P.length)) ∧ st_A S' (ky 0 43) = upd (st_A S (ky 0 43)) b (nI (420 * sd + (P ++ xo (tkK B n) (tkV B n) (t + 1) t').length))) := by
  have hL3 := inL_pt hL (p := 3) (i := ifs) (by decide) hL.2.2.2.2
  have hsd := h.2.2.2.2.2
  unfold f_X6_tellLaw_J110
  rcases M_must2 h.1 (q := (tel, sp, 2, false, false, 0, ifs, cn)) (q' := (tel, sp, 3, true, true, 0, ifs, cn)) (k := 29) (by decide) (by decide) hL.1 (fun _ => gq_2 hL hk) (inL_m hL true true (by decide) 3) with ⟨S1, e1, o1, f1⟩ | ⟨h4, k29, e1, a1, r1⟩
  · have e38 : st_I S1 (ky 0 38) = nI b := by
      rw [(o1 _ (kM_n (by decide) (by decide) (by decide))).1]; exact h38
    obtain ⟨S2, e2, o2, f2, g38⟩ := M_termF (sd := sd) f1 hsd hb0 hb2 e38
    rw [show f_X6_must S (29 : Int32) = _ from e1, bnd, e2, bnd, M_mustF f2, bnd]
    exact ⟨S2, rfl, oh_trans (oh_ofS (by decide) (by decide) o1) (oh_mono (by decide) o2), g38, Or.inl f2⟩
  rw [show f_X6_must S (29 : Int32) = _ from e1, bnd]
  have oU : oh sd fsLw S (up_I S (ky 0 11) (nI (t + 1))) := oh_I _ 11 _ (by decide)
  obtain ⟨S2, e2, o2, g38, d2⟩ := M_tm (fr := true) hL3 (EXs_up h (by omega) a1) (fun z => absurd z.1 (by decide)) hb0 hb2 (show st_I (up_I S (ky 0 11) (nI (t + 1))) (ky 0 38) = nI b from h38)
  rw [e2, bnd]
  rcases d2 with f2 | ⟨t', d1, d2, d3, d4, d5, d6⟩
  · rw [M_mustF f2, bnd]
    exact ⟨S2, rfl, oh_trans oU (oh_mono (by decide) o2), g38, Or.inl (by rw [r1]; exact f2)⟩
  rcases M_must2 d2.1 (q := (tel, sp, 3, false, false, 0, ifs, cn)) (q' := (tel, sp, 4, true, true, 0, ifs, cn)) (k := 30) (by decide) (by decide) hL.1 (fun _ => gq_3 hL3 d3) (inL_m hL true true (by decide) 4) with ⟨S3, e3, o3, f3⟩ | ⟨h5, k30, e3, a3, r3⟩
  · rw [show f_X6_must S2 (30 : Int32) = _ from e3, bnd]
    refine ⟨S3, rfl, oh_trans (oh_trans oU (oh_mono (by decide) o2)) (oh_ofS (by decide) (by decide) o3), ?_, Or.inl (by rw [r1, d4]; exact f3)⟩
    rw [(o3 _ (kM_n (by decide) (by decide) (by decide))).1]; exact g38
  · rw [show f_X6_must S2 (30 : Int32) = _ from e3, bnd]
    refine ⟨_, rfl, oh_trans (oh_trans oU (oh_mono (by decide) o2)) (oh_I _ 11 _ (by decide)), g38, Or.inr ⟨t', k29, d1, k30, EXs_up d2 (by omega) a3, by rw [r1, d4, r3], ?_, ?_, ?_, d5, d6⟩⟩
    · exact (o2.1 _ (kM_n (by decide) (by decide) (by decide))).2.1
    · exact (o2.1 _ (kM_n (by decide) (by decide) (by decide))).2.1
    · exact (o2.1 _ (kM_n (by decide) (by decide) (by decide))).2.1
end EXS
