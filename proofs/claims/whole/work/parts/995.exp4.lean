/-! THE REFERENCE READS AN EXPRESSION: operators. -/
section EXS
variable {B : Nat → Nat} {n t0 sd tel sp pt ifs : Nat} {cn : Nat → Nat} {pre : List (Nat × Nat)}
theorem M_op {S : St} {t br : Nat} (hL : inL tel sp pt ifs cn) (h : EX B n t0 sd pre S t br true) (hk : tkK B n t = 8 ∨ tkK B n t = 9 ∨ tkK B n t = 10 ∨ tkK B n t = 15) : ∃ S', f_X6_expression_J145 S 0 = some (.inl (1, S')) ∧ oh sd fsE S S' ∧ (fltM B n S' (rn (tkK B n) t (tel, sp, pt, false, false, br, ifs, cn)) ∨ (EX B n t0 sd pre S' (t + 1) br false ∧ rn (tkK B n) t (tel, sp, pt, false, false, br, ifs, cn) = rn (tkK B n) (t + 1) (tel, sp, pt, true, false, br, ifs, cn))) := by
  have hb := h.2.2.2.1
  have hl := EX_len h
  have hx := h.2.2.2.2.2.1
  have h400 := h.1.2.2.1
  have h0 : tkK B n t ≠ 0 := by omega
  have hg : goQ (tel, sp, pt, false, false, br, ifs, cn) (tkK B n t) = some (tel, sp, pt, true, false, br, ifs, cn) := by
    rw [gq_e hL, uEnd_e, if_pos hk]
  have ho := syOK_op (k := tkK B n t) (v := tkV B n t) h.2.2.2.2.2.2 hk
  have hs : syStep (sy (tkK B n) (tkV B n) t0 (t - t0)) (tkK B n t) (tkV B n t) = ((syPop (decide (tkK B n t = 10 ∨ tkK B n t = 15)) (sy (tkK B n) (tkV B n) t0 (t - t0)).1 (sy (tkK B n) (tkV B n) t0 (t - t0)).2).1, tkK B n t :: (syPop (decide (tkK B n t = 10 ∨ tkK B n t = 15)) (sy (tkK B n) (tkV B n) t0 (t - t0)).1 (sy (tkK B n) (tkV B n) t0 (t - t0)).2).2) := by
    unfold syStep
    rw [if_neg (by omega), if_neg (by omega), if_neg (by omega), if_neg (by omega)]
  have hsy := sy_s (tkK B n) (tkV B n) h.2.2.1
  rw [hs] at hsy ho
  obtain ⟨pa, pb, pc, pe, pf, pg⟩ := syPop_all (decide (tkK B n t = 10 ∨ tkK B n t = 15)) _ _ h.2.2.2.2.2.2.1 h.2.2.2.2.2.2.2.2.1 h.2.2.2.2.2.2.2.2.2.1
  obtain ⟨Z, e1, e2, e3⟩ := M_comesOut (decide (tkK B n t = 10 ∨ tkK B n t = 15)) _ FU sd S _ (by show _ < 40000; omega) (by omega) (by rw [List.length_append]; omega) hx
  rw [syPop_pre] at e2
  rw [h.2.2.2.2.2.2.2.1] at pb
  have start : f_X6_expression_J145 S 0 = f_X6_expression_J234 S 0 1 (b2 (decide (tkK B n t = 10 ∨ tkK B n t = 15))) := by
    have i8 := M_is h.1 8 (by decide)
    have i9 := M_is h.1 9 (by decide)
    have i10 := M_is h.1 10 (by decide)
    have i15 := M_is h.1 15 (by decide)
    have j186 : f_X6_expression_J186 S 0 1 = f_X6_expression_J234 S 0 1 (b2 (decide (tkK B n t = 10 ∨ tkK B n t = 15))) := by
      unfold f_X6_expression_J186
      rw [if_neg ne01, show (10 : Int32) = nI 10 from rfl, i10, bnd]
      by_cases q : tkK B n t = 10
      · rw [if_pos q, if_neg ne01, decide_eq_true (Or.inl q)]
        rfl
      · rw [if_neg q, if_pos rfl, show (15 : Int32) = nI 15 from rfl, i15, bnd]
        by_cases q2 : tkK B n t = 15
        · rw [if_pos q2, if_neg ne01, decide_eq_true (Or.inr q2)]
          rfl
        · rw [if_neg q2, if_pos rfl, decide_eq_false (by omega)]
          rfl
    unfold f_X6_expression_J145 f_X6_expression_J181
    rw [show (8 : Int32) = nI 8 from rfl, i8, bnd]
    by_cases q8 : tkK B n t = 8
    · rw [if_pos q8, if_neg ne01]; exact j186
    rw [if_neg q8, if_pos rfl, show (9 : Int32) = nI 9 from rfl, i9, bnd]
    by_cases q9 : tkK B n t = 9
    · rw [if_pos q9, if_neg ne01]; exact j186
    rw [if_neg q9, if_pos rfl, show (10 : Int32) = nI 10 from rfl, i10, bnd]
    by_cases q10 : tkK B n t = 10
    · rw [if_pos q10, if_neg ne01]; exact j186
    have q15 : tkK B n t = 15 := by omega
    rw [if_neg q10, if_pos rfl, show (15 : Int32) = nI 15 from rfl, i15, bnd, if_pos q15, if_neg ne01]
    exact j186
  rw [start]
  generalize syPop (decide (tkK B n t = 10 ∨ tkK B n t = 15)) (sy (tkK B n) (tkV B n) t0 (t - t0)).1 (sy (tkK B n) (tkV B n) t0 (t - t0)).2 = p at *
  obtain ⟨p1, p2⟩ := p
  have e48 : st_I Z (ky 0 48) = nI p2.length := e2.1
  have hAZ := atM_on (by decide) h.1 e3.1
  have e5 : st_A Z (ky 0 5) t = nI (tkK B n t) := (at_tok hAZ).1
  have q := (okW_len pa).1
  rw [pb] at q
  have q2 : p2.length ≤ 3 * br + 2 := q
  unfold f_X6_expression_J234
  rw [show f_X6_comesOut S (b2 (decide (tkK B n t = 10 ∨ tkK B n t = 15))) = some Z from e1, bnd, chk_t (at_ib hAZ), e48, chk_t (ib_nI (by omega) (by decide)), hAZ.2.1, nI_clamp (by omega), nI_clamp (by omega), e5, lt_e]
  have e48b : ∀ f, st_I (up_A Z (ky 0 47) f) (ky 0 48) = nI p2.length := fun _ => e48
  rw [e48b, nI_1, lt_e]
  have hA : atM B n (up_I (up_A Z (ky 0 47) (upd (st_A Z (ky 0 47)) p2.length (nI (tkK B n t)))) (ky 0 48) (nI (p2.length + 1))) t := hAZ
  have oA : oh sd fsE S (up_I (up_A Z (ky 0 47) (upd (st_A Z (ky 0 47)) p2.length (nI (tkK B n t)))) (ky 0 48) (nI (p2.length + 1))) := oh_trans (oh_trans (oh_mono (by decide) e3) (oh_A _ _ _ (by decide) (by decide))) (oh_I _ _ _ (by decide))
  rcases M_go hA (q := (tel, sp, pt, false, false, br, ifs, cn)) h0 hg (inL_m hL true false hb pt) with ⟨S', a, b, d⟩ | ⟨a, b, d, e⟩
  · rw [a, bnd]
    exact ⟨S', rfl, oh_trans oA (oh_ofS (by decide) (by decide) b), Or.inl d⟩
  · rw [b, bnd]
    refine ⟨_, rfl, oh_trans oA (oh_I _ _ _ (by decide)), Or.inr ⟨⟨d, ?_, by have := h.2.2.1; omega, hb, h.2.2.2.2.1, ?_, ?_⟩, e⟩⟩
    · show st_I Z (ky 0 12) = nI br
      rw [(e3.1 _ (kM_n (by decide) (by decide) (by decide))).1]; exact h.2.1
    · rw [hsy]
      refine ⟨rfl, stk_push _ e2.2.1, e2.2.2.1, e2.2.2.2.1, fun w hw => ?_⟩
      rcases List.mem_cons.mp hw with z | z
      · rw [z]; omega
      · exact e2.2.2.2.2 w z
    · rw [hsy, show t + 1 - t0 = t - t0 + 1 by have := h.2.2.1; omega]
      exact ho
theorem M_noOp {S : St} {t : Nat} (h : atM B n S t) (hk : ¬ (tkK B n t = 8 ∨ tkK B n t = 9 ∨ tkK B n t = 10 ∨ tkK B n t = 15)) : f_X6_expression_J145 S 0 = some (.inr (.inl S)) := by
  unfold f_X6_expression_J145
  rw [show (8 : Int32) = nI 8 from rfl, M_is h 8 (by decide), if_neg (fun z => hk (Or.inl z)), bnd, if_pos rfl, show (9 : Int32) = nI 9 from rfl, M_is h 9 (by decide), if_neg (fun z => hk (Or.inr (Or.inl z))), bnd, if_pos rfl, show (10 : Int32) = nI 10 from rfl, M_is h 10 (by decide), if_neg (fun z => hk (Or.inr (Or.inr (Or.inl z)))), bnd, if_pos rfl, show (15 : Int32) = nI 15 from rfl, M_is h 15 (by decide), if_neg (fun z => hk (Or.inr (Or.inr (Or.inr z)))), bnd, if_pos rfl]
  unfold f_X6_expression_J186
  rw [if_pos rfl]
theorem M_noOpF {S : St} {c : Nat × Nat} (f : fltM B n S c) : f_X6_expression_J145 S 0 = some (.inr (.inl S)) := by
  unfold f_X6_expression_J145
  rw [M_isF f, bnd, if_pos rfl, M_isF f, bnd, if_pos rfl, M_isF f, bnd, if_pos rfl, M_isF f, bnd, if_pos rfl]
  unfold f_X6_expression_J186
  rw [if_pos rfl]
end EXS
