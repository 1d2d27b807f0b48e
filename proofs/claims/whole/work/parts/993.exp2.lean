/-! THE REFERENCE READS AN EXPRESSION: brackets that open, a unit. -/
section EXS
variable {B : Nat → Nat} {n t0 sd tel sp pt ifs : Nat} {cn : Nat → Nat} {pre : List (Nat × Nat)}
theorem M_opens {S : St} {t br : Nat} {fr : Bool} (hL : inL tel sp pt ifs cn) (h : EX B n t0 sd pre S t br false) (hf : pt = 4 ∧ fr = true → tkK B n t ≠ 28) (x1 : Int32) : ∃ S', iter (f_X6_expression_L23 x1) FU S = some S' ∧ oh sd fsE S S' ∧ (fltM B n S' (rn (tkK B n) t (tel, sp, pt, true, fr, br, ifs, cn)) ∨ ∃ t' br' fr', t ≤ t' ∧ EX B n t0 sd pre S' t' br' false ∧ rn (tkK B n) t (tel, sp, pt, true, fr, br, ifs, cn) = rn (tkK B n) t' (tel, sp, pt, true, fr', br', ifs, cn) ∧ tkK B n t' ≠ 6 ∧ (pt = 4 ∧ fr' = true → tkK B n t' ≠ 28) ∧ ∀ u, t ≤ u → u < t' → tkK B n u = 6) := by
  refine iter_invF (fun k z => oh sd fsE S z ∧ (fltM B n z (rn (tkK B n) t (tel, sp, pt, true, fr, br, ifs, cn)) ∨ ∃ t' br' fr', k ≤ t' ∧ t ≤ t' ∧ EX B n t0 sd pre z t' br' false ∧ rn (tkK B n) t (tel, sp, pt, true, fr, br, ifs, cn) = rn (tkK B n) t' (tel, sp, pt, true, fr', br', ifs, cn) ∧ (pt = 4 ∧ fr' = true → tkK B n t' ≠ 28) ∧ ∀ u, t ≤ u → u < t' → tkK B n u = 6)) _ 401 (by decide) ⟨oh_refl _ _ _, Or.inr ⟨t, br, fr, Nat.zero_le _, Nat.le_refl _, h, rfl, hf, fun u a b => absurd a (by omega)⟩⟩ ?_ ?_
  · rintro k z hk ⟨o, f | ⟨t', br', fr', h1, h2, h3, h4, h5, hu⟩⟩
    · refine Or.inr ⟨z, ?_, o, Or.inl f⟩
      unfold f_X6_expression_L23
      rw [M_isF f, bnd, if_pos rfl]
    · by_cases c6 : tkK B n t' = 6
      · obtain ⟨S', e, o2, d⟩ := M_open (fr := fr') hL h3 c6 x1
        refine Or.inl ⟨S', e, oh_trans o o2, ?_⟩
        rcases d with d | ⟨d1, d2⟩
        · exact Or.inl (by rw [h4]; exact d)
        · exact Or.inr ⟨t' + 1, br' + 1, false, by omega, by omega, d1, by rw [h4, d2], fun z => absurd z.2 (by decide), fun u a b => by
            by_cases q : u = t'
            · rw [q]; exact c6
            · exact hu u a (by omega)⟩
      · refine Or.inr ⟨z, ?_, o, Or.inr ⟨t', br', fr', h2, h3, h4, c6, h5, hu⟩⟩
        unfold f_X6_expression_L23
        rw [show (6 : Int32) = nI 6 from rfl, M_is h3.1 6 (by decide), if_neg c6, bnd, if_pos rfl]
  · rintro z ⟨o, f | ⟨t', br', fr', h1, h2, h3, h4, h5, hu⟩⟩
    · refine ⟨z, ?_, o, Or.inl f⟩
      unfold f_X6_expression_L23
      rw [M_isF f, bnd, if_pos rfl]
    · exact absurd h3.1.2.2.1 (by omega)
theorem M_unitF {S : St} {c : Nat × Nat} (f : fltM B n S c) : f_X6_unit S = some S := by
  unfold f_X6_unit
  rw [M_isF f, bnd, if_pos rfl, if_neg (flt_p f).2.1]
  unfold f_X6_unit_J88
  rw [M_failF f, bnd]
theorem te_4 {i : Nat} (hi : i < n) (hk : kd B n i = 2) : dvl B i (te B n i - i) < 10000 := by
  unfold kd at hk
  have h1 := wOf_le (ltr B i (te B n i - i))
  have h2 := sg_ge (B i)
  cases hl : isl (B i) with
  | true =>
    rw [if_pos hl] at hk
    split at hk <;> omega
  | false =>
    rw [if_neg (by rw [hl]; decide)] at hk
    cases hd : isd (B i) with
    | true =>
      rw [if_pos hd] at hk
      split at hk
      · omega
      · have h3 := dvl_lt (B := B) (i := i) _ (te_d hi hl hd)
        exact Nat.lt_of_lt_of_le h3 (Nat.le_trans (Nat.pow_le_pow_right (by decide) (show te B n i - i ≤ 4 by omega)) (by decide))
    | false =>
      rw [if_neg (by rw [hd]; decide)] at hk
      omega
theorem tkV_4 {t : Nat} (hk : tkK B n t = 2) : tkV B n t < 10000 := by
  unfold tkK at hk
  by_cases c : n ≤ ps B n t
  · rw [if_pos c] at hk; omega
  · rw [if_neg c] at hk
    exact te_4 (by omega) hk
theorem M_unit {S : St} {t br : Nat} {fr : Bool} (hL : inL tel sp pt ifs cn) (h : EX B n t0 sd pre S t br false) (h6 : tkK B n t ≠ 6) (hf : pt = 4 ∧ fr = true → tkK B n t ≠ 28) : ∃ S', f_X6_unit S = some S' ∧ oh sd fsE S S' ∧ (fltM B n S' (rn (tkK B n) t (tel, sp, pt, true, fr, br, ifs, cn)) ∨ ((tkK B n t = 2 ∨ 31 ≤ tkK B n t) ∧ EX B n t0 sd pre S' (t + 1) br true ∧ rn (tkK B n) t (tel, sp, pt, true, fr, br, ifs, cn) = rn (tkK B n) (t + 1) (tel, sp, pt, false, false, br, ifs, cn))) := by
  have h400 := h.1.2.2.1
  have hb := h.2.2.2.1
  have hl := EX_len h
  have hx := h.2.2.2.2.2.1
  have hg : goQ (tel, sp, pt, true, fr, br, ifs, cn) (tkK B n t) = if tkK B n t = 2 ∨ 31 ≤ tkK B n t then some (tel, sp, pt, false, false, br, ifs, cn) else none := by
    rw [gq_w hL, uBeg_e, if_neg (fun z => hf z.2 z.1), if_neg h6]
  have h37 := tkK_37 h.1.2.2.2.2 t
  -- a unit taken
  have take : ∀ x : Nat × Nat, (tkK B n t = 2 ∨ 31 ≤ tkK B n t) → syStep (sy (tkK B n) (tkV B n) t0 (t - t0)) (tkK B n t) (tkV B n t) = ((sy (tkK B n) (tkV B n) t0 (t - t0)).1 ++ [x], (sy (tkK B n) (tkV B n) t0 (t - t0)).2) → ∃ S', ((f_X6_emit S (nI x.1) (nI x.2)).bind (fun (q9 : St) => (f_X6_goesOn q9).bind (fun (q10 : St) => some q10))) = some S' ∧ oh sd fsE S S' ∧ (fltM B n S' (rn (tkK B n) t (tel, sp, pt, true, fr, br, ifs, cn)) ∨ ((tkK B n t = 2 ∨ 31 ≤ tkK B n t) ∧ EX B n t0 sd pre S' (t + 1) br true ∧ rn (tkK B n) t (tel, sp, pt, true, fr, br, ifs, cn) = rn (tkK B n) (t + 1) (tel, sp, pt, false, false, br, ifs, cn))) := by
    intro x hk2 hs
    rw [M_emit hx.2.2.1 (by show (420 * sd) + (pre ++ (sy (tkK B n) (tkV B n) t0 (t - t0)).1).length < 840; rw [List.length_append]; omega), bnd]
    have hE := ex_em hx x
    have oE : oh sd fsE S (upEm S ((420 * sd) + (pre ++ (sy (tkK B n) (tkV B n) t0 (t - t0)).1).length) (nI x.1) (nI x.2)) := oh_mono (by decide) (upEm_oh sd _ _ _ _ (by omega) (by rw [List.length_append]; omega))
    have hA : atM B n (upEm S ((420 * sd) + (pre ++ (sy (tkK B n) (tkV B n) t0 (t - t0)).1).length) (nI x.1) (nI x.2)) t := h.1
    have h0 : tkK B n t ≠ 0 := by omega
    rcases M_go hA (q := (tel, sp, pt, true, fr, br, ifs, cn)) h0 (by rw [hg, if_pos hk2]) (inL_m hL false false hb pt) with ⟨S', a, b, d⟩ | ⟨a, b, d, e⟩
    · rw [a, bnd]
      exact ⟨S', rfl, oh_trans oE (oh_ofS (by decide) (by decide) b), Or.inl d⟩
    · rw [b, bnd]
      refine ⟨_, rfl, oh_trans oE (oh_I _ _ _ (by decide)), Or.inr ⟨hk2, ⟨d, h.2.1, by have := h.2.2.1; omega, hb, h.2.2.2.2.1, ?_, ?_⟩, e⟩⟩
      · rw [sy_s _ _ h.2.2.1, hs]
        show exM (420 * sd) _ (pre ++ ((sy (tkK B n) (tkV B n) t0 (t - t0)).1 ++ [x]), _)
        rw [← List.append_assoc]
        exact hE
      · have ho := syOK_unit (k := tkK B n t) (v := tkV B n t) h.2.2.2.2.2.2 hb (by
          rcases hk2 with q | q
          · exact Or.inl ⟨q, tkV_4 q⟩
          · exact Or.inr ⟨q, h37⟩)
        rw [sy_s _ _ h.2.2.1, show t + 1 - t0 = t - t0 + 1 by have := h.2.2.1; omega]
        exact ho
  have bad : ¬ (tkK B n t = 2 ∨ 31 ≤ tkK B n t) → ∃ S', f_X6_unit_J88 S = some S' ∧ oh sd fsE S S' ∧ (fltM B n S' (rn (tkK B n) t (tel, sp, pt, true, fr, br, ifs, cn)) ∨ ((tkK B n t = 2 ∨ 31 ≤ tkK B n t) ∧ EX B n t0 sd pre S' (t + 1) br true ∧ rn (tkK B n) t (tel, sp, pt, true, fr, br, ifs, cn) = rn (tkK B n) (t + 1) (tel, sp, pt, false, false, br, ifs, cn))) := by
    intro hn
    obtain ⟨e, f⟩ := M_fail h.1 (k := 1) (Or.inl rfl)
    unfold f_X6_unit_J88
    rw [show f_X6_fail S (1 : Int32) = _ from e, bnd]
    refine ⟨_, rfl, oh_ofS (by decide) (by decide) (upFl_on _ _ _), Or.inl ?_⟩
    rw [rn_no h.1 hL.1 (fun _ => by rw [hg, if_neg hn])]
    exact f
  unfold f_X6_unit
  rw [show (2 : Int32) = nI 2 from rfl, M_is h.1 2 (by decide), bnd]
  by_cases c2 : tkK B n t = 2
  · rw [if_pos c2, if_neg ne01, chk_t (at_ib h.1), h.1.2.1, nI_clamp (by omega), (at_tok h.1).2.2.1 c2]
    refine take (0, tkV B n t) (Or.inl c2) ?_
    unfold syStep
    rw [if_pos c2]
  · rw [if_neg c2, if_pos rfl, h.1.1, if_pos rfl, chk_t (at_ib h.1), at_k h.1]
    by_cases c31 : tkK B n t < 31
    · rw [if_pos (show nI (tkK B n t) < (31 : Int32) from nI_lt (b := 31) c31 (by decide))]
      exact bad (by omega)
    · rw [if_neg (show ¬ nI (tkK B n t) < (31 : Int32) from nI_nlt (b := 31) (by omega) (by omega)), chk_t (at_ib h.1), if_neg (show ¬ (36 : Int32) < nI (tkK B n t) from nI_nlt (a := 36) (by omega) (by decide)), chk_t (at_ib h.1), show nI (tkK B n t) - (31 : Int32) = nI (tkK B n t - 31) from pk_sub (b := 31) (by omega)]
      refine take (1, tkK B n t - 31) (Or.inr (by omega)) ?_
      unfold syStep
      rw [if_neg c2, if_pos (by omega)]
end EXS
