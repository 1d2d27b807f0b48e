/-! THE REFERENCE READS AN EXPRESSION: brackets that close, operators. -/
def ltX (sd : Nat) (S : St) : Prop := ∃ s, exM (420 * sd) S s ∧ s.2.length ≤ 60 ∧ sd < 2 ∧ s.1.length + s.2.length ≤ 420
theorem atM_on {B : Nat → Nat} {n t : Nat} {S S' : St} {fs : List Nat} (hf : ∀ f ∈ fs, f < 100 ∧ f ≠ 11 ∧ f ≠ 13 ∧ (f < 5 ∨ 8 < f)) (h : atM B n S t) (o : on (kM fs) S S') : atM B n S' t := by
  have g : ∀ f, f = 11 ∨ f = 13 → ¬ kM fs (ky 0 f) := fun f h1 => kM_n (fun f hf2 => (hf f hf2).1) (by omega) (fun z => by have := hf f z; omega)
  refine ⟨?_, ?_, h.2.2.1, h.2.2.2.1, tkM_on (fun f hf2 => ⟨(hf f hf2).1, (hf f hf2).2.2.2⟩) h.2.2.2.2 o⟩
  · rw [(o _ (g 13 (Or.inr rfl))).1]; exact h.1
  · rw [(o _ (g 11 (Or.inl rfl))).1]; exact h.2.1
section EXS
variable {B : Nat → Nat} {n t0 sd tel sp pt ifs : Nat} {cn : Nat → Nat} {pre : List (Nat × Nat)}
theorem uEnd_e (fr : Bool) (br k : Nat) : uEnd (tel, sp, pt, false, fr, br, ifs, cn) k = if k = 8 ∨ k = 9 ∨ k = 10 ∨ k = 15 then some (tel, sp, pt, true, fr, br, ifs, cn) else if k = 7 then (if br = 0 then none else some (tel, sp, pt, false, fr, br - 1, ifs, cn)) else if br = 0 then pEnd (tel, sp, pt, false, fr, br, ifs, cn) k else none := rfl
theorem M_close {S : St} {t br : Nat} (hL : inL tel sp pt ifs cn) (h : EX B n t0 sd pre S t (br + 1) true) (h7 : tkK B n t = 7) : ∃ S', f_X6_expression_L96 0 S = some (.inl S') ∧ oh sd fsE S S' ∧ ((fltM B n S' (rn (tkK B n) t (tel, sp, pt, false, false, br + 1, ifs, cn)) ∧ ltX sd S') ∨ (EX B n t0 sd pre S' (t + 1) br true ∧ rn (tkK B n) t (tel, sp, pt, false, false, br + 1, ifs, cn) = rn (tkK B n) (t + 1) (tel, sp, pt, false, false, br, ifs, cn))) := by
  have hb := h.2.2.2.1
  have hl := EX_len h
  have hx := h.2.2.2.2.2.1
  have h0 : tkK B n t ≠ 0 := by rw [h7]; decide
  have hg : goQ (tel, sp, pt, false, false, br + 1, ifs, cn) (tkK B n t) = some (tel, sp, pt, false, false, br, ifs, cn) := by
    rw [gq_e hL, uEnd_e, h7, if_neg (by decide), if_pos rfl, if_neg (by omega)]
    rfl
  have ho := syOK_close (v := tkV B n t) h.2.2.2.2.2.2
  have hs : syStep (sy (tkK B n) (tkV B n) t0 (t - t0)) 7 (tkV B n t) = ((syPop false (sy (tkK B n) (tkV B n) t0 (t - t0)).1 (sy (tkK B n) (tkV B n) t0 (t - t0)).2).1, (syPop false (sy (tkK B n) (tkV B n) t0 (t - t0)).1 (sy (tkK B n) (tkV B n) t0 (t - t0)).2).2.tail) := rfl
  obtain ⟨pa, pb, pc, pe, pf, pg⟩ := syPop_all false _ _ h.2.2.2.2.2.2.1 h.2.2.2.2.2.2.2.2.1 h.2.2.2.2.2.2.2.2.2.1
  obtain ⟨Z, e1, e2, e3⟩ := M_comesOut false _ FU sd S _ (by show _ < 40000; omega) (by omega) (by rw [List.length_append]; omega) hx
  rw [syPop_pre] at e2
  have pg' : hd6 (syPop false (sy (tkK B n) (tkV B n) t0 (t - t0)).1 (sy (tkK B n) (tkV B n) t0 (t - t0)).2).2 := pg
  rw [h.2.2.2.2.2.2.2.1] at pb
  rw [hs] at ho
  have hsy := sy_s (tkK B n) (tkV B n) h.2.2.1
  rw [h7, hs] at hsy
  generalize syPop false (sy (tkK B n) (tkV B n) t0 (t - t0)).1 (sy (tkK B n) (tkV B n) t0 (t - t0)).2 = p at *
  obtain ⟨p1, p2⟩ := p
  cases p2 with
  | nil => exact absurd pb (by show ¬ 0 = br + 1; omega)
  | cons w r =>
    have g2 : w = 6 := pg'
    subst g2
    have e48 : st_I Z (ky 0 48) = nI (r.length + 1) := e2.1
    have e12 : st_I Z (ky 0 12) = nI (br + 1) := by
      rw [(e3.1 _ (kM_n (by decide) (by decide) (by decide))).1]; exact h.2.1
    have hAZ := atM_on (by decide) h.1 e3.1
    have pf' : p1.length + (r.length + 1) = _ := pf
    have hX : ∀ Y : St, (st_I Y (ky 0 48) = nI r.length) → (st_A Y (ky 0 47) = st_A Z (ky 0 47)) → st_I Y (ky 0 44) = st_I Z (ky 0 44) → st_A Y (ky 0 45) = st_A Z (ky 0 45) → st_A Y (ky 0 46) = st_A Z (ky 0 46) → exM (420 * sd) Y (pre ++ p1, r) := fun Y a1 a2 a3 a4 a5 => by
      refine ⟨a1, ?_, ?_, ?_, fun w hw => e2.2.2.2.2 w (List.mem_cons_of_mem _ hw)⟩
      · rw [a2]; exact e2.2.1.2
      · rw [a3]; exact e2.2.2.1
      · rw [a4, a5]; exact e2.2.2.2.1
    unfold f_X6_expression_L96
    rw [show (7 : Int32) = nI 7 from rfl, M_is h.1 7 (by decide), if_pos h7, bnd, if_neg ne01, h.2.1, if_neg (show ¬ nI (br + 1) ≤ 0 from nI_nle (by omega) (by omega)), show f_X6_comesOut S 0 = some Z from e1, bnd, e48, nI_pred, lt_e]
    have e12b : st_I (up_I Z (ky 0 48) (nI r.length)) (ky 0 12) = nI (br + 1) := e12
    rw [e12b, nI_pred, lt_e]
    have hA : atM B n (up_I (up_I Z (ky 0 48) (nI r.length)) (ky 0 12) (nI br)) t := hAZ
    have oA : oh sd fsE S (up_I (up_I Z (ky 0 48) (nI r.length)) (ky 0 12) (nI br)) := oh_trans (oh_trans (oh_mono (by decide) e3) (oh_I _ _ _ (by decide))) (oh_I _ _ _ (by decide))
    rcases M_go hA (q := (tel, sp, pt, false, false, br + 1, ifs, cn)) h0 hg (inL_m hL false false (by omega) pt) with ⟨S', a, b, d⟩ | ⟨a, b, d, e⟩
    · rw [a, bnd]
      refine ⟨S', rfl, oh_trans oA (oh_ofS (by decide) (by decide) b), Or.inl ⟨d, (pre ++ p1, r), hX S' ?_ ?_ ?_ ?_ ?_, ?_, ?_⟩⟩
      · rw [(b _ (kM_n (by decide) (by decide) (by decide))).1]; rfl
      · rw [(b _ (kM_n (by decide) (by decide) (by decide))).2.1]; rfl
      · rw [(b _ (kM_n (by decide) (by decide) (by decide))).1]; rfl
      · rw [(b _ (kM_n (by decide) (by decide) (by decide))).2.1]; rfl
      · rw [(b _ (kM_n (by decide) (by decide) (by decide))).2.1]; rfl
      · have q := (okW_len pa).1
        rw [pb] at q
        have q2 : r.length + 1 ≤ 3 * (br + 1) + 2 := q
        show r.length ≤ 60
        omega
      · show sd < 2 ∧ (pre ++ p1).length + r.length ≤ 420
        rw [List.length_append]
        omega
    · rw [b, bnd]
      refine ⟨_, rfl, oh_trans oA (oh_I _ _ _ (by decide)), Or.inr ⟨⟨d, rfl, by have := h.2.2.1; omega, by omega, h.2.2.2.2.1, ?_, ?_⟩, e⟩⟩
      · rw [hsy]
        exact hX _ rfl rfl rfl rfl rfl
      · rw [hsy, show t + 1 - t0 = t - t0 + 1 by have := h.2.2.1; omega]
        exact ho
theorem M_closes {S : St} {t br : Nat} (hL : inL tel sp pt ifs cn) (h : EX B n t0 sd pre S t br true) : ∃ S', iter (f_X6_expression_L96 0) FU S = some S' ∧ oh sd fsE S S' ∧ ((fltM B n S' (rn (tkK B n) t (tel, sp, pt, false, false, br, ifs, cn)) ∧ ltX sd S') ∨ ∃ t' br', t ≤ t' ∧ EX B n t0 sd pre S' t' br' true ∧ rn (tkK B n) t (tel, sp, pt, false, false, br, ifs, cn) = rn (tkK B n) t' (tel, sp, pt, false, false, br', ifs, cn) ∧ (tkK B n t' ≠ 7 ∨ br' = 0) ∧ ∀ u, t ≤ u → u < t' → tkK B n u = 7) := by
  refine iter_invF (fun k z => oh sd fsE S z ∧ ((fltM B n z (rn (tkK B n) t (tel, sp, pt, false, false, br, ifs, cn)) ∧ ltX sd z) ∨ ∃ t' br', k ≤ t' ∧ t ≤ t' ∧ EX B n t0 sd pre z t' br' true ∧ rn (tkK B n) t (tel, sp, pt, false, false, br, ifs, cn) = rn (tkK B n) t' (tel, sp, pt, false, false, br', ifs, cn) ∧ ∀ u, t ≤ u → u < t' → tkK B n u = 7)) _ 401 (by decide) ⟨oh_refl _ _ _, Or.inr ⟨t, br, Nat.zero_le _, Nat.le_refl _, h, rfl, fun u a b => absurd a (by omega)⟩⟩ ?_ ?_
  · rintro k z hk ⟨o, f | ⟨t', br', h1, h2, h3, h4, hu⟩⟩
    · refine Or.inr ⟨z, ?_, o, Or.inl f⟩
      unfold f_X6_expression_L96
      rw [M_isF f.1, bnd, if_pos rfl]
    · by_cases c7 : tkK B n t' = 7
      · by_cases cZ : br' = 0
        · refine Or.inr ⟨z, ?_, o, Or.inr ⟨t', br', h2, h3, h4, Or.inr cZ, hu⟩⟩
          unfold f_X6_expression_L96
          rw [show (7 : Int32) = nI 7 from rfl, M_is h3.1 7 (by decide), if_pos c7, bnd, if_neg ne01, h3.2.1, if_pos (show nI br' ≤ 0 by rw [cZ]; decide)]
        · obtain ⟨m, rfl⟩ : ∃ m, br' = m + 1 := ⟨br' - 1, by omega⟩
          obtain ⟨S', e, o2, d⟩ := M_close hL h3 c7
          refine Or.inl ⟨S', e, oh_trans o o2, ?_⟩
          rcases d with d | ⟨d1, d2⟩
          · exact Or.inl (by rw [h4]; exact d)
          · exact Or.inr ⟨t' + 1, m, by omega, by omega, d1, by rw [h4, d2], fun u a b => by
            by_cases q : u = t'
            · rw [q]; exact c7
            · exact hu u a (by omega)⟩
      · refine Or.inr ⟨z, ?_, o, Or.inr ⟨t', br', h2, h3, h4, Or.inl c7, hu⟩⟩
        unfold f_X6_expression_L96
        rw [show (7 : Int32) = nI 7 from rfl, M_is h3.1 7 (by decide), if_neg c7, bnd, if_pos rfl]
  · rintro z ⟨o, f | ⟨t', br', h1, h2, h3, h4, hu⟩⟩
    · refine ⟨z, ?_, o, Or.inl f⟩
      unfold f_X6_expression_L96
      rw [M_isF f.1, bnd, if_pos rfl]
    · exact absurd h3.1.2.2.1 (by omega)
end EXS
