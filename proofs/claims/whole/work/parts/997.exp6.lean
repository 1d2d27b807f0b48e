/-! THE REFERENCE READS AN EXPRESSION: the whole. -/
def xoOK (tk tv : Nat → Nat) (t t' : Nat) : Prop := dpF (xo tk tv t t') = some 1 ∧ (∀ x ∈ xo tk tv t t', cdR x) ∧ (xo tk tv t t').length ≤ t' - t ∧ (syPop false (sy tk tv t (t' - t)).1 (sy tk tv t (t' - t)).2).2 = []
theorem xo_of {tk tv : Nat → Nat} {t t' : Nat} (h : syOK true 0 (t' - t) (sy tk tv t (t' - t))) : xoOK tk tv t t' := by
  obtain ⟨pa, pb, pc, pe, pf, pg⟩ := syPop_all false _ _ h.1 h.2.2.1 h.2.2.2.1
  have pg' : hd6 (syPop false (sy tk tv t (t' - t)).1 (sy tk tv t (t' - t)).2).2 := pg
  have hl := h.2.2.2.2
  rw [h.2.1] at pb
  unfold xoOK xo
  generalize syPop false (sy tk tv t (t' - t)).1 (sy tk tv t (t' - t)).2 = p at *
  obtain ⟨p1, p2⟩ := p
  cases p2 with
  | cons w r =>
    have g2 : w = 6 := pg'
    subst g2
    have b2 : 1 + cn6 r = 0 := pb
    omega
  | nil =>
    have f2 : p1.length + 0 = _ := pf
    exact ⟨pc, pe, (by show p1.length ≤ t' - t; omega), rfl⟩
section EXS
variable {B : Nat → Nat} {n sd tel sp pt ifs : Nat} {cn : Nat → Nat} {pre : List (Nat × Nat)}
/-- an expression has been read, from t to t' -/
def exDone (B : Nat → Nat) (n sd : Nat) (pre : List (Nat × Nat)) (t t' : Nat) (S' : St) : Prop := t < t' ∧ atM B n S' t' ∧ st_I S' (ky 0 12) = 0 ∧ st_I S' (ky 0 44) = nI ((420 * sd) + (pre ++ xo (tkK B n) (tkV B n) t t').length) ∧ cds (st_A S' (ky 0 45)) (st_A S' (ky 0 46)) (420 * sd) (pre ++ xo (tkK B n) (tkV B n) t t') ∧ xoOK (tkK B n) (tkV B n) t t' ∧ ¬ (tkK B n t' = 8 ∨ tkK B n t' = 9 ∨ tkK B n t' = 10 ∨ tkK B n t' = 15) ∧ ∀ u, t ≤ u → u < t' → exTk (tkK B n) (tkV B n) t u
theorem M_expression {S : St} {t : Nat} {fr : Bool} (hL : inL tel sp pt ifs cn) (hA : atM B n S t) (h12 : st_I S (ky 0 12) = 0) (h44 : st_I S (ky 0 44) = nI ((420 * sd) + pre.length)) (hc : cds (st_A S (ky 0 45)) (st_A S (ky 0 46)) (420 * sd) pre) (hb : pre.length ≤ t ∧ sd < 2) (hf : pt = 4 ∧ fr = true → tkK B n t ≠ 28) : ∃ S', f_X6_expression S = some S' ∧ oh sd fsE S S' ∧ (fltM B n S' (rn (tkK B n) t (tel, sp, pt, true, fr, 0, ifs, cn)) ∨ ∃ t', exDone B n sd pre t t' S' ∧ rn (tkK B n) t (tel, sp, pt, true, fr, 0, ifs, cn) = rn (tkK B n) t' (tel, sp, pt, false, false, 0, ifs, cn)) := by
  have o1 : oh sd fsE S (up_I S (ky 0 48) (0 : Int32)) := oh_I _ _ _ (by decide)
  have hX : EX B n t sd pre (up_I S (ky 0 48) (0 : Int32)) t 0 false := by
    refine ⟨hA, h12, Nat.le_refl _, by decide, hb, ?_, ?_⟩
    · rw [Nat.sub_self]
      show exM (420 * sd) _ (pre ++ [], [])
      rw [List.append_nil]
      exact ⟨rfl, trivial, h44, hc, fun w hw => absurd hw (List.not_mem_nil)⟩
    · rw [Nat.sub_self]
      exact syOK_0
  have main : ∃ r, iter (f_X6_expression_L12 0) FU ((1 : Int32), up_I S (ky 0 48) (0 : Int32)) = some r ∧ exQ B n t sd pre tel sp pt ifs cn (rn (tkK B n) t (tel, sp, pt, true, fr, 0, ifs, cn)) t S r := by
    refine iter_invF (fun k z => ∃ Z, z = ((1 : Int32), Z) ∧ oh sd fsE S Z ∧ (fltM B n Z (rn (tkK B n) t (tel, sp, pt, true, fr, 0, ifs, cn)) ∨ ∃ t' br' fr', k ≤ t' ∧ EX B n t sd pre Z t' br' false ∧ rn (tkK B n) t (tel, sp, pt, true, fr, 0, ifs, cn) = rn (tkK B n) t' (tel, sp, pt, true, fr', br', ifs, cn) ∧ (pt = 4 ∧ fr' = true → tkK B n t' ≠ 28) ∧ ∀ u, t ≤ u → u < t' → exTk (tkK B n) (tkV B n) t u)) _ 401 (by decide) ⟨_, rfl, o1, Or.inr ⟨t, 0, fr, Nat.zero_le _, hX, rfl, hf, fun u a b => absurd a (by omega)⟩⟩ ?_ ?_
    · rintro k z hk ⟨Z, rfl, o, f | ⟨t', br', fr', h1, h3, h4, h5, hu⟩⟩
      · refine Or.inr ⟨.inr Z, ?_, o, f⟩
        unfold f_X6_expression_L12
        show (if (1 : Int32) = 0 then _ else if st_I Z (ky 0 13) = 0 then _ else _) = _
        rw [if_neg ne01, if_neg (flt_p f).2.1]
      · rcases M_exStep _ hL o h3 h4 h5 with ⟨Z', e, o2, d⟩ | ⟨r, e, d⟩
        · refine Or.inl ⟨_, e, Z', rfl, o2, ?_⟩
          rcases d with f | ⟨t2, br2, g1, gu, g2, g3⟩
          · exact Or.inl f
          · exact Or.inr ⟨t2, br2, false, by omega, g2, g3, (fun z => absurd z.2 (by decide)), fun u p1 p2 => by
            by_cases q : u < t'
            · exact hu u p1 q
            · exact gu u (by omega) p2⟩
        · refine Or.inr ⟨r, e, ?_⟩
          cases r with
          | inr Z' => exact d
          | inl Z' =>
            refine ⟨d.1, d.2.elim Or.inl (fun g => ?_)⟩
            obtain ⟨t2, br2, g1, gu, g2⟩ := g
            refine Or.inr ⟨t2, br2, g1, fun u p1 p2 => ?_, g2⟩
            by_cases q : u < t'
            · exact hu u p1 q
            · exact gu u (by omega) p2
    · rintro z ⟨Z, rfl, o, f | ⟨t', br', fr', h1, h3, h4, h5, hu⟩⟩
      · refine ⟨.inr Z, ?_, o, f⟩
        unfold f_X6_expression_L12
        show (if (1 : Int32) = 0 then _ else if st_I Z (ky 0 13) = 0 then _ else _) = _
        rw [if_neg ne01, if_neg (flt_p f).2.1]
      · exact absurd h3.1.2.2.1 (by omega)
  obtain ⟨r, er, hr⟩ := main
  generalize hr0 : rn (tkK B n) t (tel, sp, pt, true, fr, 0, ifs, cn) = r0 at *
  have e12 : st_I (up_I S (ky 0 48) (0 : Int32)) (ky 0 12) = 0 := h12
  unfold f_X6_expression
  rw [lt_e, e12, er, bnd]
  -- what waits comes out, fault or not
  have out : ∀ (Z : St), oh sd fsE S Z → fltM B n Z r0 → ltX sd Z → ∃ S', f_X6_expression_J204 Z = some S' ∧ oh sd fsE S S' ∧ fltM B n S' r0 := by
    rintro Z o f ⟨s, x1, x2, x3⟩
    obtain ⟨Z', g1, g2, g3⟩ := M_comesOut false s.2 FU sd Z s.1 (by show _ < 40000; omega) x2 x3 x1
    unfold f_X6_expression_J204
    rw [show f_X6_comesOut Z (0 : Int32) = some Z' from g1, bnd]
    exact ⟨Z', rfl, oh_trans o (oh_mono (by decide) g3), flt_on f (by decide) g3.1⟩
  cases r with
  | inr Z => exact ⟨Z, rfl, hr.1, Or.inl hr.2⟩
  | inl Z =>
    obtain ⟨o, d⟩ := hr
    show ∃ S', (if st_I Z (ky 0 12) ≤ 0 then f_X6_expression_J204 Z else ((f_X6_fail Z (1 : Int32)).bind (fun (q45 : St) => f_X6_expression_J204 q45))) = some S' ∧ _
    rcases d with ⟨f, x⟩ | ⟨t', br', h1, hu, h2, h3, h4, h5⟩
    · obtain ⟨S', g1, g2, g3⟩ := out Z o f x
      by_cases c : st_I Z (ky 0 12) ≤ 0
      · rw [if_pos c]
        exact ⟨S', g1, g2, Or.inl g3⟩
      · rw [if_neg c, M_failF f, bnd]
        exact ⟨S', g1, g2, Or.inl g3⟩
    · have hl := EX_len h2
      have hb6 := h2.2.2.2.1
      have hx := h2.2.2.2.2.2.1
      rw [h2.2.1]
      by_cases c : br' = 0
      · subst c
        rw [if_pos (by decide)]
        obtain ⟨Z', g1, g2, g3⟩ := M_comesOut false _ FU sd Z _ (by show _ < 40000; omega) (by omega) (by rw [List.length_append]; omega) hx
        rw [syPop_pre] at g2
        unfold f_X6_expression_J204
        rw [show f_X6_comesOut Z (0 : Int32) = some Z' from g1, bnd]
        refine ⟨Z', rfl, oh_trans o (oh_mono (by decide) g3), Or.inr ⟨t', ⟨h1, atM_on (by decide) h2.1 g3.1, ?_, g2.2.2.1, g2.2.2.2.1, xo_of h2.2.2.2.2.2.2, h5, hu⟩, h3⟩⟩
        rw [(g3.1 _ (kM_n (by decide) (by decide) (by decide))).1]
        exact h2.2.1
      · rw [if_neg (show ¬ nI br' ≤ 0 from nI_nle (by omega) (by omega))]
        obtain ⟨e, f⟩ := M_fail h2.1 (k := 1) (Or.inl rfl)
        have run : r0 = (1, t') := by
          rw [h3]
          refine rn_no h2.1 hL.1 (fun _ => ?_)
          rw [gq_e hL, uEnd_e, if_neg h5, if_neg (fun z => h4.elim (fun y => y z) c), if_neg c]
        rw [show f_X6_fail Z (1 : Int32) = _ from e, bnd]
        rw [← run] at f
        obtain ⟨S', g1, g2, g3⟩ := out _ (oh_trans o (oh_ofS (by decide) (by decide) (upFl_on Z (nI 1) (nI (ps B n t'))))) f ⟨_, hx, by show (sy (tkK B n) (tkV B n) t (t' - t)).2.length ≤ 60; omega, by rw [List.length_append]; show sd < 2 ∧ (_ + _) + (sy (tkK B n) (tkV B n) t (t' - t)).2.length ≤ 420; omega⟩
        exact ⟨S', g1, g2, Or.inl g3⟩
end EXS
