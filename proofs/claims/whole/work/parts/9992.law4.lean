/-! THE REFERENCE READS A LAW, all of it. -/
abbrev fsL2 : List Nat := [11, 12, 13, 14, 36, 37, 38, 39, 40, 41, 42, 43, 44, 45, 46, 47, 48]
section EXS
variable {B : Nat → Nat} {n sd tel sp ifs : Nat} {cn : Nat → Nat}
theorem L12_e (x1 x2 x3 : Int32) (Z : St) : f_X6_tellLaw_L12 x1 x2 (x3, Z) = if (st_I Z (ky 0 13)) = 0 then ((f_X6_is Z (28 : Int32)).bind (fun (q3 : Int32) => if q3 = 0 then (some (.inr (.inl Z))) else (if x3 = (4 : Int32) then ((f_X6_fail Z (2 : Int32)).bind (fun (q18 : St) => f_X6_tellLaw_J38 q18 x1 x2 x3)) else (f_X6_tellLaw_J38 Z x1 x2 x3)))) else (some (.inr (.inl Z))) := rfl
def ifsQ (B : Nat → Nat) (n sd tel sp : Nat) (cn : Nat → Nat) (S0 : St) (t0 : Nat) (bl : List BR) (r0 : Nat × Nat) (r : St ⊕ St) : Prop := match r with
  | .inl Z => oh sd fsLw S0 Z ∧ ((fltM B n Z r0 ∧ ∃ b, 130 * sd ≤ b ∧ b < 130 * sd + 120 ∧ st_I Z (ky 0 38) = nI b) ∨ ∃ t' brs all' ifs, t0 ≤ t' ∧ tkK B n t' ≠ 28 ∧ ifs ≤ 4 ∧ LX B n sd Z t' all' (bl ++ brs) ∧ 4 * (bl ++ brs).length + 2 ≤ t' ∧ r0 = rn (tkK B n) t' (tel, sp, 4, true, true, 0, ifs, cn) ∧ ∀ l d, LawT (tkK B n) (tkV B n) d l t' → LawT (tkK B n) (tkV B n) d (brs ++ l) t0)
  | .inr Z => oh sd fsLw S0 Z ∧ fltM B n Z r0
theorem M_ifs {S : St} {t0 : Nat} {all : CL} {bl : List BR} (hL : inL tel sp 4 0 cn) (h : LX B n sd S t0 all bl) (hb : 4 * bl.length + 2 ≤ t0) (x1 x2 : Int32) : ∃ r, iter (f_X6_tellLaw_L12 x1 x2) FU ((0 : Int32), S) = some r ∧ ifsQ B n sd tel sp cn S t0 bl (rn (tkK B n) t0 (tel, sp, 4, true, true, 0, 0, cn)) r := by
  refine iter_invF (fun k z => ∃ Z x3, z = (x3, Z) ∧ oh sd fsLw S Z ∧ ((fltM B n Z (rn (tkK B n) t0 (tel, sp, 4, true, true, 0, 0, cn)) ∧ ∃ b, 130 * sd ≤ b ∧ b < 130 * sd + 120 ∧ st_I Z (ky 0 38) = nI b) ∨ ∃ t' brs all' ifs, k ≤ t' ∧ t0 ≤ t' ∧ ifs ≤ 4 ∧ x3 = nI ifs ∧ LX B n sd Z t' all' (bl ++ brs) ∧ 4 * (bl ++ brs).length + 2 ≤ t' ∧ rn (tkK B n) t0 (tel, sp, 4, true, true, 0, 0, cn) = rn (tkK B n) t' (tel, sp, 4, true, true, 0, ifs, cn) ∧ ∀ l d, LawT (tkK B n) (tkV B n) d l t' → LawT (tkK B n) (tkV B n) d (brs ++ l) t0)) _ 401 (by decide) ⟨S, 0, rfl, oh_refl _ _ _, Or.inr ⟨t0, [], all, 0, Nat.zero_le _, Nat.le_refl _, by decide, rfl, by rw [List.append_nil]; exact h, by rw [List.append_nil]; exact hb, rfl, fun l d z => z⟩⟩ ?_ ?_
  · rintro k z hk ⟨Z, x3, rfl, o, ⟨f, fb⟩ | ⟨t', brs, all', ifs, h1, h2, h3, rfl, h4, h5, h6, h7⟩⟩
    · refine Or.inr ⟨.inl Z, ?_, o, Or.inl ⟨f, fb⟩⟩
      rw [L12_e, if_neg (flt_p f).2.1]
    · have hA := h4.1.1
      rw [L12_e, hA.1, if_pos rfl, show f_X6_is Z (28 : Int32) = _ from M_is hA 28 (by decide), bnd]
      by_cases c : tkK B n t' = 28
      · have hL' := inL_pt hL (p := 4) (i := ifs) (by decide) h3
        have hg : goQ (tel, sp, 4, true, true, 0, ifs, cn) (tkK B n t') = some (tel, sp, 1, true, true, 0, ifs + 1, cn) := by
          rw [gq_w hL', uBeg_e, if_pos ⟨c, rfl, rfl⟩]
        have h0 : tkK B n t' ≠ 0 := by rw [c]; decide
        rw [if_pos c, if_neg ne01]
        have hsd := h4.1.2.2.2.2.2
        have h400 := hA.2.2.1
        by_cases c4 : ifs = 4
        · subst c4
          obtain ⟨e, f⟩ := M_fail hA (k := 2) (Or.inr rfl)
          rw [if_pos (show nI 4 = (4 : Int32) from rfl), show f_X6_fail Z (2 : Int32) = _ from e, bnd, J38_e, if_neg (flt_p f).1]
          refine Or.inr ⟨_, rfl, oh_trans o (oh_ofS (by decide) (by decide) (upFl_on Z (nI 2) (nI (ps B n t')))), ?_⟩
          have hm5 : many (tel, sp, 1, true, true, 0, 4 + 1, cn) = true := decide_eq_true (Or.inr (Or.inl (show 4 < 4 + 1 by decide)))
          rw [h6, rn_e _ _ h400, if_neg h0, hg, aft_s, if_pos (Or.inr hm5)]
          exact f
        · have h3' : ifs + 1 ≤ 4 := by omega
          have hL1 := inL_pt hL (p := 1) (i := ifs + 1) (by decide) h3'
          rw [if_neg (show ¬ nI ifs = (4 : Int32) from nI_eq' (b := 4) (by omega) (by decide) c4), J38_e, hA.1, if_pos (Int32.le_refl _)]
          have hb0 : 130 * sd ≤ 130 * sd + (bl ++ brs).length := by omega
          have hb1 : 130 * sd + (bl ++ brs).length < 130 * sd + 130 := by omega
          rcases M_go hA (q := (tel, sp, 4, true, true, 0, ifs, cn)) h0 hg (inL_m hL1 true true (by decide) 1) with ⟨S1, a, b, d⟩ | ⟨a, b, d, e⟩
          · have u38 : st_I S1 (ky 0 38) = nI (130 * sd + (bl ++ brs).length) := by
              rw [(b _ (kM_n (by decide) (by decide) (by decide))).1]; exact h4.2.1
            obtain ⟨S2, e2, o2, f2, g38⟩ := M_T1F (sd := sd) d hsd hb0 hb1 u38 x1 x2 (nI ifs)
            rw [a, bnd, e2]
            refine Or.inl ⟨_, rfl, S2, _, rfl, oh_trans o (oh_trans (oh_ofS (by decide) (by decide) b) o2), Or.inl ⟨by rw [h6]; exact f2, _, ?_, ?_, g38⟩⟩
            · omega
            · omega
          · rw [b, bnd]
            obtain ⟨S2, e2, o2, g38, d2⟩ := M_T1 hL1 (EXs_up h4.1 (by omega) d) hb0 hb1 (show st_I (up_I Z (ky 0 11) (nI (t' + 1))) (ky 0 38) = _ from h4.2.1) x1 x2 (nI ifs)
            rw [e2, nI_1]
            refine Or.inl ⟨_, rfl, S2, _, rfl, oh_trans o (oh_trans (oh_I _ 11 _ (by decide)) o2), ?_⟩
            rcases d2 with f2 | ⟨dd, aa, cc, k1, k2, k3, k4, k5, k6, k7, k8, k9⟩
            · exact Or.inl ⟨by rw [h6, e]; exact f2, _, by omega, by omega, g38⟩
            · have hl : (bl ++ (brs ++ [(some (xo (tkK B n) (tkV B n) (t' + 1) dd, xo (tkK B n) (tkV B n) (dd + 1) aa), xo (tkK B n) (tkV B n) (aa + 1) cc)])).length = (bl ++ brs).length + 1 := by
                rw [← List.append_assoc, List.length_append]; rfl
              have z1 := k1.1
              have z2 := k3.1
              have z3 := k5.1
              refine Or.inr ⟨cc + 1, brs ++ [(some (xo (tkK B n) (tkV B n) (t' + 1) dd, xo (tkK B n) (tkV B n) (dd + 1) aa), xo (tkK B n) (tkV B n) (aa + 1) cc)], ((all' ++ xo (tkK B n) (tkV B n) (t' + 1) dd) ++ xo (tkK B n) (tkV B n) (dd + 1) aa) ++ xo (tkK B n) (tkV B n) (aa + 1) cc, ifs + 1, by omega, by omega, h3', rfl, ?_, ?_, by rw [h6, e, k8], fun l d hl => ?_⟩
              · rw [← List.append_assoc]
                exact LX_if (S := Z) h4 k7 g38 k9
              · rw [hl]; omega
              · rw [List.append_assoc]
                refine h7 _ _ ?_
                exact ⟨c, dd, aa, cc, k1, k2, k3, k4, k5, k6, rfl, rfl, rfl, hl⟩
      · rw [if_neg c, if_pos rfl]
        exact Or.inr ⟨_, rfl, o, Or.inr ⟨t', brs, all', ifs, h2, c, h3, h4, h5, h6, h7⟩⟩
  · rintro z ⟨Z, x3, rfl, o, ⟨f, fb⟩ | ⟨t', brs, all', ifs, h1, h2, h3, rfl, h4, h5, h6, h7⟩⟩
    · refine ⟨.inl Z, ?_, o, Or.inl ⟨f, fb⟩⟩
      rw [L12_e, if_neg (flt_p f).2.1]
    · exact absurd h4.1.1.2.2.1 (by omega)
/-- where the law is kept -/
def keptM (sd : Nat) (S S' : St) (x1 : Int32) (b b' : Nat) : Prop := (x1 = -1 ∧ st_A S' (ky 0 36) = st_A S (ky 0 36) ∧ st_A S' (ky 0 37) = st_A S (ky 0 37)) ∨ ∃ k, k < 7 ∧ x1 = nI k ∧ st_A S' (ky 0 36) = upd (st_A S (ky 0 36)) (7 * sd + k) (nI b) ∧ st_A S' (ky 0 37) = upd (st_A S (ky 0 37)) (7 * sd + k) (nI b')
theorem M_129F {S : St} {b : Nat} {c : Nat × Nat} (f : fltM B n S c) (hs : sd < 2) (hb0 : 130 * sd ≤ b) (hb : b < 130 * sd + 130) (h : st_I S (ky 0 38) = nI b) (x1 x2 : Int32) : ∃ S', f_X6_tellLaw_J129 S x1 x2 = some S' ∧ oh sd fsL2 S S' ∧ fltM B n S' c := by
  have hb2 : b < 260 := by omega
  have f1 : ∀ g, fltM B n (up_A S (ky 0 39) g) c := fun _ => f
  have h1 : ∀ g, st_I (up_A S (ky 0 39) g) (ky 0 38) = nI b := fun _ => h
  obtain ⟨S1, e1, o1, f2, g38⟩ := M_termF (sd := sd) (f1 (upd (st_A S (ky 0 39)) b (vp_nar .boolean (0 : Int32)))) hs hb0 hb (h1 _)
  unfold f_X6_tellLaw_J129
  rw [h, chk_t (ib_nI hb2 (by decide)), nI_clamp (by omega), lt_e, e1, bnd, M_mustF f2, bnd, if_pos (flt_p f2).2.2]
  exact ⟨S1, rfl, oh_trans (oh_U S 39 b _ (by decide) (by decide) hb0 hb) (oh_mono (by decide) o1), f2⟩
end EXS
