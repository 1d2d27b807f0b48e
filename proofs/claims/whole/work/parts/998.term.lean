/-! THE REFERENCE READS A TERM. -/
abbrev fsTm : List Nat := [11, 12, 13, 14, 38, 42, 43, 44, 45, 46, 47, 48]
section EXS
variable {B : Nat → Nat} {n sd tel sp pt ifs : Nat} {cn : Nat → Nat} {pre : List (Nat × Nat)}
def upTm (S : St) (b : Nat) (x : Int32) : St := up_I (up_A S (ky 0 43) (upd (st_A S (ky 0 43)) b x)) (ky 0 38) (nI (b + 1))
theorem upTm_oh (S : St) (b : Nat) (x : Int32) (h1 : 130 * sd ≤ b) (h2 : b < 130 * sd + 130) : oh sd fsTm S (upTm S b x) := oh_trans (oh_U S 43 b x (by decide) (by decide) h1 h2) (oh_I _ 38 _ (by decide))
theorem M_term24 {S : St} {b : Nat} (hb : b < 260) (h : st_I S (ky 0 38) = nI b) : f_X6_term_J24 S = some (upTm S b (st_I S (ky 0 44))) := by
  unfold f_X6_term_J24
  have h1 : ∀ f, st_I (up_A S (ky 0 43) f) (ky 0 38) = nI b := fun _ => h
  rw [h, chk_t (ib_nI hb (by decide)), nI_clamp (by omega), lt_e, h1, nI_1, lt_e]
  rfl
theorem M_termF {S : St} {b : Nat} {c : Nat × Nat} (f : fltM B n S c) (hs : sd < 2) (hb0 : 130 * sd ≤ b) (hb : b < 130 * sd + 130) (h : st_I S (ky 0 38) = nI b) : ∃ S', f_X6_term S = some S' ∧ oh sd fsTm S S' ∧ fltM B n S' c ∧ st_I S' (ky 0 38) = nI (b + 1) := by
  have hb2 : b < 260 := by omega
  have h1 : ∀ f, st_I (up_A S (ky 0 42) f) (ky 0 38) = nI b := fun _ => h
  have f1 : ∀ g, fltM B n (up_A S (ky 0 42) g) c := fun _ => f
  unfold f_X6_term
  rw [h, chk_t (ib_nI hb2 (by decide)), nI_clamp (by omega), lt_e, if_neg (flt_p (f1 _)).2.1, M_term24 hb2 (h1 _)]
  exact ⟨_, rfl, oh_trans (oh_U S 42 b _ (by decide) (by decide) hb0 hb) (upTm_oh _ _ _ hb0 hb), ⟨f.1, f.2.1, f.2.2⟩, rfl⟩
theorem M_term {S : St} {t b : Nat} {fr : Bool} (hL : inL tel sp pt ifs cn) (hA : atM B n S t) (h12 : st_I S (ky 0 12) = 0) (h44 : st_I S (ky 0 44) = nI (420 * sd + pre.length)) (hc : cds (st_A S (ky 0 45)) (st_A S (ky 0 46)) (420 * sd) pre) (hb : pre.length ≤ t ∧ sd < 2) (hf : pt = 4 ∧ fr = true → tkK B n t ≠ 28) (hb0 : 130 * sd ≤ b) (hb2 : b < 130 * sd + 130) (h38 : st_I S (ky 0 38) = nI b) : ∃ S', f_X6_term S = some S' ∧ oh sd fsTm S S' ∧ st_I S' (ky 0 38) = nI (b + 1) ∧ (fltM B n S' (rn (tkK B n) t (tel, sp, pt, true, fr, 0, ifs, cn)) ∨ ∃ t', exDone B n sd pre t t' S' ∧ rn (tkK B n) t (tel, sp, pt, true, fr, 0, ifs, cn) = rn (tkK B n) t' (tel, sp, pt, false, false, 0, ifs, cn) ∧ st_A S' (ky 0 42) = upd (st_A S (ky 0 42)) b (nI (420 * sd + pre.length)) ∧ st_A S' (ky 0 43) = upd (st_A S (ky 0 43)) b (nI (420 * sd + (pre ++ xo (tkK B n) (tkV B n) t t').length))) := by
  have hb3 : b < 260 := by omega
  have h1 : ∀ f, st_I (up_A S (ky 0 42) f) (ky 0 38) = nI b := fun _ => h38
  have hA1 : ∀ g, atM B n (up_A S (ky 0 42) g) t := fun _ => hA
  have o1 : oh sd fsTm S (up_A S (ky 0 42) (upd (st_A S (ky 0 42)) b (nI (420 * sd + pre.length)))) := oh_U S 42 b _ (by decide) (by decide) hb0 hb2
  unfold f_X6_term
  rw [h38, chk_t (ib_nI hb3 (by decide)), nI_clamp (by omega), h44, lt_e, if_pos (hA1 _).1]
  obtain ⟨S1, e, o, d⟩ := M_expression (pre := pre) (sd := sd) (fr := fr) (S := up_A S (ky 0 42) (upd (st_A S (ky 0 42)) b (nI (420 * sd + pre.length)))) hL (hA1 _) h12 h44 hc hb hf
  have e38 : st_I S1 (ky 0 38) = nI b := by
    rw [(o.1 _ (kM_n (by decide) (by decide) (by decide))).1]; exact h38
  rw [e, bnd, M_term24 hb3 e38]
  refine ⟨_, rfl, oh_trans o1 (oh_trans (oh_mono (by decide) o) (upTm_oh _ _ _ hb0 hb2)), rfl, ?_⟩
  rcases d with f | ⟨t', d1, d2⟩
  · exact Or.inl ⟨f.1, f.2.1, f.2.2⟩
  · refine Or.inr ⟨t', ?_, d2, ?_, ?_⟩
    · obtain ⟨a1, a2, a3, a4, a5, a6⟩ := d1
      exact ⟨a1, a2, a3, a4, a5, a6⟩
    · show st_A S1 (ky 0 42) = _
      rw [(o.1 _ (kM_n (by decide) (by decide) (by decide))).2.1, gAs]
    · show upd (st_A S1 (ky 0 43)) b (st_I S1 (ky 0 44)) = _
      rw [(o.1 _ (kM_n (by decide) (by decide) (by decide))).2.1, d1.2.2.2.1]
      rfl
end EXS
