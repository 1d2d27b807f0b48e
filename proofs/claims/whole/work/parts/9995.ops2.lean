/-! THE REFERENCE'S SMALL STEPS: a known name, a number. -/
section OPS
variable {B : Nat → Nat} {n : Nat} {r0 : Nat × Nat}
theorem op_known {S : St} {t N s : Nat} {q q' : QS} {w : Option (Nat × Nat)} {E : Prop} {nl : NL} (hn : n ≤ 2000) (h : FO B n r0 S t q w E) (hN : NMS S N nl) (hs : s < 3) (h0 : q.1 ≠ 0) (hg : ∀ j, j ≠ 0 → goQ q j = if j = 1 then some q' else none) (hm : many q' = false) : ∃ x S', f_X6_known S (nI s) = some (x, S') ∧ on (kM fsWr) S S' ∧ (x = -1 ∨ s = 1 → x = -1 ∨ ∃ k, k < 6 ∧ x = nI k) ∧ FO B n r0 S' (t + 1) q' (ow w (lkF N nl (tkL B n t) s t)) ((E ∧ tkK B n t = 1) ∧ x = bkM (lk N nl (tkL B n t) s)) := by
  have e11 : fltM B n S r0 ∨ st_I S (ky 0 11) = nI t := h.elim Or.inl (fun z => Or.inr z.2.1.2.1)
  have hl0 : fltM B n S r0 ∨ ∀ a, w = some a → a.2 < t := h.elim Or.inl (fun z => Or.inr z.2.2.2.2)
  obtain ⟨S1, e1, o1, d1⟩ := op_must h (by decide) (by decide) h0 hg hm
  have hN1 := NMS_on hN (by decide) o1
  have hN22 := hN.2.1
  unfold f_X6_known
  rw [show f_X6_must S (1 : Int32) = _ from e1, bnd]
  rcases d1 with f | ⟨⟨e, k1⟩, a, r, sw, l⟩
  · rw [if_neg (flt_p f).1]
    exact ⟨_, _, rfl, on_W o1, fun _ => Or.inl rfl, Or.inl f⟩
  have nf : ¬ fltM B n S r0 := fun f => by
    have e2 : f_X6_must S (nI 1) = some S := M_mustF f _
    rw [e1] at e2
    have e3 := Option.some.inj e2
    rw [e3] at a
    exact (flt_p f).2.1 a.1
  have e11' := e11.resolve_left nf
  have hl := hl0.resolve_left nf
  have hz : ∀ v, v ≤ t → tkK B n v ≠ 0 := fun v hv => a.2.2.2.1 v (by omega)
  have ht4 : t ≤ 400 := by have := a.2.2.1; omega
  rw [a.1, if_pos (Int32.le_refl _), e11']
  have e8 : st_L S1 (ky 0 8) t = lN (codeB 27 (tkL B n t)) := (a.2.2.2.2.2 t ht4 (fun v hv => hz v (by omega))).2.2.2 k1
  have lp : iter (f_X6_known_L21 S1 (nI s) (nI t)) FU (0 : Int32) = some (match lkN N nl (tkL B n t) s with
      | none => .inl ()
      | some j => .inr (st_A S1 (ky 0 23) j, S1)) := by
    have := up_find (step := f_X6_known_L21 S1 (nI s) (nI t)) (fun k => nI k) (fun j => decide ((nl j).1 = tkL B n t ∧ (nl j).2.1 = s)) (fun j => (.inr (st_A S1 (ky 0 23) j, S1) : Unit ⊕ (Int32 × St))) (.inl ()) N (by omega) (fun k hk _ => ?_) (fun _ => ?_)
    · exact this
    · obtain ⟨x21, xv, x22, x23, x3, x8, x6⟩ := hN1.2.2 k hk
      unfold f_X6_known_L21
      rw [hN1.1, if_neg (nI_ge hk (by omega)), chk_t (ib_nI (by omega) (by decide)), chk_t (ib_nI (by omega) (by decide)), nI_clamp (by omega), nI_clamp (by omega), x21, e8]
      by_cases c : (nl k).1 = tkL B n t
      · rw [if_pos ((code_eq (by decide) (by decide) xv (tk_vL k1)).mpr c), chk_t (ib_nI (by omega) (by decide)), x22]
        by_cases c2 : (nl k).2.1 = s
        · rw [if_pos (by rw [c2]), chk_t (ib_nI (by omega) (by decide)), if_pos (decide_eq_true ⟨c, c2⟩)]
        · rw [if_neg (nI_eq' (by omega) (by omega) c2), if_neg (by rw [decide_eq_false (fun z => c2 z.2)]; decide), nI_1]
      · rw [if_neg (fun z => c ((code_eq (by decide) (by decide) xv (tk_vL k1)).mp z)), if_neg (by rw [decide_eq_false (fun z => c z.1)]; decide), nI_1]
    · unfold f_X6_known_L21
      rw [hN1.1, if_pos (Int32.le_refl _)]
  rw [lp, bnd]
  cases hk : lkN N nl (tkL B n t) s with
  | none =>
    obtain ⟨S2, e2, o2, s2⟩ := M_wrong hn a.1 a.2.2.2.2 ht4 hz sw (fun x hx => Or.inl (hl x hx)) (show 3 ≤ 4 ∧ 4 ≤ 5 by decide)
    show ∃ x S', (f_X6_wrong S1 (4 : Int32) (nI t)).bind (fun (q6 : St) => some ((-1 : Int32), q6)) = some (x, S') ∧ _
    rw [show f_X6_wrong S1 (4 : Int32) (nI t) = _ from e2, bnd]
    have eF : lkF N nl (tkL B n t) s t = some (4, t) := by unfold lkF; rw [hk]; rfl
    have eK : lk N nl (tkL B n t) s = none := by unfold lk; rw [hk]
    refine ⟨_, _, rfl, on_trans (on_W o1) (kM_mono (by decide) o2), fun _ => Or.inl rfl, Or.inr ⟨⟨⟨e, k1⟩, ?_⟩, atM_on (by decide) a o2, r, ?_, ?_⟩⟩
    · rw [eK]; rfl
    · rw [eF]; exact s2
    · rw [eF]
      intro x hx
      cases w with
      | some y =>
        have hy : y = x := Option.some.inj hx
        rw [← hy]
        exact l y rfl
      | none =>
        cases hx
        exact Nat.lt_succ_self t
  | some j =>
    obtain ⟨hj, hp⟩ := s_fst_lt hk
    have hp2 := of_decide_eq_true hp
    obtain ⟨x21, xv, x22, x23, x3, x8, x6⟩ := hN1.2.2 j hj
    have eF : lkF N nl (tkL B n t) s t = none := by unfold lkF; rw [hk]; rfl
    have eK : lk N nl (tkL B n t) s = some (nl j).2.2 := by unfold lk; rw [hk]
    refine ⟨_, _, rfl, on_W o1, fun z => Or.inr ⟨(nl j).2.2, ?_, x23⟩, Or.inr ⟨⟨⟨e, k1⟩, ?_⟩, a, r, ?_, ?_⟩⟩
    · rcases z with z | z
      · rw [x23] at z
        exact absurd z (by
          intro z2
          have h1 : ¬ nI (nl j).2.2 < 0 := nI_pos (by omega)
          rw [z2] at h1
          exact h1 (by decide))
      · exact x6 (by rw [hp2.2]; exact z)
    · rw [eK]; exact x23
    · rw [eF, ow_N]; exact sw
    · rw [eF, ow_N]; exact l
theorem bdd15F {S : St} {c : Nat × Nat} (f : fltM B n S c) (x1 : Int32) : f_X6_bounded_J15 S x1 = some (x1, S) := by
  unfold f_X6_bounded_J15
  rw [M_failF f, bnd]
theorem op_bounded {S : St} {t m : Nat} {q q' : QS} {w : Option (Nat × Nat)} {E : Prop} (hn : n ≤ 2000) (h : FO B n r0 S t q w E) (hm9 : m < 10000) (h0 : q.1 ≠ 0) (hg : ∀ j, j ≠ 0 → goQ q j = if j = 2 then some q' else none) (hm : many q' = false) : ∃ x S', f_X6_bounded S (0 : Int32) (nI m) = some (x, S') ∧ on (kM fsWr) S S' ∧ FO B n r0 S' (t + 1) q' (ow w (numF m (tkV B n t) t)) ((E ∧ tkK B n t = 2) ∧ x = nI (tkV B n t)) := by
  unfold f_X6_bounded
  rcases h with f | ⟨e, a, r, s, l⟩
  · rw [if_pos (flt_p f).2.2, bdd15F f]
    exact ⟨_, _, rfl, on_refl _ _, Or.inl f⟩
  rw [a.1, if_neg (show ¬ (0 : Int32) < 0 by decide), show f_X6_is S (2 : Int32) = _ from M_is a 2 (by decide), bnd]
  have ht4 := a.2.2.1
  by_cases c : tkK B n t = 2
  · have hv := tkV_4 c
    have hne : tkK B n t ≠ 0 := by rw [c]; decide
    have hz : ∀ v, v ≤ t → tkK B n v ≠ 0 := fun v hv => by
      by_cases q : v = t
      · rw [q]; exact hne
      · exact a.2.2.2.1 v (by omega)
    rw [if_pos c, if_neg ne01, chk_t (at_ib a), a.2.1, nI_clamp (by omega), (at_tok a).2.2.1 c, lt_e, if_neg (nI_pos (by omega))]
    have j51 : ∀ (Z : St) (w' : Option (Nat × Nat)), atM B n Z t → wst B n Z w' → (∀ x, w' = some x → x.2 < t + 1) → ∃ x S', f_X6_bounded_J51 Z (nI (tkV B n t)) = some (x, S') ∧ on (kM fsS) Z S' ∧ FO B n r0 S' (t + 1) q' w' ((E ∧ tkK B n t = 2) ∧ x = nI (tkV B n t)) := by
      intro Z w' aZ sZ lZ
      unfold f_X6_bounded_J51
      rcases M_go aZ (q := q) hne (by rw [hg _ hne, if_pos c]) hm with ⟨S', a1, b1, d1⟩ | ⟨a1, b1, d1, e1⟩
      · rw [a1, bnd]
        exact ⟨_, _, rfl, b1, Or.inl (by rw [r]; exact d1)⟩
      · rw [b1, bnd]
        exact ⟨_, _, rfl, on_I _ _ _ ⟨11, by decide, rfl⟩, Or.inr ⟨⟨⟨e, c⟩, rfl⟩, d1, by rw [r, e1], wst_on (fs := [11]) sZ (by decide) (on_I _ _ _ ⟨11, by decide, rfl⟩), lZ⟩⟩
    by_cases c2 : tkV B n t ≤ m
    · rw [if_pos (nI_le c2 (by omega))]
      have eF : numF m (tkV B n t) t = none := if_neg (by omega)
      rw [eF, ow_N]
      obtain ⟨x, S', e1, o1, d1⟩ := j51 S w a s (fun x hx => by have := l x hx; omega)
      exact ⟨x, S', e1, on_W o1, d1⟩
    · rw [if_neg (nI_ge (by omega) (by omega))]
      have eF : numF m (tkV B n t) t = some (5, t) := if_pos (by omega)
      rw [eF]
      obtain ⟨S2, e2, o2, s2⟩ := M_wrong hn a.1 a.2.2.2.2 ht4 hz s (fun x hx => Or.inl (l x hx)) (show 3 ≤ 5 ∧ 5 ≤ 5 by decide)
      unfold f_X6_bounded_J42
      rw [a.2.1, show f_X6_wrong S (5 : Int32) (nI t) = _ from e2, bnd]
      obtain ⟨x, S', e1, o1, d1⟩ := j51 S2 _ (atM_on (by decide) a o2) s2 (fun x hx => by
        cases w with
        | some y =>
          have hy : y = x := Option.some.inj hx
          have := l y rfl
          rw [← hy]
          omega
        | none =>
          cases hx
          exact Nat.lt_succ_self t)
      exact ⟨x, S', e1, on_trans (kM_mono (by decide) o2) (on_W o1), d1⟩
  · rw [if_neg c, if_pos rfl]
    obtain ⟨e1, f⟩ := M_fail a (k := 1) (Or.inl rfl)
    unfold f_X6_bounded_J15
    rw [show f_X6_fail S (1 : Int32) = _ from e1, bnd]
    refine ⟨_, _, rfl, on_W (upFl_on _ _ _), Or.inl ?_⟩
    rw [r, rn_no a h0 (fun z => by rw [hg _ z, if_neg c])]
    exact f
end OPS
