/-! THE ROW OF LATENESS: the reference's loop. -/
theorem M_fillsLate {s : Nat} {S : St} {T : TX} {X : CT} (hT : tM s S T) (h : cMp (fun t _ => t < cn X) 56 57 58 59 S T X) (hl : okL T X) : ∃ S', f_X6_fillsLate S = some S' ∧ tM s S' T ∧ cM 56 57 58 59 S' T X ∧ on (kM fsC) S S' := by
  have h8 := hT.1.2.2.2.1
  have h1 := h.1.1
  have hi := iter_invF (step := f_X6_fillsLate_L2) (x := ((0 : Int32), S)) (fun i z => z.1 = nI i ∧ tM s z.2 T ∧ cMp (fun t m => t < cn X ∨ m < i) 56 57 58 59 z.2 T X ∧ on (kM fsC) S z.2) (fun S' => tM s S' T ∧ cM 56 57 58 59 S' T X ∧ on (kM fsC) S S') (tn T 3) (by omega) ⟨rfl, hT, cM_p h (fun t m _ _ q => by omega), on_refl _ _⟩ ?_ ?_
  · exact hi
  · rintro i ⟨j, z⟩ hlt ⟨rfl, zT, zC, zo⟩
    change tM s z T at zT
    change cMp _ 56 57 58 59 z T X at zC
    left
    obtain ⟨l1, l2⟩ := tM_live zT
    obtain ⟨f, g, x, hw⟩ := M_late zT zC (m := i) (rk := cf X 1 (cn X) (tf T 5 i)) hlt
    have oL := on_V z f g x
    have c2 := cM_fsL zC oL
    have t2 := tM_fsC zT (on_mono fsL_C oL)
    have c3 := M_putLate hT.1 c2 (t := cn X) (m := i) hlt
    rw [hl i hlt] at c3
    refine ⟨(nI (i + 1), up_A (up_V z f g x) (ky 0 56) (upd (st_A (up_V z f g x) (ky 0 56)) (36 * cn X + 28 + i) (nI (s_late T X i (cf X 1 (cn X) (tf T 5 i)))))), ?_, rfl, ?_, cM_p c3 (fun t m a b q => by omega), ?_⟩
    rotate_left
    · exact tM_fsC t2 (on_A _ (ky 0 56) _ ⟨56, by decide, rfl⟩)
    · exact on_trans zo (on_trans (on_mono fsL_C oL) (on_A _ (ky 0 56) _ ⟨56, by decide, rfl⟩))
    · have e28 : (36 : Int32) * nI (cn X) + 28 + nI i = nI (36 * cn X + 28 + i) := i36 (cn X) 28 i
      show f_X6_fillsLate_L2 (nI i, z) = _
      unfold f_X6_fillsLate_L2
      rw [chk_t l1, l2, zT.2.2.2.1.2.2.2.1, if_neg (show ¬ nI (tn T 3) ≤ nI i from nI_ge hlt (by omega)), M_owner zT zC hlt, Option.bind_some, hw, Option.bind_some, zC.2.1, e28, chk_t (ib_nI (by omega) (by decide)), nI_clamp (by omega), ← nI_succ]
      rfl
  · rintro ⟨j, z⟩ ⟨rfl, zT, zC, zo⟩
    change tM s z T at zT
    obtain ⟨l1, l2⟩ := tM_live zT
    refine ⟨z, ?_, zT, cM_p zC (fun t m _ b _ => Or.inr b), zo⟩
    show f_X6_fillsLate_L2 (nI (tn T 3), z) = _
    unfold f_X6_fillsLate_L2
    rw [chk_t l1, l2, zT.2.2.2.1.2.2.2.1, if_pos (show nI (tn T 3) ≤ nI (tn T 3) from nI_le (Nat.le_refl _) (by omega))]
