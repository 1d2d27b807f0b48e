/-! THE LOTS OF A MINUTE, both sides. -/
theorem C_lots {k kt : Nat} {S : St} {T : TX} {X : CT} (hT : tC kt S T) (h : cC k kt S T X) (x1 x3 : Int32) : ∃ S', iter (f_X0_goTo_L30 k x1 x3) FU ((0 : Int32), S) = some S' ∧ tC kt S' T ∧ cC k kt S' T (x_lots T (nI (tn T 5)) X (tn T 3)) ∧ on (kC k kt) S S' := by
  have hk := h.2.1
  have h8 := hT.1.2.2.2.1
  have hi := iter_invF (step := f_X0_goTo_L30 k x1 x3) (x := ((0 : Int32), S)) (fun i z => z.1 = nI i ∧ tC kt z.2 T ∧ cC k kt z.2 T (x_lots T (nI (tn T 5)) X i) ∧ on (kC k kt) S z.2) (fun S' => tC kt S' T ∧ cC k kt S' T (x_lots T (nI (tn T 5)) X (tn T 3)) ∧ on (kC k kt) S S') (tn T 3) (by omega) ⟨rfl, hT, h, on_refl _ _⟩ ?_ ?_
  · exact hi
  · rintro i ⟨j, z⟩ hlt ⟨rfl, zT, zC, zo⟩
    change tC kt z T at zT
    change cC k kt z T (x_lots T (nI (tn T 5)) X i) at zC
    change on (kC k kt) S z at zo
    left
    have ht := Nat.le_refl (cn (x_lots T (nI (tn T 5)) X i))
    have hb := C_broken zT zC hlt ht
    obtain ⟨S2, w1, w2, w3⟩ := C_breakNow zT zC hlt
    show ∃ y, f_X0_goTo_L30 k x1 x3 (nI i, z) = some (.inl y) ∧ _
    unfold f_X0_goTo_L30
    rw [chk_t (cC_T zT zC), zC.2.2.1, zT.2.2.1 3 (by decide), if_neg (show ¬ nI (tn T 3) ≤ nI i from nI_ge hlt (by omega)), zC.2.2.2.1, hb, Option.bind_some, zT.2.2.1 5 (by decide), C_breaksAt zT]
    by_cases c : s_brk (x_lots T (nI (tn T 5)) X i) i (cn (x_lots T (nI (tn T 5)) X i)) = true
    · rw [if_pos c, if_neg (by decide)]
      refine ⟨_, rfl, (nI_succ i).symm, zT, ?_, zo⟩
      rw [x_lots, if_pos c]
      exact zC
    · rw [if_neg c, if_pos rfl, chk_t zT.2.1, chk_t zT.2.1, Option.bind_some]
      by_cases d : s_bad T (nI (tn T 5)) (cn (x_lots T (nI (tn T 5)) X i)) i = true
      · rw [if_pos d, if_neg (by decide)]
        show ∃ y, (f_X0_breakNow k z (nI i)).bind _ = _ ∧ _
        rw [w1, Option.bind_some]
        refine ⟨_, rfl, (nI_succ i).symm, tC_kC hk zT w3, ?_, on_trans zo w3⟩
        rw [x_lots, if_neg c, if_pos d]
        exact w2
      · rw [if_neg d, if_pos rfl]
        refine ⟨_, rfl, (nI_succ i).symm, zT, ?_, zo⟩
        rw [x_lots, if_neg c, if_neg d]
        exact zC
  · rintro ⟨j, z⟩ ⟨rfl, zT, zC, zo⟩
    change tC kt z T at zT
    refine ⟨z, ?_, zT, zC, zo⟩
    change cC k kt z T (x_lots T (nI (tn T 5)) X (tn T 3)) at zC
    show f_X0_goTo_L30 k x1 x3 (nI (tn T 3), z) = _
    unfold f_X0_goTo_L30
    rw [chk_t (cC_T zT zC), zC.2.2.1, zT.2.2.1 3 (by decide), if_pos (show nI (tn T 3) ≤ nI (tn T 3) from nI_le (Nat.le_refl _) (by omega))]
