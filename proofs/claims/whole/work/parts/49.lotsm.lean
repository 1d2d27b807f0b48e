theorem s_brk_now {T : TX} {X : CT} (h : cb T X) {m : Nat} (hm : m < tn T 3) : s_brk X m (cn X) = true ↔ ck X m ≠ none := by
  unfold s_brk
  cases e : ck X m with
  | none => exact ⟨fun q => (by cases q), fun q => absurd rfl q⟩
  | some b => exact ⟨fun _ q => (by cases q), fun _ => decide_eq_true (h.2.2 m hm b e).1⟩
theorem bkM_none {T : TX} {X : CT} (h : cb T X) {m : Nat} (hm : m < tn T 3) : bkM (ck X m) = -1 ↔ ¬ s_brk X m (cn X) = true := by
  rw [s_brk_now h hm]
  have h1 := h.1
  cases e : ck X m with
  | none => exact ⟨fun _ q => q rfl, fun _ => rfl⟩
  | some b =>
    have := (h.2.2 m hm b e).1
    exact ⟨fun q => absurd q (nI_m1 (by omega)), fun q => absurd (fun q' => (by cases q')) q⟩
theorem M_lots {s : Nat} {S : St} {T : TX} {X : CT} {sd : Int32} (hT : tM s S T) (h : cM 56 57 58 59 S T X) (hsd : st_I S (ky 0 60) = sd) : ∃ S', iter f_X6_minuteGoes_L94 FU ((0 : Int32), S) = some S' ∧ tM s S' T ∧ cM 56 57 58 59 S' T (x_lots T sd X (tn T 3)) ∧ on (kM fsC) S S' := by
  have h8 := hT.1.2.2.2.1
  have hi := iter_invF (step := f_X6_minuteGoes_L94) (x := ((0 : Int32), S)) (fun i z => z.1 = nI i ∧ tM s z.2 T ∧ cM 56 57 58 59 z.2 T (x_lots T sd X i) ∧ on (kM fsC) S z.2) (fun S' => tM s S' T ∧ cM 56 57 58 59 S' T (x_lots T sd X (tn T 3)) ∧ on (kM fsC) S S') (tn T 3) (by omega) ⟨rfl, hT, h, on_refl _ _⟩ ?_ ?_
  · exact hi
  · rintro i ⟨j, z⟩ hlt ⟨rfl, zT, zC, zo⟩
    change tM s z T at zT
    change cM 56 57 58 59 z T (x_lots T sd X i) at zC
    change on (kM fsC) S z at zo
    left
    obtain ⟨l1, l2⟩ := tM_live zT
    obtain ⟨S2, w1, w2, w3⟩ := M_breaksNow zT zC hlt
    have hz : st_I z (ky 0 60) = sd := ((zo _ (kM_n (by decide) (by decide) (by decide))).1).trans hsd
    have hk := (zC.2.2.2 i hlt).1
    have hn := bkM_none zC.1 hlt
    show ∃ y, f_X6_minuteGoes_L94 (nI i, z) = some (.inl y) ∧ _
    unfold f_X6_minuteGoes_L94
    rw [chk_t l1, l2, zT.2.2.2.1.2.2.2.1, if_neg (show ¬ nI (tn T 3) ≤ nI i from nI_ge hlt (by omega)), chk_t (ib_nI (by omega) (by decide)), nI_clamp (by omega), hk]
    by_cases c : s_brk (x_lots T sd X i) i (cn (x_lots T sd X i)) = true
    · rw [if_neg (fun e => hn.mp e c)]
      refine ⟨_, rfl, (nI_succ i).symm, zT, ?_, zo⟩
      rw [x_lots, if_pos c]
      exact zC
    · rw [if_pos (hn.mpr c), M_lotOf zC, Option.bind_some, chk_t l1, zT.2.2.2.1.2.2.2.2.1, hz]
      by_cases d : nI (tn T 4) ≤ i_rem (s_rnd sd (nI (8 * cn (x_lots T sd X i) + i))) (100 : Int32)
      · have d' : ¬ s_bad T sd (cn (x_lots T sd X i)) i = true := fun q => (of_decide_eq_true q) d
        rw [if_pos d]
        refine ⟨_, rfl, (nI_succ i).symm, zT, ?_, zo⟩
        rw [x_lots, if_neg c, if_neg d']
        exact zC
      · have d' : s_bad T sd (cn (x_lots T sd X i)) i = true := decide_eq_true d
        rw [if_neg d]
        show ∃ y, (f_X6_breaksNow z (nI i)).bind _ = _ ∧ _
        rw [w1, Option.bind_some]
        refine ⟨_, rfl, (nI_succ i).symm, tM_fsC zT w3, ?_, on_trans zo w3⟩
        rw [x_lots, if_neg c, if_pos d']
        exact w2
  · rintro ⟨j, z⟩ ⟨rfl, zT, zC, zo⟩
    change tM s z T at zT
    change cM 56 57 58 59 z T (x_lots T sd X (tn T 3)) at zC
    obtain ⟨l1, l2⟩ := tM_live zT
    refine ⟨z, ?_, zT, zC, zo⟩
    show f_X6_minuteGoes_L94 (nI (tn T 3), z) = _
    unfold f_X6_minuteGoes_L94
    rw [chk_t l1, l2, zT.2.2.2.1.2.2.2.1, if_pos (show nI (tn T 3) ≤ nI (tn T 3) from nI_le (Nat.le_refl _) (by omega))]
