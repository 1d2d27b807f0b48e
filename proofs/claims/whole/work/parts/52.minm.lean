/-! ONE MINUTE: the reference's. -/
theorem M_minuteGoes {s : Nat} {S : St} {T : TX} {X : CT} {sd : Int32} (hT : tM s S T) (h : cM 56 57 58 59 S T X) (hn : cn X < 299) (hsd : st_I S (ky 0 60) = sd) : ∃ S', f_X6_minuteGoes S = some S' ∧ tM s S' T ∧ cM 56 57 58 59 S' T (x_go T sd X) ∧ on (kM fsC) S S' := by
  have h6 := hT.1.2.2.1
  have h8 := hT.1.2.2.2.1
  have u1 : (36 : Int32) * nI (cn X) = nI (36 * cn X) := pk_mul 36 _
  have u2 : nI (36 * cn X) + (36 : Int32) = nI (36 * cn X + 36) := nI_add _ 36
  have hx : ∀ a, a < tn T 2 → s_next T X a < tn T 0 := fun a ha => s_step_lt hT.1 ((h.1.2.1 (cn X) (Nat.le_refl _)).1 a ha).1 _
  obtain ⟨S1, w1, T1, C1, o1, r1⟩ := loop_P (step := f_X6_minuteGoes_L15 (nI (36 * cn X)) (nI (36 * cn X + 36))) S (tn T 2) (fun z => z) (fun i z => tM s z T ∧ cM 56 57 58 59 z T X ∧ on (kM fsC) S z ∧ ∀ a, a < i → st_A z (ky 0 56) (36 * cn X + 36 + a) = nI (s_next T X a)) (by omega) ⟨hT, h, on_refl _ _, fun a ha => absurd ha (Nat.not_lt_zero _)⟩ (fun i z hi hz => by
    obtain ⟨zT, zC, zo, zr⟩ := hz
    obtain ⟨l1, l2⟩ := tM_live zT
    obtain ⟨f, g, x, hw⟩ := M_goesTo zT zC hi
    have oL := on_V z f g x
    have oA := on_A (K := kM fsC) (up_V z f g x) (ky 0 56) (upd (st_A (up_V z f g x) (ky 0 56)) (36 * cn X + 36 + i) (nI (s_next T X i))) ⟨56, by decide, rfl⟩
    have c2 := cM_fsL zC oL
    have t2 := tM_fsC zT (on_mono fsL_C oL)
    refine ⟨_, ?_, tM_fsC t2 oA, ?_, on_trans zo (on_trans (on_mono fsL_C oL) oA), ?_⟩
    · unfold f_X6_minuteGoes_L15
      rw [chk_t l1, l2, zT.2.2.2.1.2.2.1, if_neg (show ¬ nI (tn T 2) ≤ nI i from nI_ge hi (by omega)), hw, bnd, nI_add, chk_t (ib_nI (by omega) (by decide)), nI_clamp (by omega), ← nI_succ]
      rfl
    · refine mC_cg hT.1 (mC_of c2) (fun j hj => ?_) rfl (fun m hm => ?_) (fun m hm => ?_)
      · rw [gA_A, if_pos rfl, upd_n (by omega)]
      · rw [gA_A, if_neg (ky_ne (by decide) (by decide) (by omega))]
      · rw [gA_A, if_neg (ky_ne (by decide) (by decide) (by omega))]
    · intro a ha
      rw [gA_A, if_pos rfl, upd_e]
      by_cases e : 36 * cn X + 36 + a = 36 * cn X + 36 + i
      · rw [if_pos e, show a = i by omega]
      · rw [if_neg e, (oL _ (kM_n (by decide) (by decide) (by decide))).2.1]
        exact zr a (by omega)) (fun z hz => by
    obtain ⟨zT, zC, zo, zr⟩ := hz
    obtain ⟨l1, l2⟩ := tM_live zT
    unfold f_X6_minuteGoes_L15
    rw [chk_t l1, l2, zT.2.2.2.1.2.2.1, if_pos (show nI (tn T 2) ≤ nI (tn T 2) from nI_le (Nat.le_refl _) (by omega))])
  have w2 := fill_loop (step := f_X6_minuteGoes_L50 (nI (36 * cn X)) (nI (36 * cn X + 36))) S1 (ky 0 56) 6 28 (36 * cn X + 36) (fun i => st_A S1 (ky 0 56) (36 * cn X + i)) (fun z => z) (by decide) (by decide) (fun i A h1 h2 hA => by
    unfold f_X6_minuteGoes_L50
    rw [if_neg (show ¬ (28 : Int32) ≤ nI i from nI_ge (b := 28) h2 (by decide)), nI_add, nI_add, chk_t (ib_nI (by omega) (by decide)), chk_t (ib_nI (by omega) (by decide)), nI_clamp (by omega), nI_clamp (by omega), lt_e]
    show some (Sum.inl (nI i + 1, up_A (up_A S1 (ky 0 56) A) (ky 0 56) (upd (st_A (up_A S1 (ky 0 56) A) (ky 0 56)) (36 * cn X + 36 + i) (st_A (up_A S1 (ky 0 56) A) (ky 0 56) (36 * cn X + i))))) = _
    rw [upA_upA, gA_A, if_pos rfl, hA _ (by omega), nI_succ]) (fun A => by
    unfold f_X6_minuteGoes_L50
    rw [if_pos (show (28 : Int32) ≤ nI 28 from nI_le (Nat.le_refl 28) (by decide))])
  have oB : on (kM fsC) S1 (up_A S1 (ky 0 56) (fun j => if 36 * cn X + 36 + 6 ≤ j ∧ j < 36 * cn X + 36 + 28 then st_A S1 (ky 0 56) (36 * cn X + (j - (36 * cn X + 36))) else st_A S1 (ky 0 56) j)) := on_A S1 _ _ ⟨56, by decide, rfl⟩
  have hn1 : nI (cn X) + (1 : Int32) = nI (cn X + 1) := nI_1 _
  have oC := on_I (K := kM fsC) (up_A S1 (ky 0 56) (fun j => if 36 * cn X + 36 + 6 ≤ j ∧ j < 36 * cn X + 36 + 28 then st_A S1 (ky 0 56) (36 * cn X + (j - (36 * cn X + 36))) else st_A S1 (ky 0 56) j)) (ky 0 57) (nI (cn X + 1)) ⟨57, by decide, rfl⟩
  have T3 := tM_fsC (tM_fsC T1 oB) oC
  have C3 : cMp (fun t _ => t < cn (x_min T X (s_next T X))) 56 57 58 59 (up_I (up_A S1 (ky 0 56) (fun j => if 36 * cn X + 36 + 6 ≤ j ∧ j < 36 * cn X + 36 + 28 then st_A S1 (ky 0 56) (36 * cn X + (j - (36 * cn X + 36))) else st_A S1 (ky 0 56) j)) (ky 0 57) (nI (cn X + 1))) T (x_min T X (s_next T X)) := by
    refine ⟨cb_min h.1 hn hx, by rw [gI_I, if_pos rfl]; rfl, fun t ht => ?_, fun m hm => ?_⟩
    · rw [gA_I, gA_A, if_pos rfl]
      have ht' : t ≤ cn X + 1 := ht
      by_cases e : t = cn X + 1
      · subst e
        have g := C1.2.2.1 (cn X) (Nat.le_refl _)
        refine ⟨fun i hi => ⟨?_, ?_⟩, fun m hm => ⟨?_, ?_, fun q => ?_⟩⟩
        · show (if _ then _ else _) = _
          rw [if_neg (by omega), show 36 * (cn X + 1) + i = 36 * cn X + 36 + i by omega, r1 i hi]
          exact congrArg nI (x_row_0 X _ _ i).symm
        · show (if _ then _ else _) = _
          rw [if_pos (by omega), show 36 * cn X + (36 * (cn X + 1) + 6 + i - (36 * cn X + 36)) = 36 * cn X + 6 + i by omega, (g.1 i hi).2]
          exact congrArg nI (x_row_1 X _ _ i).symm
        · show (if _ then _ else _) = _
          rw [if_pos (by omega), show 36 * cn X + (36 * (cn X + 1) + 12 + m - (36 * cn X + 36)) = 36 * cn X + 12 + m by omega, (g.2 m hm).1]
          exact congrArg nI (x_row_2 X _ _ m).symm
        · show (if _ then _ else _) = _
          rw [if_pos (by omega), show 36 * cn X + (36 * (cn X + 1) + 20 + m - (36 * cn X + 36)) = 36 * cn X + 20 + m by omega, (g.2 m hm).2.1]
          have := x_row_w X (s_next T X) (fun m => s_late T (x_row X (s_next T X) (fun _ => 0)) m (cf X 1 (cn X) (tf T 5 m)))
          show _ = if cw (x_row X _ _) (cn X + 1) m then _ else _
          rw [this]
        · exact absurd q (Nat.lt_irrefl _)
      · have ht2 : t ≤ cn X := by omega
        have g := C1.2.2.1 t ht2
        refine ⟨fun i hi => ⟨?_, ?_⟩, fun m hm => ⟨?_, ?_, fun q => ?_⟩⟩
        · show (if _ then _ else _) = _
          rw [if_neg (by omega), (g.1 i hi).1]
          exact congrArg nI (x_row_o ht2 _ _).symm
        · show (if _ then _ else _) = _
          rw [if_neg (by omega), (g.1 i hi).2]
          exact congrArg nI (x_row_o ht2 _ _).symm
        · show (if _ then _ else _) = _
          rw [if_neg (by omega), (g.2 m hm).1]
          exact congrArg nI (x_row_o ht2 _ _).symm
        · show (if _ then _ else _) = _
          rw [if_neg (by omega), (g.2 m hm).2.1]
          show _ = if cw (x_row X _ _) t m then _ else _
          rw [x_row_wo ht2]
        · show (if _ then _ else _) = _
          rw [if_neg (by omega), (g.2 m hm).2.2 trivial]
          exact congrArg nI (x_row_o ht2 _ _).symm
    · rw [gA_I, gA_I, gA_A, if_neg (ky_ne (by decide) (by decide) (by omega)), gA_A, if_neg (ky_ne (by decide) (by decide) (by omega))]
      exact C1.2.2.2 m hm
  obtain ⟨S4, w4, T4, C4, o4⟩ := M_fillsLate T3 C3 (x_min_ok T X _)
  have hs4 : st_I S4 (ky 0 60) = sd := by
    rw [(o4 _ (kM_n (by decide) (by decide) (by decide))).1, (oC _ (kM_n (by decide) (by decide) (by decide))).1, (oB _ (kM_n (by decide) (by decide) (by decide))).1, (o1 _ (kM_n (by decide) (by decide) (by decide))).1]
    exact hsd
  obtain ⟨S5, w5, T5, C5, o5⟩ := M_lots T4 C4 hs4
  refine ⟨S5, ?_, T5, C5, on_trans o1 (on_trans oB (on_trans oC (on_trans o4 o5)))⟩
  unfold f_X6_minuteGoes
  rw [lt_e, h.2.1, u1, u2, w1, bnd]
  change (iter _ FU (nI 6, S1)).bind _ = _
  rw [w2, bnd, lt_e, gI_A, C1.2.1, hn1, w4, bnd, w5]
