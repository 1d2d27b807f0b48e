/-! TOKENS: the class's kinds. -/
section TK
variable {B : Nat → Nat} {n : Nat} {S : St}
theorem C_kindOf (h : tpC B n S) (hw : wrdC S) {i : Nat} (hi : i < n) : ∃ v, f_X3_kindOf (ky 0 0) S (nI i) (nI (te B n i)) = some (ckd (kd B n i), up_J S (ky 1 6) v) ∧ (kd B n i = 1 → v = lN (codeB 32 (ltr B i (te B n i - i)))) ∧ (kd B n i = 2 → v = lN (dvl B i (te B n i - i))) := by
  have hn := h.1
  obtain ⟨b1, b2⟩ := te_b (B := B) hn hi
  have hB := h.2.1 i hi
  have esub : nI (te B n i) - nI i = nI (te B n i - i) := pk_sub (by omega)
  unfold f_X3_kindOf
  rw [tp_at h hi, bnd, lt_e, isl_C hB, bnd]
  cases hl : isl (B i) with
  | true =>
    rw [if_pos (show (true = true) from rfl), if_neg ne01]
    by_cases h8 : te B n i - i ≤ 8
    · have hL := te_l hi hl
      have e : kd B n i = wOf (ltr B i (te B n i - i)) := by
        unfold kd
        rw [if_pos hl, if_neg (by omega)]
      rw [esub, if_pos (show nI (te B n i - i) ≤ (8 : Int32) from nI_le (b := 8) h8 (by decide)), C_kindOfName h hw hi hl h8, bnd]
      refine ⟨lN (codeB 32 (ltr B i (te B n i - i))), by rw [e], fun _ => rfl, fun q => ?_⟩
      rw [e] at q
      have := wOf_le (ltr B i (te B n i - i))
      omega
    · have e : kd B n i = 3 := by
        unfold kd
        rw [if_pos hl, if_pos (by omega)]
      rw [esub, if_neg (show ¬ nI (te B n i - i) ≤ (8 : Int32) from nI_ge (a := 8) (by omega) (by omega)), e]
      exact ⟨0, rfl, fun q => absurd q (by decide), fun q => absurd q (by decide)⟩
  | false =>
    rw [if_neg (show ¬ (false = true) by decide), if_pos rfl, isd_C hB, bnd]
    cases hd : isd (B i) with
    | true =>
      rw [if_pos (show (true = true) from rfl), if_neg ne01]
      have hD := te_d hi hl hd
      by_cases h4 : te B n i - i ≤ 4
      · have e : kd B n i = 2 := by
          unfold kd
          rw [if_neg (by rw [hl]; decide), if_pos hd, if_neg (by omega)]
        rw [esub, if_pos (show nI (te B n i - i) ≤ (4 : Int32) from nI_le (b := 4) h4 (by decide)), e]
        refine ⟨lN (dvl B i (te B n i - i)), ?_, fun q => absurd q (by decide), fun _ => rfl⟩
        generalize te B n i = e at b1 b2 hD h4 ⊢
        refine iter_FU (fun t => ((nI (i + t), up_J S (ky 1 6) (lN (dvl B i t))) : Int32 × St)) (e - i) (by omega) ?_ ?_
        · intro t ht
          have hd2 := of_decide_eq_true (hD t ht)
          have h2 : tpC B n (up_J S (ky 1 6) (lN (dvl B i t))) := h
          have e2 : st_J (up_J S (ky 1 6) (lN (dvl B i t))) (ky 1 6) = lN (dvl B i t) := by rw [gJ_J, if_pos rfl]
          have e3 : dvl B i (t + 1) = dvl B i t * 10 + (B (i + t) - 48) := rfl
          show f_X3_kindOf_L78 _ _ (nI (i + t), up_J S (ky 1 6) (lN (dvl B i t))) = _
          unfold f_X3_kindOf_L78
          show (if nI e ≤ nI (i + t) then _ else (f_X5_at (ky 0 0) (up_J S (ky 1 6) (lN (dvl B i t))) (nI (i + t))).bind _) = _
          rw [if_neg (nI_ge (by omega) (by omega)), tp_at h2 (by omega), bnd]
          show lt_v (up_J (up_J S (ky 1 6) (lN (dvl B i t))) (ky 1 6) ((st_J (up_J S (ky 1 6) (lN (dvl B i t))) (ky 1 6)) * (10 : Int64) + (nI (B (i + t)) - (48 : Int32)).toInt64)) _ = _
          rw [e2, sub48 _ (h.2.1 _ (by omega)) hd2.1, lt_e, upJ_upJ, show lN (dvl B i t) * (10 : Int64) = lN (dvl B i t * 10) from lN_mul _ 10, lN_add, ← e3]
          show some (Sum.inl (nI (i + t) + 1, _)) = _
          rw [nI_1]
          rfl
        · show f_X3_kindOf_L78 _ _ (nI (i + (e - i)), _) = _
          unfold f_X3_kindOf_L78
          rw [if_pos (show nI e ≤ nI (i + (e - i)) from nI_le (by omega) (by omega))]
          rfl
      · have e : kd B n i = 3 := by
          unfold kd
          rw [if_neg (by rw [hl]; decide), if_pos hd, if_pos (by omega)]
        rw [esub, if_neg (show ¬ nI (te B n i - i) ≤ (4 : Int32) from nI_ge (a := 4) (by omega) (by omega)), e]
        exact ⟨0, rfl, fun q => absurd q (by decide), fun q => absurd q (by decide)⟩
    | false =>
      have e : kd B n i = sg (B i) := by
        unfold kd
        rw [if_neg (by rw [hl]; decide), if_neg (by rw [hd]; decide)]
      rw [if_neg (show ¬ (false = true) by decide), if_pos rfl]
      obtain ⟨q, h1, h2⟩ := sgn_C2 hB
      have h3 := sgn_le (B i) hB
      rw [h1, bnd, e]
      by_cases c : sg (B i) = 3
      · rw [if_pos (h2.mpr c), c]
        exact ⟨0, rfl, fun q => absurd q (by decide), fun q => absurd q (by decide)⟩
      · rw [if_neg (fun z => c (h2.mp z)), sgn_ck (B i) hB hl hd c]
        exact ⟨0, rfl, fun q => absurd q (by omega), fun q => absurd q (by omega)⟩
end TK
