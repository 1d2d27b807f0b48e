/-! TOKENS: the reference's, all. -/
theorem sg_ge (c : Nat) : 3 ≤ sg c := by
  unfold sg
  repeat' split
  all_goals omega
theorem kd_pos (B : Nat → Nat) (n i : Nat) : kd B n i ≠ 0 := by
  unfold kd
  have h1 := wOf_le (ltr B i (te B n i - i))
  have h2 := sg_ge (B i)
  repeat' split
  all_goals omega
/-- one token kept, the c-th -/
def upTk (S : St) (c : Nat) (x1 x2 x3 : Int32) (x4 : Int64) : St := up_I (up_L (up_A (up_A (up_A S (ky 0 5) (upd (st_A S (ky 0 5)) c x1)) (ky 0 6) (upd (st_A S (ky 0 6)) c x2)) (ky 0 7) (upd (st_A S (ky 0 7)) c x3)) (ky 0 8) (vp_updL (st_L S (ky 0 8)) c x4)) (ky 0 10) (nI (c + 1))
theorem M_token {S : St} {c : Nat} (hc : c < 403) (h : st_I S (ky 0 10) = nI c) (x1 x2 x3 : Int32) (x4 : Int64) : f_X6_token S x1 x2 x3 x4 = some (upTk S c x1 x2 x3 x4) := by
  have hi : ib (nI c) 403 := ib_nI hc (by decide)
  have h1 : ∀ f, st_I (up_A S (ky 0 5) f) (ky 0 10) = nI c := fun _ => h
  have h2 : ∀ f g, st_I (up_A (up_A S (ky 0 5) f) (ky 0 6) g) (ky 0 10) = nI c := fun _ _ => h
  have h3 : ∀ f g k, st_I (up_A (up_A (up_A S (ky 0 5) f) (ky 0 6) g) (ky 0 7) k) (ky 0 10) = nI c := fun _ _ _ => h
  have h4 : ∀ f g k m, st_I (up_L (up_A (up_A (up_A S (ky 0 5) f) (ky 0 6) g) (ky 0 7) k) (ky 0 8) m) (ky 0 10) = nI c := fun _ _ _ _ => h
  have hc2 : (nI c).toNatClampNeg = c := nI_clamp (by omega)
  unfold f_X6_token
  rw [h, chk_t hi, hc2, lt_e, h1, chk_t hi, hc2, lt_e, h2, chk_t hi, hc2, lt_e, h3, chk_t hi, hc2, lt_e, h4, nI_1, lt_e]
  rfl
theorem upTk_on (S : St) (c : Nat) (x1 x2 x3 : Int32) (x4 : Int64) : on (kM fsCut) S (upTk S c x1 x2 x3 x4) := on_trans (on_trans (on_trans (on_trans (on_A S _ _ ⟨5, by decide, rfl⟩) (on_A _ _ _ ⟨6, by decide, rfl⟩)) (on_A _ _ _ ⟨7, by decide, rfl⟩)) (on_L _ _ _ ⟨8, by decide, rfl⟩)) (on_I _ _ _ ⟨10, by decide, rfl⟩)
theorem upTk_5 (S : St) (c : Nat) (x1 x2 x3 : Int32) (x4 : Int64) : st_A (upTk S c x1 x2 x3 x4) (ky 0 5) = upd (st_A S (ky 0 5)) c x1 := rfl
theorem upTk_6 (S : St) (c : Nat) (x1 x2 x3 : Int32) (x4 : Int64) : st_A (upTk S c x1 x2 x3 x4) (ky 0 6) = upd (st_A S (ky 0 6)) c x2 := rfl
theorem upTk_7 (S : St) (c : Nat) (x1 x2 x3 : Int32) (x4 : Int64) : st_A (upTk S c x1 x2 x3 x4) (ky 0 7) = upd (st_A S (ky 0 7)) c x3 := rfl
theorem upTk_8 (S : St) (c : Nat) (x1 x2 x3 : Int32) (x4 : Int64) : st_L (upTk S c x1 x2 x3 x4) (ky 0 8) = vp_updL (st_L S (ky 0 8)) c x4 := rfl
theorem upTk_10 (S : St) (c : Nat) (x1 x2 x3 : Int32) (x4 : Int64) : st_I (upTk S c x1 x2 x3 x4) (ky 0 10) = nI (c + 1) := rfl
theorem upTk_n {B : Nat → Nat} {n : Nat} (S : St) (c : Nat) (x1 x2 x3 : Int32) (x4 : Int64) {t : Nat} (ht : t < c) (h : tokM B n S t) : tokM B n (upTk S c x1 x2 x3 x4) t := by
  unfold tokM
  rw [upTk_5, upTk_6, upTk_7, upTk_8, upd_n (by omega), upd_n (by omega), upd_n (by omega), pk_uLn (by omega)]
  exact h
theorem upTk_s {B : Nat → Nat} {n : Nat} (S : St) (c : Nat) {x1 x2 x3 : Int32} {x4 : Int64} (h1 : x1 = nI (tkK B n c)) (h2 : x2 = nI (ps B n c)) (h3 : tkK B n c = 2 → x3 = nI (tkV B n c)) (h4 : tkK B n c = 1 → x4 = lN (codeB 27 (tkL B n c))) : tokM B n (upTk S c x1 x2 x3 x4) c := by
  unfold tokM
  rw [upTk_5, upTk_6, upTk_7, upTk_8, upd_s, upd_s, upd_s, pk_uLs]
  exact ⟨h1, h2, h3, h4⟩
theorem M_sign {S : St} {c b : Nat} (hc : c < 403) (h : st_I S (ky 0 10) = nI c) (x1 x3 : Int32) (hb : b < 256) : f_X6_sign S x1 (nI b) x3 = some (1, upTk S c (nI (sg b)) x1 0 0) := by
  have e : ∀ k : Nat, f_X6_sign_J95 S x1 (nI k) = some (1, upTk S c (nI k) x1 0 0) := fun k => by
    unfold f_X6_sign_J95
    rw [M_token hc h, bnd]
  have ne : ∀ k : Nat, k < 256 → b ≠ k → ¬ nI b = nI k := fun k hk q => nI_eq' (by omega) (by omega) q
  rw [← e]
  by_cases q1 : b = 59
  · subst q1; rfl
  by_cases q2 : b = 61
  · subst q2; rfl
  by_cases q3 : b = 40
  · subst q3; rfl
  by_cases q4 : b = 41
  · subst q4; rfl
  by_cases q5 : b = 43
  · subst q5; rfl
  by_cases q6 : b = 45
  · subst q6; rfl
  by_cases q7 : b = 42
  · subst q7; rfl
  by_cases q8 : b = 47
  · subst q8; rfl
  by_cases q9 : b = 60
  · subst q9; rfl
  have e3 : sg b = 3 := by
    unfold sg
    rw [if_neg q1, if_neg q2, if_neg q3, if_neg q4, if_neg q5, if_neg q6, if_neg q7, if_neg q8, if_neg q9]
  rw [e3]
  unfold f_X6_sign
  rw [if_neg (show ¬ nI b = (59 : Int32) from ne 59 (by decide) q1), if_neg (show ¬ nI b = (61 : Int32) from ne 61 (by decide) q2), if_neg (show ¬ nI b = (40 : Int32) from ne 40 (by decide) q3), if_neg (show ¬ nI b = (41 : Int32) from ne 41 (by decide) q4)]
  unfold f_X6_sign_J43
  rw [if_neg (show ¬ nI b = (43 : Int32) from ne 43 (by decide) q5)]
  unfold f_X6_sign_J55
  rw [if_neg (show ¬ nI b = (45 : Int32) from ne 45 (by decide) q6)]
  unfold f_X6_sign_J65
  rw [if_neg (show ¬ nI b = (42 : Int32) from ne 42 (by decide) q7)]
  unfold f_X6_sign_J75
  rw [if_neg (show ¬ nI b = (47 : Int32) from ne 47 (by decide) q8)]
  unfold f_X6_sign_J85
  rw [if_neg (show ¬ nI b = (60 : Int32) from ne 60 (by decide) q9)]
  rfl
section TM
variable {B : Nat → Nat} {n : Nat} {S : St}
theorem M_cutStep (h : tpM B n S) (hw : wrdM S) {i c : Nat} (hi : i < n) (hb : bk (B i) = false) (hc : c ≤ 400) (hs : st_I S (ky 0 10) = nI c) : ∃ x3 x4, f_X6_cut_L7 (nI i, S) = some (.inl (nI (te B n i), upTk S c (nI (kd B n i)) (nI i) x3 x4)) ∧ (kd B n i = 2 → x3 = nI (dvl B i (te B n i - i))) ∧ (kd B n i = 1 → x4 = lN (codeB 27 (ltr B i (te B n i - i)))) := by
  have hn := h.1
  have hB := h.2.1 i hi
  obtain ⟨b1, b2⟩ := te_b (B := B) hn hi
  have hbk : ∀ k : Nat, k < 256 → bk k = true → ¬ nI (B i) = nI k := fun k hk q e => by
    have := (nI_eq (by omega) (by omega)).mp e
    rw [this, q] at hb
    cases hb
  have en : ∀ m : Nat, nI i + nI m = nI (i + m) := fun m => nI_add i m
  have et : i + (te B n i - i) = te B n i := by omega
  have start : f_X6_cut_L7 (nI i, S) = (f_X6_isLetter (nI (B i))).bind (fun (q9 : Int32) => if q9 = 0 then ((f_X6_isDigit (nI (B i))).bind (fun (q11 : Int32) => if q11 = 0 then ((f_X6_byteAt S (nI i + (1 : Int32))).bind (fun (q13 : Int32) => (f_X6_sign S (nI i) (nI (B i)) q13).bind (fun (q14 : Int32 × St) => some (.inl ((nI i + q14.1), q14.2))))) else ((iter (f_X6_cut_L208 S (nI i)) FU ((0 : Int32), (0 : Int32))).bind (fun (u25 : Int32 × Int32) => if u25.1 ≤ (4 : Int32) then (f_X6_cut_J261 S (nI i) u25.1 u25.2 (2 : Int32)) else (f_X6_cut_J261 S (nI i) u25.1 u25.2 (3 : Int32)))))) else ((iter (f_X6_cut_L85 S (nI i)) FU ((0 : Int32), (0 : Int64))).bind (fun (u41 : Int32 × Int64) => if u41.1 ≤ (8 : Int32) then (f_X6_cut_J135 S (nI i) u41.1 u41.2 (1 : Int32)) else (f_X6_cut_J135 S (nI i) u41.1 u41.2 (3 : Int32))))) := by
    unfold f_X6_cut_L7
    show (if (400 : Int32) < st_I S (ky 0 10) then _ else (f_X6_byteAt S (nI i)).bind _) = _
    rw [hs, if_neg (show ¬ (400 : Int32) < nI c from nI_nlt (b := c) (a := 400) hc (by decide)), M_byte h (by omega), if_pos hi, bnd]
    show (if nI i < st_I S (ky 0 4) then _ else _) = _
    rw [h.2.2.1, if_pos (nI_lt hi (by omega)), if_neg (show ¬ nI (B i) = (9 : Int32) from hbk 9 (by decide) (by decide)), if_neg (show ¬ nI (B i) = (10 : Int32) from hbk 10 (by decide) (by decide)), if_neg (show ¬ nI (B i) = (13 : Int32) from hbk 13 (by decide) (by decide)), if_neg (show ¬ nI (B i) = (32 : Int32) from hbk 32 (by decide) (by decide))]
  rw [start, isl_Mk _ hB, bnd]
  cases hl : isl (B i) with
  | true =>
    have hL := te_l hi hl
    rw [if_pos (show (true = true) from rfl), if_neg ne01, M_letters h hi hl, bnd]
    by_cases h8 : te B n i - i ≤ 8
    · have e : kd B n i = wOf (ltr B i (te B n i - i)) := by
        unfold kd
        rw [if_pos hl, if_neg (by omega)]
      have e8 : (if te B n i - i < 8 then te B n i - i else 8) = te B n i - i := by split <;> omega
      rw [e8]
      show ∃ x3 x4, (if nI (te B n i - i) ≤ (8 : Int32) then _ else _) = _ ∧ _
      rw [if_pos (show nI (te B n i - i) ≤ (8 : Int32) from nI_le (b := 8) h8 (by decide))]
      have fin : f_X6_cut_J135 S (nI i) (nI (te B n i - i)) (lN (codeB 27 (ltr B i (te B n i - i)))) (1 : Int32) = f_X6_cut_J179 S (nI i) (nI (te B n i - i)) (lN (codeB 27 (ltr B i (te B n i - i)))) (nI (kd B n i)) := by
        unfold f_X6_cut_J135
        by_cases h7 : te B n i - i ≤ 7
        · have hc := codeB_lt (b := 27) B i (by decide) _ hL
          rw [if_neg (show ¬ (7 : Int32) < nI (te B n i - i) from nI_nlt (b := te B n i - i) (a := 7) h7 (by decide)), M_word hw _ _ _ (Nat.lt_of_lt_of_le hc (Nat.le_trans (Nat.pow_le_pow_right (by decide) h8) (by decide))) (ltr_r _ hL), bnd, e]
        · have e1 : wOf (ltr B i (te B n i - i)) = 1 := by
            unfold wOf
            cases e5 : s_fst (fun w => decide (wordsL.getD w [] = ltr B i (te B n i - i))) 17 with
            | none => rfl
            | some w =>
              have g := s_fst_lt e5
              have g2 : wordsL.getD w [] = ltr B i (te B n i - i) := of_decide_eq_true g.2
              have g3 := words_l w g.1
              rw [g2, ltr_l] at g3
              exact absurd g3 h7
          rw [if_pos (show (7 : Int32) < nI (te B n i - i) from nI_lt (a := 7) (by omega) (by omega)), e, e1]
          rfl
      rw [fin]
      unfold f_X6_cut_J179
      rw [M_token (by omega) hs, bnd, en, et]
      refine ⟨0, lN (codeB 27 (ltr B i (te B n i - i))), rfl, fun q => ?_, fun _ => rfl⟩
      rw [e] at q
      have := wOf_le (ltr B i (te B n i - i))
      omega
    · have e : kd B n i = 3 := by
        unfold kd
        rw [if_pos hl, if_pos (by omega)]
      show ∃ x3 x4, (if nI (te B n i - i) ≤ (8 : Int32) then _ else _) = _ ∧ _
      rw [if_neg (show ¬ nI (te B n i - i) ≤ (8 : Int32) from nI_ge (a := 8) (by omega) (by omega))]
      unfold f_X6_cut_J135
      rw [if_pos (show (7 : Int32) < nI (te B n i - i) from nI_lt (a := 7) (by omega) (by omega))]
      unfold f_X6_cut_J179
      rw [M_token (by omega) hs, bnd, en, et, e]
      exact ⟨0, _, rfl, fun q => absurd q (by decide), fun q => absurd q (by decide)⟩
  | false =>
    rw [if_neg (show ¬ (false = true) by decide), if_pos rfl, isd_Mk _ hB, bnd]
    cases hd : isd (B i) with
    | true =>
      rw [if_pos (show (true = true) from rfl), if_neg ne01, M_digits h hi hl hd, bnd]
      by_cases h4 : te B n i - i ≤ 4
      · have e : kd B n i = 2 := by
          unfold kd
          rw [if_neg (by rw [hl]; decide), if_pos hd, if_neg (by omega)]
        have e8 : (if te B n i - i < 4 then te B n i - i else 4) = te B n i - i := by split <;> omega
        rw [e8]
        show ∃ x3 x4, (if nI (te B n i - i) ≤ (4 : Int32) then f_X6_cut_J261 S (nI i) (nI (te B n i - i)) (nI (dvl B i (te B n i - i))) (2 : Int32) else _) = _ ∧ _
        rw [if_pos (show nI (te B n i - i) ≤ (4 : Int32) from nI_le (b := 4) h4 (by decide))]
        unfold f_X6_cut_J261
        rw [M_token (by omega) hs, bnd, en, et, e]
        exact ⟨nI (dvl B i (te B n i - i)), 0, rfl, fun _ => rfl, fun q => absurd q (by decide)⟩
      · have e : kd B n i = 3 := by
          unfold kd
          rw [if_neg (by rw [hl]; decide), if_pos hd, if_pos (by omega)]
        show ∃ x3 x4, (if nI (te B n i - i) ≤ (4 : Int32) then _ else f_X6_cut_J261 S (nI i) (nI (te B n i - i)) _ (3 : Int32)) = _ ∧ _
        rw [if_neg (show ¬ nI (te B n i - i) ≤ (4 : Int32) from nI_ge (a := 4) (by omega) (by omega))]
        unfold f_X6_cut_J261
        rw [M_token (by omega) hs, bnd, en, et, e]
        exact ⟨_, 0, rfl, fun q => absurd q (by decide), fun q => absurd q (by decide)⟩
    | false =>
      have e : kd B n i = sg (B i) := by
        unfold kd
        rw [if_neg (by rw [hl]; decide), if_neg (by rw [hd]; decide)]
      have e1 : te B n i = i + 1 := adv_f (p := fun j => ctn (B i) (B j)) (by
        show ctn (B i) (B (i + 1)) = false
        unfold ctn
        rw [if_neg (by rw [hl]; decide), if_neg (by rw [hd]; decide)])
      have h3 := sg_ge (B i)
      rw [if_neg (show ¬ (false = true) by decide), if_pos rfl, show nI i + (1 : Int32) = nI (i + 1) from nI_1 i, M_byte h (by omega), bnd, M_sign (by omega) hs _ _ hB, bnd, e, e1]
      refine ⟨0, 0, ?_, fun q => absurd q (by omega), fun q => absurd q (by omega)⟩
      show some (Sum.inl (nI i + 1, _)) = _
      rw [nI_1]
end TM
