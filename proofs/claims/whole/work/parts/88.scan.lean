/-! TOKENS: the class's. -/
theorem isl_Ck : ∀ c < 256, f_X3_isLetter (nI c) = some (if isl c then 1 else 0) := by decide +kernel
theorem isd_Ck : ∀ c < 256, f_X3_isDigit (nI c) = some (if isd c then 1 else 0) := by decide +kernel
theorem bk_Ck : ∀ c < 256, f_X3_isBlank (nI c) = some (if bk c then 1 else 0) := by decide +kernel
theorem isl_C {c : Nat} (h : c < 256) : f_X3_isLetter (nI c) = some (if isl c then 1 else 0) := isl_Ck c h
theorem isd_C {c : Nat} (h : c < 256) : f_X3_isDigit (nI c) = some (if isd c then 1 else 0) := isd_Ck c h
theorem bk_C {c : Nat} (h : c < 256) : f_X3_isBlank (nI c) = some (if bk c then 1 else 0) := bk_Ck c h
theorem nI_eq' {a b : Nat} (ha : a < 2 ^ 31) (hb : b < 2 ^ 31) (h : a ≠ b) : ¬ nI a = nI b := fun e => h ((nI_eq ha hb).mp e)
theorem ne01 : ¬ (1 : Int32) = 0 := by decide
/-- the class's tape -/
def tpC (B : Nat → Nat) (n : Nat) (S : St) : Prop := n ≤ 2000 ∧ (∀ j, j < n → B j < 256) ∧ ∀ j, j < n → st_A S (ky 0 0) j = nI (B j)
section TS
variable {B : Nat → Nat} {n : Nat} {S : St}
theorem tp_at (h : tpC B n S) {j : Nat} (hj : j < n) : f_X5_at (ky 0 0) S (nI j) = some (nI (B j)) := by
  rw [at_nI (lnC (show cl_C 0 = 5 from rfl) (by decide) (n := 2000) rfl) (by have := h.1; omega) (by decide), h.2.2 j hj]
theorem C_nextByte (h : tpC B n S) {i : Nat} (hi : i ≤ n) : f_X3_nextByte (ky 0 0) S (nI n) (nI i) = some (nI (nx B n i)) := by
  have hn := h.1
  unfold f_X3_nextByte nx
  refine wh_loop (fun j => nI j) (fun j => nI j) _ i n (by omega) hi ?_ ?_ ?_
  · intro j h1 h2 hp
    show f_X3_nextByte_L2 _ _ _ _ = _
    unfold f_X3_nextByte_L2
    rw [if_neg (nI_ge h2 (by omega)), tp_at h h2, bnd, bk_C (h.2.1 j h2), bnd, if_pos hp, if_neg ne01, nI_1]
  · intro j h1 h2 hp
    show f_X3_nextByte_L2 _ _ _ _ = _
    unfold f_X3_nextByte_L2
    rw [if_neg (nI_ge h2 (by omega)), tp_at h h2, bnd, bk_C (h.2.1 j h2), bnd, if_pos (show (if bk (B j) = true then (1 : Int32) else 0) = 0 by rw [show bk (B j) = false from hp]; rfl)]
  · show f_X3_nextByte_L2 _ _ _ _ = _
    unfold f_X3_nextByte_L2
    rw [if_pos (nI_le (Nat.le_refl _) (by omega))]
theorem C_tokenEnd (h : tpC B n S) {i : Nat} (hi : i < n) : f_X3_tokenEnd (ky 0 0) S (nI n) (nI i) = some (nI (te B n i)) := by
  have hn := h.1
  unfold f_X3_tokenEnd te
  rw [tp_at h hi, bnd, isl_C (h.2.1 i hi), bnd, bnd, isd_C (h.2.1 i hi), bnd, show nI i + (1 : Int32) = nI (i + 1) from nI_1 i]
  have key : ∀ j, j < n → f_X3_tokenEnd_L24 (ky 0 0) S (nI n) (if isl (B i) then 1 else 0) (if isd (B i) then 1 else 0) (nI j) = some (if ctn (B i) (B j) then .inl (nI (j + 1)) else .inr (nI j)) := by
    intro j hj
    have hs : ∀ x, x < 123 → 97 ≤ x → isd x = false := by decide
    unfold f_X3_tokenEnd_L24 f_X3_tokenEnd_J50 ctn
    rw [if_neg (nI_ge hj (by omega)), tp_at h hj, bnd, isl_C (h.2.1 j hj), isd_C (h.2.1 j hj), bnd, bnd, nI_1]
    cases e1 : isl (B i) with
    | true =>
      have e2 := of_decide_eq_true e1
      rw [hs (B i) (by omega) (by omega)]
      cases isl (B j) <;> rfl
    | false =>
      cases isd (B i) with
      | true => cases isd (B j) <;> rfl
      | false => rfl
  refine wh_loop (fun j => nI j) (fun j => nI j) _ (i + 1) n (by omega) hi ?_ ?_ ?_
  · intro j h1 h2 hp
    rw [key j h2, if_pos hp]
  · intro j h1 h2 hp
    rw [key j h2, if_neg (by rw [hp]; decide)]
  · unfold f_X3_tokenEnd_L24
    rw [if_pos (nI_le (Nat.le_refl _) (by omega))]
theorem te_b (hn : n ≤ 2000) {i : Nat} (hi : i < n) : i + 1 ≤ te B n i ∧ te B n i ≤ n := ⟨adv_lo hi, adv_hi hi⟩
theorem te_l {i : Nat} (hi : i < n) (h : isl (B i) = true) : ∀ j, j < te B n i - i → isl (B (i + j)) = true := by
  intro j hj
  by_cases q : j = 0
  · subst q; exact h
  · have h2 := adv_in (p := fun j => ctn (B i) (B j)) (n := n) (i := i + 1) hi (i + j) (by omega) (by unfold te at hj; omega)
    have h3 : ctn (B i) (B (i + j)) = true := h2
    unfold ctn at h3
    rw [if_pos h] at h3
    exact h3
theorem te_d {i : Nat} (hi : i < n) (h0 : isl (B i) = false) (h : isd (B i) = true) : ∀ j, j < te B n i - i → isd (B (i + j)) = true := by
  intro j hj
  by_cases q : j = 0
  · subst q; exact h
  · have h2 := adv_in (p := fun j => ctn (B i) (B j)) (n := n) (i := i + 1) hi (i + j) (by omega) (by unfold te at hj; omega)
    have h3 : ctn (B i) (B (i + j)) = true := h2
    unfold ctn at h3
    rw [if_neg (by rw [h0]; decide), if_pos h] at h3
    exact h3
end TS
theorem sub97 : ∀ b < 256, 97 ≤ b → nI b - (97 : Int32) + (1 : Int32) = nI (b - 96) := by decide +kernel
theorem sub48 : ∀ b < 256, 48 ≤ b → (nI b - (48 : Int32)).toInt64 = lN (b - 48) := by decide +kernel
theorem addL {c b : Nat} (hb : b < 256) (h : isl b = true) : f_X3_addLetter (lN c) (nI b) = some (lN (32 * c + (b - 96))) := by
  have h2 := of_decide_eq_true h
  unfold f_X3_addLetter
  have e : nI b - (97 : Int32) + (1 : Int32) = nI (b - 96) := sub97 b hb h2.1
  rw [e, nI_l (by omega), show lN c * (32 : Int64) = lN (c * 32) from lN_mul c 32, lN_add, Nat.mul_comm]
theorem sgn_C : ∀ c < 256, (f_J0_indexOf_0f7a4 1 ((nI c).toUInt32 % 65536).toInt32).map (fun q => decide (q < 0)) = some (decide (sg c = 3)) := by decide +kernel
theorem sgn_C2 {c : Nat} (h : c < 256) : ∃ q, f_J0_indexOf_0f7a4 1 ((nI c).toUInt32 % 65536).toInt32 = some q ∧ (q < 0 ↔ sg c = 3) := by
  have h2 := sgn_C c h
  cases e : f_J0_indexOf_0f7a4 1 ((nI c).toUInt32 % 65536).toInt32 with
  | none => rw [e] at h2; cases h2
  | some q =>
    rw [e] at h2
    have h3 : decide (q < 0) = decide (sg c = 3) := Option.some.inj h2
    exact ⟨q, rfl, decide_eq_decide.mp h3⟩
theorem sgn_ck : ∀ c < 256, isl c = false → isd c = false → sg c ≠ 3 → ckd (sg c) = nI c := by decide +kernel
theorem sgn_le : ∀ c < 256, sg c = 3 ∨ 4 ≤ sg c ∧ sg c < 16 := by decide +kernel
theorem upJ_upJ (S : St) (k : Nat) (v v' : Int64) : up_J (up_J S k v) k v' = up_J S k v' := by
  have : (fun j => if j = k then v' else (if j = k then v else S.2.2.1 j)) = fun j => if j = k then v' else S.2.2.1 j := by
    funext j
    by_cases h : j = k
    · rw [if_pos h, if_pos h]
    · rw [if_neg h, if_neg h, if_neg h]
  show (S.1, S.2.1, (fun j => if j = k then v' else (if j = k then v else S.2.2.1 j)), S.2.2.2) = _
  rw [this]
  rfl
theorem longAt_nI {k n i : Nat} {S : St} (hn : wk_m wd_C k = n) (hi : i < n) (hb : n < 2 ^ 31) : f_X5_longAt k S (nI i) = some (st_L S k i) := by
  unfold f_X5_longAt
  rw [hn, if_neg (nI_pos (by omega)), if_neg (show ¬ Int32.ofNat n ≤ nI i from nI_ge hi hb), chk_t (ib_nI hi hb), nI_clamp (by omega)]
theorem words_r : ∀ w < 17, ∀ x ∈ wordsL.getD w [], 1 ≤ x ∧ x ≤ 26 := by decide
theorem words_c : ∀ w < 17, codeB 32 (wordsL.getD w []) < 2 ^ 40 ∧ codeB 27 (wordsL.getD w []) < 2 ^ 40 := by decide
theorem words_d : ∀ w < 17, ∀ v < 17, wordsL.getD w [] = wordsL.getD v [] → w = v := by decide
theorem words_l : ∀ w < 17, (wordsL.getD w []).length ≤ 7 := by decide
def wrdC (S : St) : Prop := ∀ i, i < 17 → st_L S (ky 1 0) i = lN (codeB 32 (wordsL.getD i []))
theorem wOf_le (l : List Nat) : wOf l = 1 ∨ 20 ≤ wOf l ∧ wOf l < 37 := by
  unfold wOf
  cases e : s_fst (fun w => decide (wordsL.getD w [] = l)) 17 with
  | none => exact Or.inl rfl
  | some w =>
    have := (s_fst_lt e).1
    exact Or.inr ⟨by show 20 ≤ 20 + w; omega, by show 20 + w < 37; omega⟩
section TK
variable {B : Nat → Nat} {n : Nat} {S : St}
theorem C_kindOfName (h : tpC B n S) (hw : wrdC S) {i : Nat} (hi : i < n) (hl : isl (B i) = true) (h8 : te B n i - i ≤ 8) : f_X3_kindOfName (ky 0 0) (up_J S (ky 1 6) 0) (nI i) (nI (te B n i)) = some (ckd (wOf (ltr B i (te B n i - i))), up_J S (ky 1 6) (lN (codeB 32 (ltr B i (te B n i - i))))) := by
  have hn := h.1
  obtain ⟨b1, b2⟩ := te_b hn hi
  have hL := te_l hi hl
  generalize te B n i = e at b1 b2 hL h8 ⊢
  unfold f_X3_kindOfName
  have l1 : iter (f_X3_kindOfName_L3 (ky 0 0) (nI e)) FU (nI i, up_J S (ky 1 6) 0) = some (up_J S (ky 1 6) (lN (codeB 32 (ltr B i (e - i))))) := by
    refine iter_FU (fun t => ((nI (i + t), up_J S (ky 1 6) (lN (codeB 32 (ltr B i t)))) : Int32 × St)) (e - i) (by omega) ?_ ?_
    · intro t ht
      show f_X3_kindOfName_L3 _ _ (nI (i + t), up_J S (ky 1 6) (lN (codeB 32 (ltr B i t)))) = _
      unfold f_X3_kindOfName_L3
      have h2 : tpC B n (up_J S (ky 1 6) (lN (codeB 32 (ltr B i t)))) := h
      have e2 : st_J (up_J S (ky 1 6) (lN (codeB 32 (ltr B i t)))) (ky 1 6) = lN (codeB 32 (ltr B i t)) := by rw [gJ_J, if_pos rfl]
      have e3 : codeB 32 (ltr B i (t + 1)) = 32 * codeB 32 (ltr B i t) + (B (i + t) - 96) := codeB_s ..
      show (if nI e ≤ nI (i + t) then _ else (f_X5_at (ky 0 0) (up_J S (ky 1 6) (lN (codeB 32 (ltr B i t)))) (nI (i + t))).bind _) = _
      rw [if_neg (nI_ge (by omega) (by omega)), tp_at h2 (by omega), bnd]
      show ((f_X3_addLetter (st_J (up_J S (ky 1 6) (lN (codeB 32 (ltr B i t)))) (ky 1 6)) (nI (B (i + t)))).bind _) = _
      rw [e2, addL (h.2.1 _ (by omega)) (hL t ht), bnd, lt_e, upJ_upJ, ← e3]
      show some (Sum.inl (nI (i + t) + 1, _)) = _
      rw [nI_1]
      rfl
    · show f_X3_kindOfName_L3 _ _ (nI (i + (e - i)), _) = _
      unfold f_X3_kindOfName_L3
      rw [if_pos (show nI e ≤ nI (i + (e - i)) from nI_le (by omega) (by omega))]
  rw [l1, bnd]
  have hc := codeB_lt (b := 32) B i (by decide) (e - i) hL
  have hc2 : codeB 32 (ltr B i (e - i)) < 2 ^ 40 := Nat.lt_of_lt_of_le hc (Nat.le_trans (Nat.pow_le_pow_right (by decide) h8) (by decide))
  have hr := ltr_r (e - i) hL
  generalize ltr B i (e - i) = L at hc2 hr ⊢
  have l2 := up_find (step := f_X3_kindOfName_L35 (ky 0 0) (up_J S (ky 1 6) (lN (codeB 32 L)))) (fun w => nI w) (fun w => decide (wordsL.getD w [] = L)) (fun w => ((nI (200 + w), up_J S (ky 1 6) (lN (codeB 32 L))) : Int32 × St)) ((1 : Int32), up_J S (ky 1 6) (lN (codeB 32 L))) 17 (by decide) (by
    intro w hw17 _
    show f_X3_kindOfName_L35 _ _ (nI w) = _
    unfold f_X3_kindOfName_L35
    rw [if_neg (show ¬ (17 : Int32) ≤ nI w from nI_ge (b := 17) hw17 (by decide)), longAt_nI (n := 17) rfl hw17 (by decide), bnd, gL_J, gJ_J, if_pos rfl, hw w hw17]
    have hwc := words_c w hw17
    by_cases q : wordsL.getD w [] = L
    · rw [if_pos (by rw [q]; exact (lg_eq (by omega) (by omega)).mpr rfl), if_pos (by rw [q]; exact decide_eq_true rfl)]
      rw [show (200 : Int32) + nI w = nI (200 + w) from nI_add 200 w]
    · rw [if_neg (fun z => q (codeB_inj (fun x hx => by have := words_r w hw17 x hx; omega) (fun x hx => by have := hr x hx; omega) ((lg_eq (by omega) (by omega)).mp z))), if_neg (by rw [decide_eq_false q]; decide), nI_1]) (by
    intro _
    show f_X3_kindOfName_L35 _ _ (nI 17) = _
    unfold f_X3_kindOfName_L35
    rw [if_pos (show (17 : Int32) ≤ nI 17 from by decide)])
  rw [show (0 : Int32) = nI 0 from rfl]
  refine Eq.trans l2 ?_
  unfold wOf
  cases e5 : s_fst (fun w => decide (wordsL.getD w [] = L)) 17 with
  | none => rfl
  | some w =>
    have := (s_fst_lt e5).1
    show some (nI (200 + w), _) = some (ckd (20 + w), _)
    unfold ckd ckN
    rw [if_pos (by omega), show 180 + (20 + w) = 200 + w by omega]
end TK
