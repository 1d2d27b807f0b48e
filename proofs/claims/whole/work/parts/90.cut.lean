/-! TOKENS: the reference's. -/
theorem on_J {K : Nat → Prop} (S : St) (k : Nat) (x : Int64) (hk : K k) : on K S (up_J S k x) := fun q hq => ⟨gI_J .., gA_J .., (gJ_J S k q x).trans (if_neg (fun e : q = k => hq (by rw [e]; exact hk))), gL_J .., gP_J ..⟩
theorem on_L {K : Nat → Prop} (S : St) (k : Nat) (f : Nat → Int64) (hk : K k) : on K S (up_L S k f) := fun q hq => ⟨gI_L .., gA_L .., gJ_L .., (gL_L S k q f).trans (if_neg (fun e : q = k => hq (by rw [e]; exact hk))), gP_L ..⟩
theorem gLs (S : St) (k : Nat) (v : Nat → Int64) : st_L (up_L S k v) k = v := (gL_L ..).trans (if_pos rfl)
theorem gLn (S : St) {k j : Nat} (v : Nat → Int64) (h : ¬ j = k) : st_L (up_L S k v) j = st_L S j := (gL_L ..).trans (if_neg h)
def tpM (B : Nat → Nat) (n : Nat) (S : St) : Prop := n ≤ 2000 ∧ (∀ j, j < n → B j < 256) ∧ st_I S (ky 0 4) = nI n ∧ ∀ j, j < n → st_A S (ky 0 3) j &&& (255 : Int32) = nI (B j)
def wrdM (S : St) : Prop := ∀ i, i < 17 → st_L S (ky 0 9) i = lN (codeB 27 (wordsL.getD i []))
def tokM (B : Nat → Nat) (n : Nat) (S : St) (t : Nat) : Prop := st_A S (ky 0 5) t = nI (tkK B n t) ∧ st_A S (ky 0 6) t = nI (ps B n t) ∧ (tkK B n t = 2 → st_A S (ky 0 7) t = nI (tkV B n t)) ∧ (tkK B n t = 1 → st_L S (ky 0 8) t = lN (codeB 27 (tkL B n t)))
theorem isl_Mk : ∀ c < 256, f_X6_isLetter (nI c) = some (if isl c then 1 else 0) := by decide +kernel
theorem isd_Mk : ∀ c < 256, f_X6_isDigit (nI c) = some (if isd c then 1 else 0) := by decide +kernel
theorem app_M {c b : Nat} (hb : b < 256) (h : isl b = true) : f_X6_appends (lN c) (nI b) = some (lN (27 * c + (b - 96))) := by
  have h2 := of_decide_eq_true h
  unfold f_X6_appends
  rw [if_neg (show ¬ nI b = (0 : Int32) from nI_eq' (b := 0) (by omega) (by decide) (by omega)), sub97 b hb h2.1, nI_l (by omega), show (27 : Int64) * lN c = lN (27 * c) from lN_mul 27 c, lN_add]
theorem dig_M {v b : Nat} (h : 48 ≤ b) : (10 : Int32) * nI v + nI b - (48 : Int32) = nI (v * 10 + (b - 48)) := by
  rw [show (10 : Int32) * nI v = nI (10 * v) from pk_mul 10 v, nI_add, show nI (10 * v + b) - (48 : Int32) = nI (10 * v + b - 48) from pk_sub (b := 48) (by omega)]
  congr 1
  omega
abbrev fsCut : List Nat := [5, 6, 7, 8, 10]
section TM
variable {B : Nat → Nat} {n : Nat} {S : St}
theorem M_byte (h : tpM B n S) {j : Nat} (hj : j < 2 ^ 31) : f_X6_byteAt S (nI j) = some (if j < n then nI (B j) else 0) := by
  have hn := h.1
  unfold f_X6_byteAt
  rw [h.2.2.1]
  by_cases c : j < n
  · rw [if_neg (nI_ge c (by omega)), chk_t (ib_nI (n := 2000) (by omega) (by decide)), nI_clamp hj, h.2.2.2 j c, if_pos c]
  · rw [if_pos (nI_le (by omega) hj), if_neg c]
theorem te_o {i : Nat} (hi : i < n) (h : te B n i < n) : ctn (B i) (B (te B n i)) = false := adv_out (p := fun j => ctn (B i) (B j)) hi h
theorem M_letters (h : tpM B n S) {i : Nat} (hi : i < n) (hl : isl (B i) = true) : iter (f_X6_cut_L85 S (nI i)) FU ((0 : Int32), (0 : Int64)) = some (nI (te B n i - i), lN (codeB 27 (ltr B i (if te B n i - i < 8 then te B n i - i else 8)))) := by
  have hn := h.1
  obtain ⟨b1, b2⟩ := te_b (B := B) hn hi
  have hL := te_l hi hl
  have hO : te B n i < n → isl (B (te B n i)) = false := fun q => by
    have := te_o (B := B) hi q
    unfold ctn at this
    rwa [if_pos hl] at this
  generalize te B n i = e at b1 b2 hL hO ⊢
  refine iter_FU (fun t => ((nI t, lN (codeB 27 (ltr B i (if t < 8 then t else 8)))) : Int32 × Int64)) (e - i) (by omega) ?_ ?_
  · intro t ht
    have hb := h.2.1 (i + t) (by omega)
    show f_X6_cut_L85 _ _ (nI t, _) = _
    unfold f_X6_cut_L85
    show (f_X6_byteAt S (nI i + nI t)).bind _ = _
    rw [nI_add, M_byte h (by omega), if_pos (by omega), bnd, isl_Mk _ hb, bnd, if_pos (hL t ht), if_neg ne01]
    by_cases c : t < 8
    · rw [if_neg (show ¬ (8 : Int32) ≤ nI t from nI_ge (b := 8) c (by decide)), bnd]
      show (f_X6_appends (lN (codeB 27 (ltr B i (if t < 8 then t else 8)))) (nI (B (i + t)))).bind _ = _
      have e3 : codeB 27 (ltr B i (t + 1)) = 27 * codeB 27 (ltr B i t) + (B (i + t) - 96) := codeB_s ..
      rw [if_pos c, app_M hb (hL t ht), bnd, ← e3]
      show some (Sum.inl (nI t + 1, _)) = some (Sum.inl (nI (t + 1), lN (codeB 27 (ltr B i (if t + 1 < 8 then t + 1 else 8)))))
      rw [nI_1, show (if t + 1 < 8 then t + 1 else 8) = t + 1 by split <;> omega]
    · rw [if_pos (show (8 : Int32) ≤ nI t from nI_le (a := 8) (by omega) (by omega))]
      show some (Sum.inl (nI t + 1, lN (codeB 27 (ltr B i (if t < 8 then t else 8))))) = some (Sum.inl (nI (t + 1), lN (codeB 27 (ltr B i (if t + 1 < 8 then t + 1 else 8)))))
      rw [nI_1, if_neg c, if_neg (by omega)]
  · show f_X6_cut_L85 _ _ (nI (e - i), _) = _
    unfold f_X6_cut_L85
    show (f_X6_byteAt S (nI i + nI (e - i))).bind _ = _
    rw [nI_add, show i + (e - i) = e by omega, M_byte h (by omega), bnd]
    by_cases c : e < n
    · rw [if_pos c, isl_Mk _ (h.2.1 e c), bnd, if_pos (show (if isl (B e) = true then (1 : Int32) else 0) = 0 by rw [hO c]; rfl)]
    · rw [if_neg c, show f_X6_isLetter (0 : Int32) = some 0 from rfl, bnd, if_pos rfl]
theorem M_digits (h : tpM B n S) {i : Nat} (hi : i < n) (hl : isl (B i) = false) (hd : isd (B i) = true) : iter (f_X6_cut_L208 S (nI i)) FU ((0 : Int32), (0 : Int32)) = some (nI (te B n i - i), nI (dvl B i (if te B n i - i < 4 then te B n i - i else 4))) := by
  have hn := h.1
  obtain ⟨b1, b2⟩ := te_b (B := B) hn hi
  have hL := te_d hi hl hd
  have hO : te B n i < n → isd (B (te B n i)) = false := fun q => by
    have := te_o (B := B) hi q
    unfold ctn at this
    rwa [if_neg (by rw [hl]; decide), if_pos hd] at this
  generalize te B n i = e at b1 b2 hL hO ⊢
  refine iter_FU (fun t => ((nI t, nI (dvl B i (if t < 4 then t else 4))) : Int32 × Int32)) (e - i) (by omega) ?_ ?_
  · intro t ht
    have hb := h.2.1 (i + t) (by omega)
    have hd2 := of_decide_eq_true (hL t ht)
    show f_X6_cut_L208 _ _ (nI t, _) = _
    unfold f_X6_cut_L208
    show (f_X6_byteAt S (nI i + nI t)).bind _ = _
    rw [nI_add, M_byte h (by omega), if_pos (by omega), bnd, isd_Mk _ hb, bnd, if_pos (hL t ht), if_neg ne01]
    by_cases c : t < 4
    · rw [if_neg (show ¬ (4 : Int32) ≤ nI t from nI_ge (b := 4) c (by decide)), bnd]
      show lt_v ((10 : Int32) * nI (dvl B i (if t < 4 then t else 4)) + nI (B (i + t)) - (48 : Int32)) _ = _
      rw [if_pos c, dig_M hd2.1, lt_e]
      show some (Sum.inl (nI t + 1, nI (dvl B i (t + 1)))) = some (Sum.inl (nI (t + 1), nI (dvl B i (if t + 1 < 4 then t + 1 else 4))))
      rw [nI_1, show (if t + 1 < 4 then t + 1 else 4) = t + 1 by split <;> omega]
    · rw [if_pos (show (4 : Int32) ≤ nI t from nI_le (a := 4) (by omega) (by omega))]
      show some (Sum.inl (nI t + 1, nI (dvl B i (if t < 4 then t else 4)))) = some (Sum.inl (nI (t + 1), nI (dvl B i (if t + 1 < 4 then t + 1 else 4))))
      rw [nI_1, if_neg c, if_neg (by omega)]
  · show f_X6_cut_L208 _ _ (nI (e - i), _) = _
    unfold f_X6_cut_L208
    show (f_X6_byteAt S (nI i + nI (e - i))).bind _ = _
    rw [nI_add, show i + (e - i) = e by omega, M_byte h (by omega), bnd]
    by_cases c : e < n
    · rw [if_pos c, isd_Mk _ (h.2.1 e c), bnd, if_pos (show (if isd (B e) = true then (1 : Int32) else 0) = 0 by rw [hO c]; rfl)]
    · rw [if_neg c, show f_X6_isDigit (0 : Int32) = some 0 from rfl, bnd, if_pos rfl]
/-- which word it is -/
theorem M_word (hw : wrdM S) (x1 x3 : Int32) (L : List Nat) (hc : codeB 27 L < 2 ^ 63) (hr : ∀ x, x ∈ L → 1 ≤ x ∧ x ≤ 26) : iter (f_X6_cut_L146 S x1 x3 (lN (codeB 27 L))) FU ((1 : Int32), (0 : Int32)) = some (nI (wOf L)) := by
  have key := iter_FU (step := f_X6_cut_L146 S x1 x3 (lN (codeB 27 L))) (r := nI (wOf L)) (fun k => ((nI (match s_fst (fun w => decide (wordsL.getD w [] = L)) k with
    | none => 1
    | some w => 20 + w), nI k) : Int32 × Int32)) 17 (by decide) (by
    intro k hk
    show f_X6_cut_L146 _ _ _ _ (_, nI k) = _
    have hwc := words_c k hk
    unfold f_X6_cut_L146
    rw [if_neg (show ¬ (17 : Int32) ≤ nI k from nI_ge (b := 17) hk (by decide)), chk_t (ib_nI hk (by decide)), nI_clamp (by omega), hw k hk]
    show (if lg_cmp (lN (codeB 27 (wordsL.getD k []))) (lN (codeB 27 L)) = 0 then _ else _) = _
    by_cases q : wordsL.getD k [] = L
    · have hn : s_fst (fun w => decide (wordsL.getD w [] = L)) k = none := by
        cases e5 : s_fst (fun w => decide (wordsL.getD w [] = L)) k with
        | none => rfl
        | some w =>
          have g := s_fst_lt e5
          have g2 : wordsL.getD w [] = L := of_decide_eq_true g.2
          exact absurd (words_d w (by omega) k hk (g2.trans q.symm)) (by omega)
      rw [if_pos ((lg_eq (by omega) hc).mpr (by rw [q])), s_fst_succ hn, if_pos (decide_eq_true q)]
      show some (Sum.inl ((20 : Int32) + nI k, nI k + 1)) = some (Sum.inl (nI (20 + k), nI (k + 1)))
      rw [nI_1, show (20 : Int32) + nI k = nI (20 + k) from nI_add 20 k]
    · rw [if_neg (fun z => q (codeB_inj (fun x hx => by have := words_r k hk x hx; omega) (fun x hx => by have := hr x hx; omega) ((lg_eq (by omega) hc).mp z)))]
      have e6 : s_fst (fun w => decide (wordsL.getD w [] = L)) (k + 1) = s_fst (fun w => decide (wordsL.getD w [] = L)) k := by
        cases e5 : s_fst (fun w => decide (wordsL.getD w [] = L)) k with
        | none => rw [s_fst_succ e5, if_neg (by rw [decide_eq_false q]; decide)]
        | some w => rw [s_fst, e5]
      rw [e6]
      show some (Sum.inl (_, nI k + 1)) = _
      rw [nI_1]) (by
    show f_X6_cut_L146 _ _ _ _ (_, nI 17) = _
    unfold f_X6_cut_L146
    rw [if_pos (show (17 : Int32) ≤ nI 17 from by decide)]
    rfl)
  exact key
end TM
