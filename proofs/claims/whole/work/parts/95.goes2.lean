/-! HOW A TEXT GOES ON: the class's scanner, all. -/
theorem tel_in : ∀ k ∈ kdL, (20 ≤ k ∧ k < 28 → ckd k - (200 : Int32) = nI (k - 20)) ∧ (¬ (20 ≤ k ∧ k < 28) → ckd k - (200 : Int32) < 0 ∨ nI 8 ≤ ckd k - (200 : Int32)) := by decide +kernel
def dcI (d : Nat) : Int32 := if d = 99 then 76 else if d = 4 then 59 else if d = 1 then 78 else 73
def shpB (tel sp : Nat) : Bool := (decide (due tel sp = 99) || decide (due tel sp = 4) || decide (due tel sp = 1) || decide (due tel sp = 2)) && (decide (due tel sp = 4) || decide (due tel sp = 99) || decide (sp < 4)) && (match f_X3_shapeOf (nI (180 + tel)) with
  | none => false
  | some idx => decide (idx < 9) && (match f_J0_length_8abf5 idx with
    | none => false
    | some l => (decide (due tel sp = 4) || !(decide (l ≤ nI sp))) && (decide (l ≤ nI sp) || decide (f_J0_charAt_5068e idx (nI sp) = some (dcI (due tel sp))))))
theorem shp_b : ∀ tel < 28, 20 ≤ tel → ∀ sp < 5, shpB tel sp = true := by decide +kernel
theorem shp_all {tel sp : Nat} (h1 : tel < 28) (h2 : 20 ≤ tel) (h3 : sp < 5) : (due tel sp = 99 ∨ due tel sp = 4 ∨ due tel sp = 1 ∨ due tel sp = 2) ∧ (due tel sp ≠ 4 → due tel sp ≠ 99 → sp < 4) ∧ ∃ idx l, idx < 9 ∧ f_X3_shapeOf (nI (180 + tel)) = some idx ∧ f_J0_length_8abf5 idx = some l ∧ (l ≤ nI sp → due tel sp = 4) ∧ (¬ l ≤ nI sp → f_J0_charAt_5068e idx (nI sp) = some (dcI (due tel sp))) := by
  have h := shp_b tel h1 h2 sp h3
  unfold shpB at h
  cases e : f_X3_shapeOf (nI (180 + tel)) with
  | none =>
    rw [e] at h
    simp only [Bool.and_false] at h
    cases h
  | some idx =>
    rw [e] at h
    cases e2 : f_J0_length_8abf5 idx with
    | none =>
      simp only [e2, Bool.and_false] at h
      cases h
    | some l =>
      simp only [e2, Bool.and_eq_true, Bool.or_eq_true, decide_eq_true_eq, Bool.not_eq_true', decide_eq_false_iff_not] at h
      obtain ⟨⟨a, b⟩, c, d, e3⟩ := h
      refine ⟨by omega, fun q1 q2 => by omega, idx, l, c, rfl, e2, fun q => d.resolve_right (fun z => z q), fun q => e3.resolve_left q⟩
section GS
variable {S : St} {tel sp pt br ifs k : Nat} {w fr : Bool} {cn : Nat → Nat}
theorem C_tellBegins (h : scC S (0, sp, pt, w, fr, br, ifs, cn)) (hk : okK k) : gAns S (goQ (0, sp, pt, w, fr, br, ifs, cn) k) (f_X3_tellBegins S (ckd k)) := by
  have ti := tel_in k hk
  unfold f_X3_tellBegins
  have eg : goQ (0, sp, pt, w, fr, br, ifs, cn) k = if 20 ≤ k ∧ k < 28 then some (k, 0, 0, true, true, 0, 0, fun i => if i = k - 20 then cn i + 1 else cn i) else none := rfl
  rw [eg]
  by_cases c : 20 ≤ k ∧ k < 28
  · rw [if_pos c, ti.1 c, show f_X5_within (nI (k - 20)) (8 : Int32) = some 1 from C_wi (n := 8) (by omega) (by decide), bnd, if_neg ne01, at_nI (n := 8) rfl (by omega) (by decide), bnd, h.2.2.2 _ (by omega), nI_1, put_nI (n := 8) rfl (by omega) (by decide), bnd]
    have e : ckd k = nI (180 + k) := by
      unfold ckd ckN
      rw [if_pos c.1]
    rw [lt_e, lt_e, lt_e, lt_e, lt_e, e]
    refine gA_yes (on_trans (on_trans (on_trans (on_trans (on_trans (on_A _ _ _ (kG_ (by decide) (by decide))) (on_I _ _ _ (kG_ (by decide) (by decide)))) (on_I _ _ _ (kG_ (by decide) (by decide)))) (on_I _ _ _ (kG_ (by decide) (by decide)))) (on_I _ _ _ (kG_ (by decide) (by decide)))) (on_I _ _ _ (kG_ (by decide) (by decide)))) ⟨Or.inr ⟨c.1, c.2, by omega, by omega⟩, ?_, fun _ => ⟨rfl, rfl, fun q => absurd rfl q, rfl, rfl⟩, ?_⟩ ⟨rfl, rfl⟩
    · show nI (180 + k) = if k = 0 then -1 else nI (180 + k)
      rw [if_neg (by omega)]
    · intro i hi
      show upd (st_A S (ky 1 7)) (k - 20) (nI (cn (k - 20) + 1)) i = nI (if i = k - 20 then cn i + 1 else cn i)
      rw [upd_e]
      by_cases q : i = k - 20
      · rw [if_pos q, if_pos q, q]
      · rw [if_neg q, if_neg q]
        exact h.2.2.2 i hi
  · rw [if_neg c, show f_X5_within (ckd k - (200 : Int32)) (8 : Int32) = some 0 from C_wo (n := 8) (ti.2 c), bnd, if_pos rfl]
    exact gA_no (on_refl _ _)
theorem C_goesOn (h : scC S (tel, sp, pt, w, fr, br, ifs, cn)) (hB : scB (tel, sp, pt, w, fr, br, ifs, cn)) (hk : okK k) : gAns S (goQ (tel, sp, pt, w, fr, br, ifs, cn) k) (f_X3_goesOn S (ckd k)) := by
  by_cases ht : tel = 0
  · subst ht
    unfold f_X3_goesOn
    rw [show st_I S (ky 1 8) = (-1 : Int32) from h.2.1, if_pos rfl]
    exact gA_chk (C_tellBegins h hk)
  have r := h.1.elim (fun e => absurd e ht) id
  have g := h.2.2.1 ht
  obtain ⟨s1, s2, idx, l, s3, s4, s6, s7, s7'⟩ := shp_all (tel := tel) (sp := sp) r.2.1 r.1 (by omega)
  have e8 : st_I S (ky 1 8) = nI (180 + tel) := by rw [h.2.1, if_neg ht]
  have e1 : (ckd k = (1 : Int32)) ↔ k = 1 := ckd_eq hk 1 (by decide)
  have e2 : (ckd k = (2 : Int32)) ↔ k = 2 := ckd_eq hk 2 (by decide)
  have e4 : (ckd k = (59 : Int32)) ↔ k = 4 := ckd_eq hk 4 (by decide)
  have start : f_X3_goesOn S (ckd k) = f_X3_goesOn_J53 S (ckd k) (dcI (due tel sp)) := by
    unfold f_X3_goesOn
    rw [e8, if_neg (show ¬ nI (180 + tel) = (-1 : Int32) from fun z => by
      have := nI_pos (n := 180 + tel) (by omega)
      rw [z] at this
      exact this (by decide)), s4, bnd, g.1, if_neg (nI_pos (by omega)), chk_t s3, s6, bnd]
    by_cases c : l ≤ nI sp
    · rw [if_pos c]
      unfold f_X3_goesOn_J51
      rw [s7 c]
      rfl
    · rw [if_neg c, s7' c, bnd]
  rw [start]
  show gAns S (if tel = 0 then _ else if due tel sp = 99 then _ else if k = due tel sp then some (if due tel sp = 4 then 0 else tel, sp + 1, pt, w, fr, br, ifs, cn) else none) _
  rw [if_neg ht]
  unfold f_X3_goesOn_J53
  by_cases c99 : due tel sp = 99
  · rw [if_pos c99, c99, if_pos (show dcI 99 = (76 : Int32) from rfl)]
    exact gA_chk (C_lawGoesOn h hB ht hk)
  have n76 : ¬ dcI (due tel sp) = (76 : Int32) := by
    rcases s1 with q | q | q | q
    · exact absurd q c99
    · rw [q]; decide
    · rw [q]; decide
    · rw [q]; decide
  rw [if_neg c99, if_neg n76, lt_e, g.1, nI_1]
  have o1 : on kG S (up_I S (ky 1 9) (nI (sp + 1))) := on_I _ _ _ (kG_ (by decide) (by decide))
  have yes : due tel sp ≠ 4 → scC (up_I S (ky 1 9) (nI (sp + 1))) (tel, sp + 1, pt, w, fr, br, ifs, cn) := fun q => ⟨Or.inr ⟨r.1, r.2.1, by have := s2 q c99; omega, r.2.2.2⟩, h.2.1, fun _ => ⟨rfl, g.2⟩, h.2.2.2⟩
  rcases s1 with q | q | q | q
  · exact absurd q c99
  · rw [q, if_pos (show dcI 4 = (59 : Int32) from rfl), lt_e]
    have o2 : on kG S (up_I (up_I S (ky 1 9) (nI (sp + 1))) (ky 1 8) (-1 : Int32)) := on_trans o1 (on_I _ _ _ (kG_ (by decide) (by decide)))
    by_cases c4 : k = 4
    · rw [if_pos (e4.mpr c4), if_pos c4, if_pos rfl]
      exact gA_yes o2 ⟨Or.inl rfl, rfl, fun q => absurd rfl q, h.2.2.2⟩ ⟨g.2.2.2.1, g.2.2.2.2⟩
    · rw [if_neg (fun z => c4 (e4.mp z)), if_neg c4]
      exact gA_no o2
  · have y := yes (by omega)
    rw [q, if_neg (show ¬ dcI 1 = (59 : Int32) by decide), if_pos (show dcI 1 = (78 : Int32) from rfl)]
    unfold f_X3_goesOn_J111
    by_cases c1 : k = 1
    · rw [if_pos (e1.mpr c1), if_pos c1, if_neg (by decide)]
      exact gA_yes o1 y ⟨g.2.2.2.1, g.2.2.2.2⟩
    · rw [if_neg (fun z => c1 (e1.mp z)), if_neg c1]
      exact gA_no o1
  · have y := yes (by omega)
    rw [q, if_neg (show ¬ dcI 2 = (59 : Int32) by decide), if_neg (show ¬ dcI 2 = (78 : Int32) by decide)]
    unfold f_X3_goesOn_J111
    by_cases c2 : k = 2
    · rw [if_pos (e2.mpr c2), if_pos c2, if_neg (by decide)]
      exact gA_yes o1 y ⟨g.2.2.2.1, g.2.2.2.2⟩
    · rw [if_neg (fun z => c2 (e2.mp z)), if_neg c2]
      exact gA_no o1
theorem most_C : ∀ j < 8, f_X5_atT S (nI j) = some (nI (mostN.getD j 0)) ∧ mostN.getD j 0 ≤ 1000 := by
  intro j hj
  have h : ∀ j < 8, mo_C.getD j 0 = nI (mostN.getD j 0) ∧ mostN.getD j 0 ≤ 1000 := by decide
  refine ⟨?_, (h j hj).2⟩
  unfold f_X5_atT
  rw [if_neg (nI_pos (by omega)), if_neg (show ¬ (8 : Int32) ≤ nI j from nI_ge (b := 8) hj (by decide)), chk_t (ib_nI hj (by decide)), nI_clamp (by omega), (h j hj).1]
theorem C_tooMany (h : scC S (tel, sp, pt, w, fr, br, ifs, cn)) (hE : scE S (tel, sp, pt, w, fr, br, ifs, cn)) (b1 : br ≤ 7) (b2' : ifs ≤ 5) (b3 : ∀ i, i < 8 → cn i ≤ 1001) : f_X3_tooMany S = some (b2 (many (tel, sp, pt, w, fr, br, ifs, cn))) := by
  have e13 := hE.1
  have e14 := hE.2
  have m1 : f_X3_tooMany_J43 S (1 : Int32) = some 1 := rfl
  have m0 : f_X3_tooMany_J42 S = some (b2 (decide (4 < ifs ∨ 6 < br))) := by
    unfold f_X3_tooMany_J42 f_X3_tooMany_J43
    rw [if_pos rfl, e13, e14]
    by_cases c : 4 < ifs
    · rw [if_pos (show (4 : Int32) < nI ifs from nI_lt (a := 4) c (by omega)), decide_eq_true (Or.inl c)]
      rfl
    · rw [if_neg (show ¬ (4 : Int32) < nI ifs from nI_nlt (a := 4) (by omega) (by omega))]
      by_cases d : 6 < br
      · rw [if_neg (show ¬ nI br ≤ (6 : Int32) from nI_ge (a := 6) d (by omega)), decide_eq_true (Or.inr d)]
        rfl
      · rw [if_pos (show nI br ≤ (6 : Int32) from nI_le (b := 6) (by omega) (by decide)), decide_eq_false (show ¬ (4 < ifs ∨ 6 < br) by omega)]
        rfl
  unfold f_X3_tooMany
  show _ = some (b2 (decide ((tel ≠ 0 ∧ mostN.getD (tel - 20) 0 < cn (tel - 20)) ∨ 4 < ifs ∨ 6 < br)))
  by_cases ht : tel = 0
  · subst ht
    rw [show st_I S (ky 1 8) = (-1 : Int32) from h.2.1, show f_X5_within ((-1 : Int32) - (200 : Int32)) (8 : Int32) = some 0 from by decide, bnd, if_pos rfl, m0]
    congr 2
    exact decide_eq_decide.mpr ⟨fun q => Or.inr q, fun q => q.elim (fun z => absurd rfl z.1) id⟩
  have r := h.1.elim (fun e => absurd e ht) id
  have e8 : st_I S (ky 1 8) - (200 : Int32) = nI (tel - 20) := by
    rw [h.2.1, if_neg ht, show nI (180 + tel) - (200 : Int32) = nI (180 + tel - 200) from pk_sub (b := 200) (by omega), show 180 + tel - 200 = tel - 20 by omega]
  have hm := most_C (S := S) (tel - 20) (by omega)
  have hc := b3 (tel - 20) (by omega)
  rw [e8, show f_X5_within (nI (tel - 20)) (8 : Int32) = some 1 from C_wi (n := 8) (by omega) (by decide), bnd, if_neg ne01, at_nI (n := 8) rfl (by omega) (by decide), bnd, h.2.2.2 _ (by omega), hm.1, bnd]
  by_cases c : cn (tel - 20) ≤ mostN.getD (tel - 20) 0
  · rw [if_pos (nI_le c (by omega)), m0]
    congr 2
    exact decide_eq_decide.mpr ⟨fun q => Or.inr q, fun q => q.elim (fun z => absurd z.2 (by omega)) id⟩
  · rw [if_neg (nI_ge (by omega) (by omega)), m1, decide_eq_true (Or.inl ⟨ht, by omega⟩)]
    rfl
end GS
