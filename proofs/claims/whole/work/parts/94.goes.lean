/-! HOW A TEXT GOES ON: the class's scanner does so. -/
section GS
variable {S : St} {tel sp pt br ifs k : Nat} {w fr : Bool} {cn : Nat → Nat}
def bE (S : St) (p : Int32) : St := up_I (up_I (up_I S (ky 1 10) p) (ky 1 11) (1 : Int32)) (ky 1 12) (1 : Int32)
theorem beginE_e (S : St) (p : Int32) : f_X3_beginE S p = some (bE S p) := rfl
theorem bE_on (S : St) (p : Int32) : on kG S (bE S p) := on_trans (on_trans (on_I _ _ _ (kG_ (by decide) (by decide))) (on_I _ _ _ (kG_ (by decide) (by decide)))) (on_I _ _ _ (kG_ (by decide) (by decide)))
theorem bE_c (h : scC S (tel, sp, pt, w, fr, br, ifs, cn)) (ht : tel ≠ 0) {p : Nat} (hp : p ≤ 4) : scC (bE S (nI p)) (tel, sp, p, true, true, br, ifs, cn) := ⟨h.1.elim (fun e => absurd e ht) (fun e => Or.inr ⟨e.1, e.2.1, e.2.2.1, hp⟩), h.2.1, fun _ => ⟨(h.2.2.1 ht).1, rfl, fun _ => ⟨rfl, rfl⟩, (h.2.2.1 ht).2.2.2.1, (h.2.2.1 ht).2.2.2.2⟩, h.2.2.2⟩
theorem bE_e (h : scC S (tel, sp, pt, w, fr, br, ifs, cn)) (ht : tel ≠ 0) (p : Int32) (p' : Nat) (w' fr' : Bool) : scE (bE S p) (tel, sp, p', w', fr', br, ifs, cn) := ⟨(h.2.2.1 ht).2.2.2.1, (h.2.2.1 ht).2.2.2.2⟩
theorem C_partEnds (h : scC S (tel, sp, pt, w, fr, br, ifs, cn)) (ht : tel ≠ 0) (hk : okK k) : gAns S (pEnd (tel, sp, pt, w, fr, br, ifs, cn) k) (f_X3_partEnds S (ckd k)) := by
  have hp : pt ≤ 4 := h.1.elim (fun e => absurd e ht) (fun e => e.2.2.2)
  have e10 := (h.2.2.1 ht).2.1
  have e13 : (ckd k = (60 : Int32)) ↔ k = 13 := ckd_eq hk 13 (by decide)
  have e29 : (ckd k = (209 : Int32)) ↔ k = 29 := ckd_eq hk 29 (by decide)
  have e30 : (ckd k = (210 : Int32)) ↔ k = 30 := ckd_eq hk 30 (by decide)
  have e4 : (ckd k = (59 : Int32)) ↔ k = 4 := ckd_eq hk 4 (by decide)
  have p1 : (nI pt = (1 : Int32)) ↔ pt = 1 := nI_eq (b := 1) (by omega) (by decide)
  have p2 : (nI pt = (2 : Int32)) ↔ pt = 2 := nI_eq (b := 2) (by omega) (by decide)
  have p3 : (nI pt = (3 : Int32)) ↔ pt = 3 := nI_eq (b := 3) (by omega) (by decide)
  unfold f_X3_partEnds
  rw [e10]
  by_cases c1 : pt = 1
  · rw [if_pos (p1.mpr c1), beginE_e, bnd]
    by_cases c : k = 13
    · rw [if_pos (e13.mpr c)]
      show gAns S (if pt = 1 then (if k = 13 then _ else _) else _) _
      rw [if_pos c1, if_pos c]
      exact gA_yes (bE_on _ _) (bE_c h ht (p := 2) (by decide)) (bE_e h ht _ _ _ _)
    · rw [if_neg (fun z => c (e13.mp z))]
      show gAns S (if pt = 1 then (if k = 13 then _ else _) else _) _
      rw [if_pos c1, if_neg c]
      exact gA_no (bE_on _ _)
  rw [if_neg (fun z => c1 (p1.mp z))]
  by_cases c2 : pt = 2
  · rw [if_pos (p2.mpr c2), beginE_e, bnd]
    by_cases c : k = 29
    · rw [if_pos (e29.mpr c)]
      show gAns S (if pt = 1 then _ else if pt = 2 then (if k = 29 then _ else _) else _) _
      rw [if_neg c1, if_pos c2, if_pos c]
      exact gA_yes (bE_on _ _) (bE_c h ht (p := 3) (by decide)) (bE_e h ht _ _ _ _)
    · rw [if_neg (fun z => c (e29.mp z))]
      show gAns S (if pt = 1 then _ else if pt = 2 then (if k = 29 then _ else _) else _) _
      rw [if_neg c1, if_pos c2, if_neg c]
      exact gA_no (bE_on _ _)
  rw [if_neg (fun z => c2 (p2.mp z))]
  by_cases c3 : pt = 3
  · rw [if_pos (p3.mpr c3), beginE_e, bnd]
    by_cases c : k = 30
    · rw [if_pos (e30.mpr c)]
      show gAns S (if pt = 1 then _ else if pt = 2 then _ else if pt = 3 then (if k = 30 then _ else _) else _) _
      rw [if_neg c1, if_neg c2, if_pos c3, if_pos c]
      exact gA_yes (bE_on _ _) (bE_c h ht (p := 4) (by decide)) (bE_e h ht _ _ _ _)
    · rw [if_neg (fun z => c (e30.mp z))]
      show gAns S (if pt = 1 then _ else if pt = 2 then _ else if pt = 3 then (if k = 30 then _ else _) else _) _
      rw [if_neg c1, if_neg c2, if_pos c3, if_neg c]
      exact gA_no (bE_on _ _)
  rw [if_neg (fun z => c3 (p3.mp z)), lt_e]
  have o : on kG S (up_I S (ky 1 8) (-1 : Int32)) := on_I _ _ _ (kG_ (by decide) (by decide))
  show gAns S (if pt = 1 then _ else if pt = 2 then _ else if pt = 3 then _ else (if k = 4 then _ else _)) _
  rw [if_neg c1, if_neg c2, if_neg c3]
  by_cases c : k = 4
  · rw [if_pos (e4.mpr c), if_pos c]
    exact gA_yes o ⟨Or.inl rfl, rfl, fun q => absurd rfl q, h.2.2.2⟩ ⟨(h.2.2.1 ht).2.2.2.1, (h.2.2.1 ht).2.2.2.2⟩
  · rw [if_neg (fun z => c (e4.mp z)), if_neg c]
    exact gA_no o
theorem C_unitEnded (h : scC S (tel, sp, pt, w, fr, br, ifs, cn)) (hB : scB (tel, sp, pt, w, fr, br, ifs, cn)) (ht : tel ≠ 0) (hp0 : pt ≠ 0) (hk : okK k) : gAns S (uEnd (tel, sp, pt, w, fr, br, ifs, cn) k) (f_X3_unitEnded S (ckd k)) := by
  have g := h.2.2.1 ht
  have hbr : br ≤ 6 := hB.1
  have e8 : (ckd k = (43 : Int32)) ↔ k = 8 := ckd_eq hk 8 (by decide)
  have e9 : (ckd k = (45 : Int32)) ↔ k = 9 := ckd_eq hk 9 (by decide)
  have e10 : (ckd k = (42 : Int32)) ↔ k = 10 := ckd_eq hk 10 (by decide)
  have e15 : (ckd k = (47 : Int32)) ↔ k = 15 := ckd_eq hk 15 (by decide)
  have e7 : (ckd k = (41 : Int32)) ↔ k = 7 := ckd_eq hk 7 (by decide)
  have op : gAns S (some (tel, sp, pt, true, fr, br, ifs, cn)) (f_X3_unitEnded_J24 S) := gA_yes (on_I _ _ _ (kG_ (by decide) (by decide))) ⟨h.1, h.2.1, fun _ => ⟨g.1, g.2.1, fun _ => ⟨rfl, (g.2.2.1 hp0).2⟩, g.2.2.2.1, g.2.2.2.2⟩, h.2.2.2⟩ ⟨g.2.2.2.1, g.2.2.2.2⟩
  unfold f_X3_unitEnded
  show gAns S (if k = 8 ∨ k = 9 ∨ k = 10 ∨ k = 15 then _ else if k = 7 then (if br = 0 then _ else _) else if br = 0 then _ else _) _
  by_cases c8 : k = 8
  · rw [if_pos (e8.mpr c8), if_pos (Or.inl c8)]
    exact op
  rw [if_neg (fun z => c8 (e8.mp z))]
  by_cases c9 : k = 9
  · rw [if_pos (e9.mpr c9), if_pos (Or.inr (Or.inl c9))]
    exact op
  rw [if_neg (fun z => c9 (e9.mp z))]
  by_cases c10 : k = 10
  · rw [if_pos (e10.mpr c10), if_pos (Or.inr (Or.inr (Or.inl c10)))]
    exact op
  rw [if_neg (fun z => c10 (e10.mp z))]
  by_cases c15 : k = 15
  · rw [if_pos (e15.mpr c15), if_pos (Or.inr (Or.inr (Or.inr c15)))]
    exact op
  rw [if_neg (fun z => c15 (e15.mp z)), if_neg (show ¬ (k = 8 ∨ k = 9 ∨ k = 10 ∨ k = 15) by omega)]
  by_cases c7 : k = 7
  · rw [if_pos (e7.mpr c7), if_pos c7, lt_e, g.2.2.2.1]
    have o : on kG S (up_I S (ky 1 13) (nI br - 1)) := on_I _ _ _ (kG_ (by decide) (by decide))
    show gAns S _ (if nI br - 1 < 0 then _ else _)
    by_cases c0 : br = 0
    · rw [if_pos c0, if_pos (show nI br - 1 < 0 by rw [c0]; decide)]
      exact gA_no o
    · obtain ⟨m, rfl⟩ : ∃ m, br = m + 1 := ⟨br - 1, by omega⟩
      rw [if_neg c0, nI_pred, if_neg (nI_pos (by omega))]
      rw [nI_pred] at o
      exact gA_yes o ⟨h.1, h.2.1, fun _ => ⟨g.1, g.2.1, g.2.2.1, rfl, g.2.2.2.2⟩, h.2.2.2⟩ ⟨rfl, g.2.2.2.2⟩
  rw [if_neg (fun z => c7 (e7.mp z)), if_neg c7, g.2.2.2.1]
  by_cases c0 : br = 0
  · rw [if_pos c0, if_pos (show nI br = 0 by rw [c0]; rfl)]
    obtain ⟨S', e, o, hq⟩ := C_partEnds h ht hk
    rw [e, bnd]
    cases hg : pEnd (tel, sp, pt, w, fr, br, ifs, cn) k with
    | none =>
      exact gA_no o
    | some q' =>
      rw [hg] at hq
      have hq2 := hq q' rfl
      exact gA_yes o hq2.1 hq2.2
  · rw [if_neg c0, if_neg (show ¬ nI br = 0 from nI_eq' (b := 0) (by omega) (by decide) c0)]
    exact gA_no (on_refl _ _)
theorem C_unitBegins (h : scC S (tel, sp, pt, w, fr, br, ifs, cn)) (hB : scB (tel, sp, pt, w, fr, br, ifs, cn)) (ht : tel ≠ 0) (hp0 : pt ≠ 0) (hw : w = true) (hk : okK k) : gAns S (uBeg (tel, sp, pt, w, fr, br, ifs, cn) k) (f_X3_unitBegins S (ckd k)) := by
  have hp : pt ≤ 4 := h.1.elim (fun e => absurd e ht) (fun e => e.2.2.2)
  have g := h.2.2.1 ht
  have hbr : br ≤ 6 := hB.1
  have hk3 := ckN_lt k hk
  have e28 : (ckd k = (208 : Int32)) ↔ k = 28 := ckd_eq hk 28 (by decide)
  have e6 : (ckd k = (40 : Int32)) ↔ k = 6 := ckd_eq hk 6 (by decide)
  have e2 : (ckd k = (2 : Int32)) ↔ k = 2 := ckd_eq hk 2 (by decide)
  have ev : ckd k < (211 : Int32) ↔ k < 31 := by
    have h2 : ∀ k ∈ kdL, (ckN k < 211 ↔ k < 31) := by decide
    exact (nI_ltI (a := ckN k) (b := 211) (by omega) (by decide)).trans (h2 k hk)
  have p4 : (nI pt = (4 : Int32)) ↔ pt = 4 := nI_eq (b := 4) (by omega) (by decide)
  have o1 : on kG S (up_I S (ky 1 12) (0 : Int32)) := on_I _ _ _ (kG_ (by decide) (by decide))
  have rest : ¬ (k = 28 ∧ pt = 4 ∧ fr = true) → gAns S (uBeg (tel, sp, pt, w, fr, br, ifs, cn) k) (f_X3_unitBegins_J39 S (ckd k)) := by
    intro hn
    unfold f_X3_unitBegins_J39
    rw [lt_e]
    show gAns S (if k = 28 ∧ pt = 4 ∧ fr = true then _ else if k = 6 then _ else if k = 2 ∨ 31 ≤ k then _ else _) _
    rw [if_neg hn]
    by_cases c6 : k = 6
    · rw [if_pos (e6.mpr c6), if_pos c6]
      have e13 : st_I (up_I S (ky 1 12) (0 : Int32)) (ky 1 13) = nI br := g.2.2.2.1
      rw [lt_e, e13, nI_1]
      exact gA_yes (on_trans o1 (on_I _ _ _ (kG_ (by decide) (by decide)))) ⟨h.1, h.2.1, fun _ => ⟨g.1, g.2.1, fun q => ⟨(g.2.2.1 q).1, rfl⟩, rfl, g.2.2.2.2⟩, h.2.2.2⟩ ⟨rfl, g.2.2.2.2⟩
    · rw [if_neg (fun z => c6 (e6.mp z)), if_neg c6, lt_e]
      have o2 : on kG S (up_I (up_I S (ky 1 12) (0 : Int32)) (ky 1 11) (0 : Int32)) := on_trans o1 (on_I _ _ _ (kG_ (by decide) (by decide)))
      have yes : gAns S (some (tel, sp, pt, false, false, br, ifs, cn)) (some ((1 : Int32), up_I (up_I S (ky 1 12) (0 : Int32)) (ky 1 11) (0 : Int32))) := gA_yes o2 ⟨h.1, h.2.1, fun _ => ⟨g.1, g.2.1, fun q => ⟨rfl, rfl⟩, g.2.2.2.1, g.2.2.2.2⟩, h.2.2.2⟩ ⟨g.2.2.2.1, g.2.2.2.2⟩
      by_cases c2 : k = 2
      · rw [if_pos (e2.mpr c2), if_pos (Or.inl c2)]
        exact yes
      rw [if_neg (fun z => c2 (e2.mp z))]
      by_cases c3 : k < 31
      · rw [if_pos (ev.mpr c3), if_neg (by omega)]
        exact gA_no o2
      · rw [if_neg (fun z => c3 (ev.mp z)), if_pos (Or.inr (by omega))]
        exact yes
  unfold f_X3_unitBegins
  by_cases c28 : k = 28
  · rw [if_pos (e28.mpr c28), g.2.1]
    by_cases c4 : pt = 4
    · rw [if_pos (p4.mpr c4), (g.2.2.1 hp0).2]
      cases hf : fr with
      | false =>
        rw [if_pos (show b2 false = 0 from rfl)]
        rw [hf] at rest
        exact rest (fun q => absurd q.2.2 (by decide))
      | true =>
        rw [if_neg (show ¬ b2 true = 0 by decide), lt_e, beginE_e, bnd, g.2.2.2.2, nI_1]
        show gAns S (if k = 28 ∧ pt = 4 ∧ true = true then _ else _) _
        rw [if_pos ⟨c28, c4, rfl⟩]
        have o2 : on kG S (up_I S (ky 1 14) (nI (ifs + 1))) := on_I _ _ _ (kG_ (by decide) (by decide))
        have h2 : scC (up_I S (ky 1 14) (nI (ifs + 1))) (tel, sp, pt, w, fr, br, ifs + 1, cn) := ⟨h.1, h.2.1, fun _ => ⟨g.1, g.2.1, g.2.2.1, g.2.2.2.1, rfl⟩, h.2.2.2⟩
        exact gA_yes (on_trans o2 (bE_on _ _)) (bE_c h2 ht (p := 1) (by decide)) (bE_e h2 ht _ _ _ _)
    · rw [if_neg (fun z => c4 (p4.mp z))]
      exact rest (fun q => c4 q.2.1)
  · rw [if_neg (fun z => c28 (e28.mp z))]
    exact rest (fun q => c28 q.1)
theorem gA_chk {g : Option QS} {f : Option (Int32 × St)} (h : gAns S g f) : gAns S g (f.bind (fun (q : Int32 × St) => chk (isb q.1) (some (q.1, q.2)))) := by
  obtain ⟨S', e, o, hq⟩ := h
  refine ⟨S', ?_, o, hq⟩
  rw [e, bnd]
  have : isb (b2 g.isSome) := by cases g.isSome <;> decide
  exact chk_t this
theorem C_lawGoesOn (h : scC S (tel, sp, pt, w, fr, br, ifs, cn)) (hB : scB (tel, sp, pt, w, fr, br, ifs, cn)) (ht : tel ≠ 0) (hk : okK k) : gAns S (lawO (tel, sp, pt, w, fr, br, ifs, cn) k) (f_X3_lawGoesOn S (ckd k)) := by
  have hp : pt ≤ 4 := h.1.elim (fun e => absurd e ht) (fun e => e.2.2.2)
  have g := h.2.2.1 ht
  have e5 : (ckd k = (61 : Int32)) ↔ k = 5 := ckd_eq hk 5 (by decide)
  unfold f_X3_lawGoesOn
  show gAns S (if pt = 0 then (if k = 5 then _ else _) else if w = true then _ else _) _
  rw [g.2.1]
  by_cases c0 : pt = 0
  · rw [if_pos c0, if_pos (show nI pt = 0 by rw [c0]; rfl), beginE_e, bnd]
    by_cases c5 : k = 5
    · rw [if_pos c5, if_pos (e5.mpr c5)]
      exact gA_yes (bE_on _ _) (bE_c h ht (p := 4) (by decide)) (bE_e h ht _ _ _ _)
    · rw [if_neg c5, if_neg (fun z => c5 (e5.mp z))]
      exact gA_no (bE_on _ _)
  rw [if_neg c0, if_neg (show ¬ nI pt = 0 from nI_eq' (b := 0) (by omega) (by decide) c0), (g.2.2.1 c0).1]
  cases hw : w with
  | true =>
    rw [if_neg (show ¬ b2 true = 0 by decide), if_pos rfl, ← hw]
    exact gA_chk (C_unitBegins h hB ht c0 hw hk)
  | false =>
    rw [if_pos (show b2 false = 0 from rfl), if_neg (by decide), ← hw]
    exact gA_chk (C_unitEnded h hB ht c0 hk)
end GS
