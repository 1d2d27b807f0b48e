/-! WHAT A LAW IS: its branches, each with its test or none; and how the reference keeps one. -/
abbrev CL : Type := List (Nat × Nat)
abbrev BR : Type := Option (CL × CL) × CL
/-- an expression stands from t to t' -/
def exT (tk tv : Nat → Nat) (t t' : Nat) : Prop := t < t' ∧ xoOK tk tv t t' ∧ ∀ u, t ≤ u → u < t' → exTk tk tv t u
def LawT (tk tv : Nat → Nat) (d : Nat) : List BR → Nat → Prop
  | [], _ => False
  | (none, l3) :: l, t => l = [] ∧ tk t ≠ 28 ∧ exT tk tv t d ∧ tk d = 4 ∧ l3 = xo tk tv t d
  | (some (l1, l2), l3) :: l, t => tk t = 28 ∧ ∃ a b c, exT tk tv (t + 1) a ∧ tk a = 13 ∧ exT tk tv (a + 1) b ∧ tk b = 29 ∧ exT tk tv (b + 1) c ∧ tk c = 30 ∧ l1 = xo tk tv (t + 1) a ∧ l2 = xo tk tv (a + 1) b ∧ l3 = xo tk tv (b + 1) c ∧ LawT tk tv d l (c + 1)
def brAt (S : St) (c0 : Nat) (all : CL) (b : Nat) (x : BR) : Prop := match x with
  | (none, l3) => ∃ A1 A2, all = A1 ++ (l3 ++ A2) ∧ st_A S (ky 0 39) b = 0 ∧ st_A S (ky 0 42) b = nI (c0 + A1.length) ∧ st_A S (ky 0 43) b = nI (c0 + A1.length + l3.length)
  | (some (l1, l2), l3) => ∃ A1 A2, all = A1 ++ (l1 ++ (l2 ++ (l3 ++ A2))) ∧ st_A S (ky 0 39) b = 1 ∧ st_A S (ky 0 40) b = nI (c0 + A1.length) ∧ st_A S (ky 0 41) b = nI (c0 + A1.length + l1.length) ∧ st_A S (ky 0 42) b = nI (c0 + A1.length + l1.length + l2.length) ∧ st_A S (ky 0 43) b = nI (c0 + A1.length + l1.length + l2.length + l3.length)
theorem brAt_app {S : St} {c0 : Nat} {all : CL} {b : Nat} {x : BR} (h : brAt S c0 all b x) (A3 : CL) : brAt S c0 (all ++ A3) b x := by
  obtain ⟨x1, l3⟩ := x
  cases x1 with
  | none =>
    obtain ⟨A1, A2, e, h⟩ := h
    refine ⟨A1, A2 ++ A3, ?_, h⟩
    rw [e, List.append_assoc, List.append_assoc]
  | some p =>
    obtain ⟨l1, l2⟩ := p
    obtain ⟨A1, A2, e, h⟩ := h
    refine ⟨A1, A2 ++ A3, ?_, h⟩
    rw [e, List.append_assoc, List.append_assoc, List.append_assoc, List.append_assoc]
theorem brAt_cg {S S' : St} {c0 : Nat} {all : CL} {b : Nat} {x : BR} (h : brAt S c0 all b x) (e : ∀ f, 39 ≤ f → f ≤ 43 → st_A S' (ky 0 f) b = st_A S (ky 0 f) b) : brAt S' c0 all b x := by
  obtain ⟨x1, l3⟩ := x
  cases x1 with
  | none =>
    obtain ⟨A1, A2, h1, h2, h3, h4⟩ := h
    exact ⟨A1, A2, h1, by rw [e 39 (by decide) (by decide)]; exact h2, by rw [e 42 (by decide) (by decide)]; exact h3, by rw [e 43 (by decide) (by decide)]; exact h4⟩
  | some p =>
    obtain ⟨l1, l2⟩ := p
    obtain ⟨A1, A2, h1, h2, h3, h4, h5, h6⟩ := h
    exact ⟨A1, A2, h1, by rw [e 39 (by decide) (by decide)]; exact h2, by rw [e 40 (by decide) (by decide)]; exact h3, by rw [e 41 (by decide) (by decide)]; exact h4, by rw [e 42 (by decide) (by decide)]; exact h5, by rw [e 43 (by decide) (by decide)]; exact h6⟩
/-- all that has been emitted in this text, and all its branches -/
def RB (S : St) (c0 b0 : Nat) (all : CL) (bl : List BR) : Prop := st_I S (ky 0 44) = nI (c0 + all.length) ∧ cds (st_A S (ky 0 45)) (st_A S (ky 0 46)) c0 all ∧ st_I S (ky 0 38) = nI (b0 + bl.length) ∧ ∀ j, j < bl.length → brAt S c0 all (b0 + j) (bl.getD j (none, []))
abbrev fsLw : List Nat := [11, 12, 13, 14, 38, 39, 40, 41, 42, 43, 44, 45, 46, 47, 48]
section EXS
variable {B : Nat → Nat} {n sd tel sp pt ifs : Nat} {cn : Nat → Nat}
theorem M_expressionF {S : St} {c : Nat × Nat} (f : fltM B n S c) : f_X6_expression S = some (up_I S (ky 0 48) (0 : Int32)) := by
  have f2 : fltM B n (up_I S (ky 0 48) (0 : Int32)) c := ⟨f.1, f.2.1, f.2.2⟩
  unfold f_X6_expression
  rw [lt_e]
  have e : iter (f_X6_expression_L12 (st_I (up_I S (ky 0 48) (0 : Int32)) (ky 0 12))) FU ((1 : Int32), up_I S (ky 0 48) (0 : Int32)) = some (.inr (up_I S (ky 0 48) (0 : Int32))) := by
    refine iter_FU (fun _ => ((1 : Int32), up_I S (ky 0 48) (0 : Int32))) 0 (by decide) (fun i hi => absurd hi (Nat.not_lt_zero _)) ?_
    unfold f_X6_expression_L12
    show (if (1 : Int32) = 0 then _ else if st_I (up_I S (ky 0 48) (0 : Int32)) (ky 0 13) = 0 then _ else _) = _
    rw [if_neg ne01, if_neg (flt_p f2).2.1]
  rw [e, bnd]
theorem M_110F {S : St} {b : Nat} {c : Nat × Nat} (f : fltM B n S c) (hs : sd < 2) (hb0 : 130 * sd ≤ b) (hb : b < 130 * sd + 130) (h : st_I S (ky 0 38) = nI b) (x1 x2 x3 : Int32) : ∃ S', f_X6_tellLaw_J110 S x1 x2 x3 = some (.inl (x3, S')) ∧ oh sd fsLw S S' ∧ fltM B n S' c ∧ st_I S' (ky 0 38) = nI (b + 1) := by
  obtain ⟨S1, e, o, f1, e38⟩ := M_termF f hs hb0 hb h
  unfold f_X6_tellLaw_J110
  rw [M_mustF f, bnd, e, bnd, M_mustF f1, bnd]
  exact ⟨S1, rfl, oh_mono (by decide) o, f1, e38⟩
/-- a token that must come, as it stands -/
theorem M_must2 {S : St} {t : Nat} (h : atM B n S t) {q q' : QS} {k : Nat} (hk0 : k ≠ 0) (hk : k < 100) (h0 : q.1 ≠ 0) (hg : tkK B n t ≠ 0 → goQ q (tkK B n t) = if tkK B n t = k then some q' else none) (hm : many q' = false) : (∃ S', f_X6_must S (nI k) = some S' ∧ on (kM fsS) S S' ∧ fltM B n S' (rn (tkK B n) t q)) ∨ (t < 400 ∧ tkK B n t = k ∧ f_X6_must S (nI k) = some (up_I S (ky 0 11) (nI (t + 1))) ∧ atM B n (up_I S (ky 0 11) (nI (t + 1))) (t + 1) ∧ rn (tkK B n) t q = rn (tkK B n) (t + 1) q') := by
  unfold f_X6_must
  rw [M_is h k (by omega), bnd]
  by_cases c : tkK B n t = k
  · have h1 : tkK B n t ≠ 0 := by rw [c]; exact hk0
    rw [if_pos c, if_neg ne01]
    rcases M_go h (q := q) (q' := q') h1 (by rw [hg h1, if_pos c]) hm with ⟨S', a, b, d⟩ | ⟨a, b, d, e⟩
    · rw [a, bnd]
      exact Or.inl ⟨S', rfl, b, d⟩
    · rw [b, bnd]
      exact Or.inr ⟨a, c, rfl, d, e⟩
  · rw [if_neg c, if_pos rfl]
    obtain ⟨e, f⟩ := M_fail h (k := 1) (Or.inl rfl)
    rw [show f_X6_fail S (1 : Int32) = _ from e, bnd]
    refine Or.inl ⟨_, rfl, upFl_on _ _ _, ?_⟩
    rw [rn_no h h0 (fun z => by rw [hg z, if_neg c])]
    exact f
theorem pEnd_e (fr : Bool) (br k : Nat) : pEnd (tel, sp, pt, false, fr, br, ifs, cn) k = if pt = 1 then (if k = 13 then some (tel, sp, 2, true, true, br, ifs, cn) else none) else if pt = 2 then (if k = 29 then some (tel, sp, 3, true, true, br, ifs, cn) else none) else if pt = 3 then (if k = 30 then some (tel, sp, 4, true, true, br, ifs, cn) else none) else (if k = 4 then some (0, sp, pt, true, true, br, ifs, cn) else none) := rfl
theorem gq_end (h : inL tel sp pt ifs cn) (k : Nat) (hk : ¬ (k = 8 ∨ k = 9 ∨ k = 10 ∨ k = 15)) : goQ (tel, sp, pt, false, false, 0, ifs, cn) k = if k = 7 then none else pEnd (tel, sp, pt, false, false, 0, ifs, cn) k := by
  rw [gq_e h, uEnd_e, if_neg hk]
  by_cases c : k = 7
  · rw [if_pos c, if_pos c, if_pos rfl]
  · rw [if_neg c, if_neg c, if_pos rfl]
theorem gq_1 (h : inL tel sp 1 ifs cn) {k : Nat} (hk : ¬ (k = 8 ∨ k = 9 ∨ k = 10 ∨ k = 15)) : goQ (tel, sp, 1, false, false, 0, ifs, cn) k = if k = 13 then some (tel, sp, 2, true, true, 0, ifs, cn) else none := by
  rw [gq_end h k hk, pEnd_e, if_pos (show (1 : Nat) = 1 from rfl)]
  by_cases c : k = 7
  · rw [if_pos c, if_neg (by omega)]
  · rw [if_neg c]
theorem gq_2 (h : inL tel sp 2 ifs cn) {k : Nat} (hk : ¬ (k = 8 ∨ k = 9 ∨ k = 10 ∨ k = 15)) : goQ (tel, sp, 2, false, false, 0, ifs, cn) k = if k = 29 then some (tel, sp, 3, true, true, 0, ifs, cn) else none := by
  rw [gq_end h k hk, pEnd_e, if_neg (show ¬ (2 : Nat) = 1 by decide), if_pos (show (2 : Nat) = 2 from rfl)]
  by_cases c : k = 7
  · rw [if_pos c, if_neg (by omega)]
  · rw [if_neg c]
theorem gq_3 (h : inL tel sp 3 ifs cn) {k : Nat} (hk : ¬ (k = 8 ∨ k = 9 ∨ k = 10 ∨ k = 15)) : goQ (tel, sp, 3, false, false, 0, ifs, cn) k = if k = 30 then some (tel, sp, 4, true, true, 0, ifs, cn) else none := by
  rw [gq_end h k hk, pEnd_e, if_neg (show ¬ (3 : Nat) = 1 by decide), if_neg (show ¬ (3 : Nat) = 2 by decide), if_pos (show (3 : Nat) = 3 from rfl)]
  by_cases c : k = 7
  · rw [if_pos c, if_neg (by omega)]
  · rw [if_neg c]
theorem gq_4 (h : inL tel sp 4 ifs cn) {k : Nat} (hk : ¬ (k = 8 ∨ k = 9 ∨ k = 10 ∨ k = 15)) : goQ (tel, sp, 4, false, false, 0, ifs, cn) k = if k = 4 then some (0, sp, 4, true, true, 0, ifs, cn) else none := by
  rw [gq_end h k hk, pEnd_e, if_neg (show ¬ (4 : Nat) = 1 by decide), if_neg (show ¬ (4 : Nat) = 2 by decide), if_neg (show ¬ (4 : Nat) = 3 by decide)]
  by_cases c : k = 7
  · rw [if_pos c, if_neg (by omega)]
  · rw [if_neg c]
end EXS
