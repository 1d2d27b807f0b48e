/-! WHAT A LAW IS: its branches, each with its test or none; and how the reference keeps one. -/
abbrev CL : Type := List (Nat × Nat)
abbrev BR : Type := Option (CL × CL) × CL
/-- an expression stands from t to t' -/
def exT (tk tv : Nat → Nat) (t t' : Nat) : Prop := t < t' ∧ xoOK tk tv t t' ∧ ∀ u, t ≤ u → u < t' → exTok (tk u)
def LawT (tk tv : Nat → Nat) (d : Nat) : List BR → Nat → Prop
  | [], _ => False
  | (none, l3) :: l, t => l = [] ∧ tk t ≠ 28 ∧ exT tk tv t d ∧ tk d = 4 ∧ l3 = xo tk tv t d
  | (some (l1, l2), l3) :: l, t => tk t = 28 ∧ ∃ a b c, exT tk tv (t + 1) a ∧ tk a = 13 ∧ exT tk tv (a + 1) b ∧ tk b = 29 ∧ exT tk tv (b + 1) c ∧ tk c = 30 ∧ l1 = xo tk tv (t + 1) a ∧ l2 = xo tk tv (a + 1) b ∧ l3 = xo tk tv (b + 1) c ∧ LawT tk tv d l (c + 1)
def brAt (S : St) (c0 : Nat) (all : CL) (b : Nat) (x : BR) : Prop := match x with
  | (none, l3) => ∃ A1 A2, all = A1 ++ (l3 ++ A2) ∧ st_A S (ky 0 39) b = 0 ∧ st_A S (ky 0 42) b = nI (c0 + A1.length) ∧ st_A S (ky 0 43) b = nI (c0 + A1.length + l3.length)
  | (some (l1, l2), l3) => ∃ A1 A2, all = A1 ++ (l1 ++ (l2 ++ (l3 ++ A2))) ∧ st_A S (ky 0 39) b = 1 ∧ st_A S (ky 0 40) b = nI (c0 + A1.length) ∧ st_A S (ky 0 41) b = nI (c0 + A1.length + l1.length) ∧ st_A S (ky 0 42) b = nI (c0 + A1.length + l1.length + l2.length) ∧ st_A S (ky 0 43) b = nI (c0 + A1.length + l1.length + l2.length + l3.length)
theorem brAt_app {S : St} {c0 : Nat} {all : CL} {b : Nat} {x : BR} (h : brAt S c0 all b x) (A3 : CL) : brAt S c0 (all ++ A3) b x := by
  obtain ⟨x1, l3⟩ := x
  cases x1 with
  | none =>
    obtain ⟨A1, A2, e, h⟩ := h
    refine ⟨A1, A2 ++ A3, ?_, h⟩
    rw [e, List.append_assoc, List.append_assoc]
  | some p =>
    obtain ⟨l1, l2⟩ := p
    obtain ⟨A1, A2, e, h⟩ := h
    refine ⟨A1, A2 ++ A3, ?_, h⟩
    rw [e, List.append_assoc, List.append_assoc, List.append_assoc, List.append_assoc]
theorem brAt_cg {S S' : St} {c0 : Nat} {all : CL} {b : Nat} {x : BR} (h : brAt S c0 all b x) (e : ∀ f, 39 ≤ f → f ≤ 43 → st_A S' (ky 0 f) b = st_A S (ky 0 f) b) : brAt S' c0 all b x := by
  obtain ⟨x1, l3⟩ := x
  cases x1 with
  | none =>
    obtain ⟨A1, A2, h1, h2, h3, h4⟩ := h
    exact ⟨A1, A2, h1, by rw [e 39 (by decide) (by decide)]; exact h2, by rw [e 42 (by decide) (by decide)]; exact h3, by rw [e 43 (by decide) (by decide)]; exact h4⟩
  | some p =>
    obtain ⟨l1, l2⟩ := p
    obtain ⟨A1, A2, h1, h2, h3, h4, h5, h6⟩ := h
    exact ⟨A1, A2, h1, by rw [e 39 (by decide) (by decide)]; exact h2, by rw [e 40 (by decide) (by decide)]; exact h3, by rw [e 41 (by decide) (by decide)]; exact h4, by rw [e 42 (by decide) (by decide)]; exact h5, by rw [e 43 (by decide) (by decide)]; exact h6⟩
/-- all that has been emitted in this text, and all its branches -/
def RB (S : St) (c0 b0 : Nat) (all : CL) (bl : List BR) : Prop := st_I S (ky 0 44) = nI (c0 + all.length) ∧ cds (st_A S (ky 0 45)) (st_A S (ky 0 46)) c0 all ∧ st_I S (ky 0 38) = nI (b0 + bl.length) ∧ ∀ j, j < bl.length → brAt S c0 all (b0 + j) (bl.getD j (none, []))
abbrev fsLw : List Nat := [11, 12, 13, 14, 38, 39, 40, 41, 42, 43, 44, 45, 46, 47, 48]
section EXS
variable {B : Nat → Nat} {n c0 b0 tel sp pt ifs : Nat} {cn : Nat → Nat}
theorem M_expressionF {S : St} {c : Nat × Nat} (f : fltM B n S c) : f_X6_expression S = some (up_I S (ky 0 48) (0 : Int32)) := by
  have f2 : fltM B n (up_I S (ky 0 48) (0 : Int32)) c := ⟨f.1, f.2.1, f.2.2⟩
  unfold f_X6_expression
  rw [lt_e]
  have e : iter (f_X6_expression_L12 (st_I (up_I S (ky 0 48) (0 : Int32)) (ky 0 12))) FU ((1 : Int32), up_I S (ky 0 48) (0 : Int32)) = some (.inr (up_I S (ky 0 48) (0 : Int32))) := by
    refine iter_FU (fun _ => ((1 : Int32), up_I S (ky 0 48) (0 : Int32))) 0 (by decide) (fun i hi => absurd hi (Nat.not_lt_zero _)) ?_
    unfold f_X6_expression_L12
    show (if (1 : Int32) = 0 then _ else if st_I (up_I S (ky 0 48) (0 : Int32)) (ky 0 13) = 0 then _ else _) = _
    rw [if_neg ne01, if_neg (flt_p f2).2.1]
  rw [e, bnd]
theorem M_110F {S : St} {b : Nat} {c : Nat × Nat} (f : fltM B n S c) (hb : b < 260) (h : st_I S (ky 0 38) = nI b) (x1 x2 x3 : Int32) : ∃ S', f_X6_tellLaw_J110 S x1 x2 x3 = some (.inl (x3, S')) ∧ on (kM fsLw) S S' ∧ fltM B n S' c := by
  obtain ⟨S1, e, o, f1, _⟩ := M_termF f hb h
  unfold f_X6_tellLaw_J110
  rw [M_mustF f, bnd, e, bnd, M_mustF f1, bnd]
  exact ⟨S1, rfl, kM_mono (by decide) o, f1⟩
end EXS
