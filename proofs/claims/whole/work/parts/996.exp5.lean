/-! THE REFERENCE READS AN EXPRESSION, all of it. -/
/-- the codes of the expression that stands from t to t' -/
def xo (tk tv : Nat → Nat) (t t' : Nat) : List (Nat × Nat) := (syPop false (sy tk tv t (t' - t)).1 (sy tk tv t (t' - t)).2).1
section EXS
variable {B : Nat → Nat} {n t0 sd tel sp pt ifs : Nat} {cn : Nat → Nat} {pre : List (Nat × Nat)}
def exTok (k : Nat) : Prop := k = 2 ∨ 31 ≤ k ∨ k = 6 ∨ k = 7 ∨ k = 8 ∨ k = 9 ∨ k = 10 ∨ k = 15
/-- a token of an expression that began at t0; not too much waits there -/
def exTk (tk tv : Nat → Nat) (t0 u : Nat) : Prop := exTok (tk u) ∧ (sy tk tv t0 (u - t0)).2.length ≤ 23
theorem syPop_len (st : Bool) : ∀ (wt : List Nat) (o : List (Nat × Nat)), (syPop st o wt).2.length ≤ wt.length
  | [], o => Nat.le_refl _
  | w :: r, o => by
    rw [syPop]
    by_cases c : w = 6 ∨ st = true ∧ (w = 8 ∨ w = 9)
    · rw [if_pos c]
      exact Nat.le_refl _
    · rw [if_neg c]
      exact Nat.le_trans (syPop_len st r _) (Nat.le_succ _)
theorem len_open {tk tv : Nat → Nat} {t0 t : Nat} (h0 : t0 ≤ t) : ∀ j, (∀ u, t ≤ u → u < t + j → tk u = 6) → (sy tk tv t0 (t + j - t0)).2.length = (sy tk tv t0 (t - t0)).2.length + j
  | 0, _ => rfl
  | j + 1, h => by
    have ih := len_open (tv := tv) h0 j (fun u a b => h u a (by omega))
    rw [show t + (j + 1) - t0 = (t + j) + 1 - t0 by omega, sy_s tk tv (by omega), h (t + j) (by omega) (by omega)]
    show (sy tk tv t0 (t + j - t0)).2.length + 1 = _
    rw [ih]
    omega
theorem len_close {tk tv : Nat → Nat} {t0 t : Nat} (h0 : t0 ≤ t) : ∀ j, (∀ u, t ≤ u → u < t + j → tk u = 7) → (sy tk tv t0 (t + j - t0)).2.length ≤ (sy tk tv t0 (t - t0)).2.length
  | 0, _ => Nat.le_refl _
  | j + 1, h => by
    have ih := len_close (tv := tv) h0 j (fun u a b => h u a (by omega))
    rw [show t + (j + 1) - t0 = (t + j) + 1 - t0 by omega, sy_s tk tv (by omega), h (t + j) (by omega) (by omega)]
    show (syPop false (sy tk tv t0 (t + j - t0)).1 (sy tk tv t0 (t + j - t0)).2).2.tail.length ≤ _
    rw [List.length_tail]
    have := syPop_len false (sy tk tv t0 (t + j - t0)).2 (sy tk tv t0 (t + j - t0)).1
    omega
def exEnd (B : Nat → Nat) (n t0 sd : Nat) (pre : List (Nat × Nat)) (tel sp pt ifs : Nat) (cn : Nat → Nat) (r0 : Nat × Nat) (t : Nat) (Z : St) : Prop := ∃ t' br', t0 < t' ∧ (∀ u, t ≤ u → u < t' → exTk (tkK B n) (tkV B n) t0 u) ∧ EX B n t0 sd pre Z t' br' true ∧ r0 = rn (tkK B n) t' (tel, sp, pt, false, false, br', ifs, cn) ∧ (tkK B n t' ≠ 7 ∨ br' = 0) ∧ ¬ (tkK B n t' = 8 ∨ tkK B n t' = 9 ∨ tkK B n t' = 10 ∨ tkK B n t' = 15)
def exQ (B : Nat → Nat) (n t0 sd : Nat) (pre : List (Nat × Nat)) (tel sp pt ifs : Nat) (cn : Nat → Nat) (r0 : Nat × Nat) (t : Nat) (S0 : St) (r : St ⊕ St) : Prop := match r with
  | .inl Z => oh sd fsE S0 Z ∧ ((fltM B n Z r0 ∧ ltX sd Z) ∨ exEnd B n t0 sd pre tel sp pt ifs cn r0 t Z)
  | .inr Z => oh sd fsE S0 Z ∧ fltM B n Z r0
theorem M_exStep {S0 Z : St} {t br : Nat} {fr : Bool} (r0 : Nat × Nat) (hL : inL tel sp pt ifs cn) (o : oh sd fsE S0 Z) (h : EX B n t0 sd pre Z t br false) (hr : r0 = rn (tkK B n) t (tel, sp, pt, true, fr, br, ifs, cn)) (hf : pt = 4 ∧ fr = true → tkK B n t ≠ 28) : (∃ Z', f_X6_expression_L12 0 (1, Z) = some (.inl (1, Z')) ∧ oh sd fsE S0 Z' ∧ (fltM B n Z' r0 ∨ ∃ t' br', t < t' ∧ (∀ u, t ≤ u → u < t' → exTk (tkK B n) (tkV B n) t0 u) ∧ EX B n t0 sd pre Z' t' br' false ∧ r0 = rn (tkK B n) t' (tel, sp, pt, true, false, br', ifs, cn))) ∨ ∃ r, f_X6_expression_L12 0 (1, Z) = some (.inr r) ∧ exQ B n t0 sd pre tel sp pt ifs cn r0 t S0 r := by
  have ht0 := h.2.2.1
  have start : f_X6_expression_L12 0 (1, Z) = ((iter (f_X6_expression_L23 0) FU Z).bind (fun (S12 : St) => (f_X6_unit S12).bind (fun (q13 : St) => if (st_I q13 (ky 0 13)) ≤ 0 then ((iter (f_X6_expression_L96 0) FU q13).bind (fun (S22 : St) => f_X6_expression_J145 S22 0)) else (some (.inr (.inr q13)))))) := by
    unfold f_X6_expression_L12
    show (if (1 : Int32) = 0 then _ else if st_I Z (ky 0 13) = 0 then _ else _) = _
    rw [if_neg ne01, h.1.1, if_pos rfl]
  rw [start]
  obtain ⟨S1, e1, o1, d1⟩ := M_opens hL h hf 0
  rw [e1, bnd, ← hr] at *
  rcases d1 with f | ⟨t1, br1, fr1, a1, a2, a3, a4, a5, au⟩
  · refine Or.inr ⟨.inr S1, ?_, oh_trans o o1, f⟩
    rw [M_unitF f, bnd, if_neg (flt_p f).1]
  obtain ⟨S2, e2, o2, d2⟩ := M_unit hL a2 a4 a5
  rw [e2, bnd, ← a3] at *
  rcases d2 with f | ⟨bk2, b1, b2⟩
  · refine Or.inr ⟨.inr S2, ?_, oh_trans o (oh_trans o1 o2), f⟩
    rw [if_neg (flt_p f).1]
  rw [b1.1.1, if_pos (Int32.le_refl _)]
  obtain ⟨S3, e3, o3, d3⟩ := M_closes hL b1
  rw [e3, bnd, ← b2] at *
  have oo : oh sd fsE S0 S3 := oh_trans o (oh_trans o1 (oh_trans o2 o3))
  rcases d3 with f | ⟨t3, br3, c1, c2, c3, c4, cu⟩
  · exact Or.inr ⟨.inl S3, M_noOpF f.1, oo, Or.inl f⟩
  have hu : ∀ u, t ≤ u → u < t3 → exTk (tkK B n) (tkV B n) t0 u := fun u p1 p2 => by
    unfold exTk exTok
    by_cases q : u < t1
    · have h6 := au u p1 q
      have hl := len_open (tk := tkK B n) (tv := tkV B n) (t0 := t0) (t := u) (by omega) (t1 - u) (fun v g1 g2 => au v (by omega) (by omega))
      rw [show u + (t1 - u) = t1 by omega] at hl
      have := (EX_len a2).1
      exact ⟨by omega, by omega⟩
    by_cases q2 : u = t1
    · rw [q2]; exact ⟨by omega, (EX_len a2).1⟩
    · have h7 := cu u (by omega) p2
      have hl := len_close (tk := tkK B n) (tv := tkV B n) (t0 := t0) (t := t1 + 1) (by have := b1.2.2.1; omega) (u - (t1 + 1)) (fun v g1 g2 => cu v (by omega) (by omega))
      rw [show t1 + 1 + (u - (t1 + 1)) = u by omega] at hl
      have := (EX_len b1).1
      exact ⟨by omega, by omega⟩
  by_cases k : tkK B n t3 = 8 ∨ tkK B n t3 = 9 ∨ tkK B n t3 = 10 ∨ tkK B n t3 = 15
  · obtain ⟨S4, e4, o4, d4⟩ := M_op hL c2 k
    rw [← c3] at d4
    refine Or.inl ⟨S4, e4, oh_trans oo o4, ?_⟩
    rcases d4 with f | ⟨g1, g2⟩
    · exact Or.inl f
    · exact Or.inr ⟨t3 + 1, br3, by omega, (fun u p1 p2 => by
      by_cases q : u = t3
      · rw [q]; exact ⟨by unfold exTok; omega, (EX_len c2).1⟩
      · exact hu u p1 (by omega)), g1, g2⟩
  · exact Or.inr ⟨.inl S3, M_noOp c2.1 k, oo, Or.inr ⟨t3, br3, by omega, hu, c2, c3, c4, k⟩⟩
end EXS
