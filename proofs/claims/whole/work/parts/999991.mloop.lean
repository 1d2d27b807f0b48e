/-! THE REFERENCE TAKES ALL TELLS. -/
section TE
variable {B : Nat → Nat} {n sd : Nat}
theorem TB_Bd {S : St} {t : Nat} {all : CL} {bl : List BR} {P : TP} {w : Option (Nat × Nat)} (h : TB B n sd S t all bl P w) : TBd P := h.2.2.1.2.2.1
theorem L112_x {S : St} (h : ¬ st_I S (ky 0 13) = 0) : f_X6_read_L112 S = some (.inr S) := by
  unfold f_X6_read_L112
  rw [if_neg h]
theorem M_loop (hn : n ≤ 2000) : ∀ (k t : Nat) (S : St) (sp pt br ifs : Nat) (wb fr : Bool) (all : CL) (bl : List BR) (P : TP) (w : Option (Nat × Nat)), 401 - t ≤ k → TB B n sd S t all bl P w → ∃ S' c, c ≤ k ∧ (∀ f, iter f_X6_read_L112 (f + c + 1) S = some S') ∧ oh sd fsTe S S' ∧ (fltM B n S' (rn (tkK B n) t (tq sp pt wb fr br ifs (pc P))) ∨ ∃ l N all' bl', TRc (tkK B n) (tkL B n) (tkV B n) N l t P ∧ rn (tkK B n) t (tq sp pt wb fr br ifs (pc P)) = (0, N) ∧ TB B n sd S' N all' bl' (TRp (tkK B n) (tkL B n) (tkV B n) l t P) (ow w (TRf (tkK B n) (tkL B n) (tkV B n) l t P)))
  | 0, t, S, sp, pt, br, ifs, wb, fr, all, bl, P, w, hk, h => by
    have := h.1.1.1.2.2.1
    omega
  | k + 1, t, S, sp, pt, br, ifs, wb, fr, all, bl, P, w, hk, h => by
    have hA := h.1.1.1
    have h400 := hA.2.2.1
    by_cases h0 : tkK B n t = 0
    · refine ⟨S, 0, Nat.zero_le _, fun f => it_x ?_ _, oh_refl _ _ _, Or.inr ⟨[], t, all, bl, ⟨rfl, h0⟩, ?_, ?_⟩⟩
      · unfold f_X6_read_L112
        rw [hA.1, if_pos rfl, show f_X6_is S (0 : Int32) = _ from M_is hA 0 (by decide), if_pos h0, bnd, if_neg ne01]
      · rw [rn_e _ _ h400, if_pos h0]
        rfl
      · show TB B n sd S t all bl P (ow w none)
        rw [ow_N]
        exact h
    · obtain ⟨S1, e1, o1, d1⟩ := M_tellOne (sp := sp) (pt := pt) (br := br) (ifs := ifs) (wb := wb) (fr := fr) hn h h0
      have st : f_X6_read_L112 S = some (.inl S1) := by
        unfold f_X6_read_L112
        rw [hA.1, if_pos rfl, show f_X6_is S (0 : Int32) = _ from M_is hA 0 (by decide), if_neg h0, bnd, if_pos rfl, e1, bnd]
      rcases d1 with f1 | ⟨d, brs, all1, bl1, sp1, pt1, wb1, fr1, br1, ifs1, hlt, hs, hr, hT⟩
      · refine ⟨S1, 1, by omega, fun f => ?_, o1, Or.inl f1⟩
        rw [it_n st]
        exact it_x (L112_x (flt_p f1).2.1) _
      · obtain ⟨S2, c, g1, g2, g3, g4⟩ := M_loop hn k d S1 sp1 pt1 br1 ifs1 wb1 fr1 all1 bl1 _ _ (by omega) hT
        refine ⟨S2, c + 1, by omega, fun f => ?_, oh_trans o1 g3, ?_⟩
        · rw [show f + (c + 1) + 1 = (f + c + 1) + 1 by omega, it_n st]
          exact g2 f
        · rw [hr]
          rcases g4 with f2 | ⟨l, N, all2, bl2, q1, q2, q3⟩
          · exact Or.inl f2
          · refine Or.inr ⟨(d, brs) :: l, N, all2, bl2, ⟨h0, hlt, hs, TB_Bd hT, q1⟩, q2, ?_⟩
            show TB B n sd S2 N all2 bl2 (TRp (tkK B n) (tkL B n) (tkV B n) l d (tkP (tkK B n) (tkL B n) (tkV B n) P t brs)) (ow w (ow (tkF (tkK B n) (tkL B n) (tkV B n) P t) (TRf (tkK B n) (tkL B n) (tkV B n) l d (tkP (tkK B n) (tkL B n) (tkV B n) P t brs))))
            rw [← ow_a]
            exact q3
end TE
