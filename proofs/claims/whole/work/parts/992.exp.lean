/-! THE REFERENCE READS AN EXPRESSION. -/
abbrev fsE : List Nat := [11, 12, 13, 14, 44, 45, 46, 47, 48]
theorem syPop_pre (st : Bool) (pre : List (Nat × Nat)) : ∀ (wt : List Nat) (o : List (Nat × Nat)), syPop st (pre ++ o) wt = (pre ++ (syPop st o wt).1, (syPop st o wt).2)
  | [], o => rfl
  | w :: r, o => by
    rw [syPop, syPop]
    by_cases c : w = 6 ∨ st = true ∧ (w = 8 ∨ w = 9)
    · rw [if_pos c, if_pos c]
    · rw [if_neg c, if_neg c, List.append_assoc, syPop_pre st pre r]
/-- 'pre': what was emitted ahead of the expression, from (420 * sd) on -/
def EX (B : Nat → Nat) (n t0 sd : Nat) (pre : List (Nat × Nat)) (S : St) (t br : Nat) (e : Bool) : Prop := atM B n S t ∧ st_I S (ky 0 12) = nI br ∧ t0 ≤ t ∧ br ≤ 6 ∧ (pre.length ≤ t0 ∧ sd < 2) ∧ exM (420 * sd) S (pre ++ (sy (tkK B n) (tkV B n) t0 (t - t0)).1, (sy (tkK B n) (tkV B n) t0 (t - t0)).2) ∧ syOK e br (t - t0) (sy (tkK B n) (tkV B n) t0 (t - t0))
theorem sy_s (tk tv : Nat → Nat) {t0 t : Nat} (h : t0 ≤ t) : sy tk tv t0 (t + 1 - t0) = syStep (sy tk tv t0 (t - t0)) (tk t) (tv t) := by
  rw [show t + 1 - t0 = (t - t0) + 1 by omega, sy, show t0 + (t - t0) = t by omega]
section EXS
variable {B : Nat → Nat} {n t0 sd tel sp pt ifs : Nat} {cn : Nat → Nat} {pre : List (Nat × Nat)}
/-- one is in a law, and no sort is too many -/
def inL (tel sp pt ifs : Nat) (cn : Nat → Nat) : Prop := tel ≠ 0 ∧ due tel sp = 99 ∧ pt ≠ 0 ∧ ¬ mostN.getD (tel - 20) 0 < cn (tel - 20) ∧ ifs ≤ 4
theorem inL_m (h : inL tel sp pt ifs cn) {br : Nat} (w fr : Bool) (hb : br ≤ 6) (p : Nat) : many (tel, sp, p, w, fr, br, ifs, cn) = false := by
  have h4 := h.2.2.2.2
  exact decide_eq_false (fun z => z.elim (fun y => h.2.2.2.1 y.2) (fun y => by omega))
theorem inL_7 (w fr : Bool) : many (tel, sp, pt, w, fr, 7, ifs, cn) = true := decide_eq_true (Or.inr (Or.inr (by decide)))
theorem gq_w (h : inL tel sp pt ifs cn) (fr : Bool) (br k : Nat) : goQ (tel, sp, pt, true, fr, br, ifs, cn) k = uBeg (tel, sp, pt, true, fr, br, ifs, cn) k := by
  have e : goQ (tel, sp, pt, true, fr, br, ifs, cn) k = if tel = 0 then (if 20 ≤ k ∧ k < 28 then some (k, 0, 0, true, true, 0, 0, fun i => if i = k - 20 then cn i + 1 else cn i) else none) else if due tel sp = 99 then (if pt = 0 then (if k = 5 then some (tel, sp, 4, true, true, br, ifs, cn) else none) else uBeg (tel, sp, pt, true, fr, br, ifs, cn) k) else if k = due tel sp then some (if due tel sp = 4 then 0 else tel, sp + 1, pt, true, fr, br, ifs, cn) else none := rfl
  rw [e, if_neg h.1, if_pos h.2.1, if_neg h.2.2.1]
theorem gq_e (h : inL tel sp pt ifs cn) (fr : Bool) (br k : Nat) : goQ (tel, sp, pt, false, fr, br, ifs, cn) k = uEnd (tel, sp, pt, false, fr, br, ifs, cn) k := by
  have e : goQ (tel, sp, pt, false, fr, br, ifs, cn) k = if tel = 0 then (if 20 ≤ k ∧ k < 28 then some (k, 0, 0, true, true, 0, 0, fun i => if i = k - 20 then cn i + 1 else cn i) else none) else if due tel sp = 99 then (if pt = 0 then (if k = 5 then some (tel, sp, 4, true, true, br, ifs, cn) else none) else uEnd (tel, sp, pt, false, fr, br, ifs, cn) k) else if k = due tel sp then some (if due tel sp = 4 then 0 else tel, sp + 1, pt, false, fr, br, ifs, cn) else none := rfl
  rw [e, if_neg h.1, if_pos h.2.1, if_neg h.2.2.1]
theorem uBeg_e (fr : Bool) (br k : Nat) : uBeg (tel, sp, pt, true, fr, br, ifs, cn) k = if k = 28 ∧ pt = 4 ∧ fr = true then some (tel, sp, 1, true, true, br, ifs + 1, cn) else if k = 6 then some (tel, sp, pt, true, false, br + 1, ifs, cn) else if k = 2 ∨ 31 ≤ k then some (tel, sp, pt, false, false, br, ifs, cn) else none := rfl
theorem EX_len {S : St} {t br : Nat} {e : Bool} (h : EX B n t0 sd pre S t br e) : (sy (tkK B n) (tkV B n) t0 (t - t0)).2.length ≤ 23 ∧ pre.length + (sy (tkK B n) (tkV B n) t0 (t - t0)).1.length + (sy (tkK B n) (tkV B n) t0 (t - t0)).2.length ≤ 400 ∧ sd < 2 := by
  have h1 := nOp_le h.2.2.2.2.2.2 (by have := h.2.2.2.1; omega)
  have h2 := h.2.2.2.2.2.2.2.2.2.2
  have h3 := h.1.2.2.1
  have h4 := h.2.2.2.2.1
  have h5 := h.2.2.1
  exact ⟨h1.2, by omega, by omega⟩
/-- one bracket more -/
theorem M_open {S : St} {t br : Nat} {fr : Bool} (hL : inL tel sp pt ifs cn) (h : EX B n t0 sd pre S t br false) (h6 : tkK B n t = 6) (x1 : Int32) : ∃ S', f_X6_expression_L23 x1 S = some (.inl S') ∧ oh sd fsE S S' ∧ (fltM B n S' (rn (tkK B n) t (tel, sp, pt, true, fr, br, ifs, cn)) ∨ (EX B n t0 sd pre S' (t + 1) (br + 1) false ∧ rn (tkK B n) t (tel, sp, pt, true, fr, br, ifs, cn) = rn (tkK B n) (t + 1) (tel, sp, pt, true, false, br + 1, ifs, cn))) := by
  have h400 := h.1.2.2.1
  have hb := h.2.2.2.1
  have hl := EX_len h
  have hg : goQ (tel, sp, pt, true, fr, br, ifs, cn) (tkK B n t) = some (tel, sp, pt, true, false, br + 1, ifs, cn) := by
    rw [gq_w hL, uBeg_e, h6, if_neg (fun z => absurd z.1 (by decide)), if_pos rfl]
  have h0 : tkK B n t ≠ 0 := by rw [h6]; decide
  have run := rn_e (tkK B n) (tel, sp, pt, true, fr, br, ifs, cn) h400
  rw [if_neg h0, hg, aft_s] at run
  have e48 : st_I S (ky 0 48) = nI (sy (tkK B n) (tkV B n) t0 (t - t0)).2.length := h.2.2.2.2.2.1.1
  -- what follows the bracket, from any state like S
  have tail : ∀ Z : St, st_I Z (ky 0 48) = nI (sy (tkK B n) (tkV B n) t0 (t - t0)).2.length → (chk (ib (st_I Z (ky 0 48)) 64) (lt_v (up_A Z (ky 0 47) (upd (st_A Z (ky 0 47)) (st_I Z (ky 0 48)).toNatClampNeg (6 : Int32))) (fun (S9 : St) => lt_v (up_I S9 (ky 0 48) ((st_I S9 (ky 0 48)) + (1 : Int32))) (fun (S10 : St) => some (.inl S10)))) : Option (St ⊕ St)) = some (.inl (up_I (up_A Z (ky 0 47) (upd (st_A Z (ky 0 47)) (sy (tkK B n) (tkV B n) t0 (t - t0)).2.length (6 : Int32))) (ky 0 48) (nI ((sy (tkK B n) (tkV B n) t0 (t - t0)).2.length + 1)))) := by
    intro Z hZ
    have hZ2 : ∀ f, st_I (up_A Z (ky 0 47) f) (ky 0 48) = nI (sy (tkK B n) (tkV B n) t0 (t - t0)).2.length := fun _ => hZ
    rw [hZ, chk_t (ib_nI (by omega) (by decide)), nI_clamp (by omega), lt_e, hZ2, nI_1, lt_e]
  have tailO : ∀ Z : St, oh sd fsE Z (up_I (up_A Z (ky 0 47) (upd (st_A Z (ky 0 47)) (sy (tkK B n) (tkV B n) t0 (t - t0)).2.length (6 : Int32))) (ky 0 48) (nI ((sy (tkK B n) (tkV B n) t0 (t - t0)).2.length + 1))) := fun Z => oh_trans (oh_A _ _ _ (by decide) (by decide)) (oh_I _ _ _ (by decide))
  have o12 : ∀ (Z : St) (x : Int32), oh sd fsE Z (up_I Z (ky 0 12) x) := fun Z x => oh_I _ _ _ (by decide)
  have is6 : f_X6_is S (6 : Int32) = some 1 := by
    rw [show (6 : Int32) = nI 6 from rfl, M_is h.1 6 (by decide), if_pos h6]
  unfold f_X6_expression_L23
  rw [is6, bnd, if_neg ne01, h.2.1]
  by_cases c6 : br = 6
  · obtain ⟨e, f⟩ := M_fail h.1 (k := 2) (Or.inr rfl)
    rw [if_pos (show nI br = (6 : Int32) by rw [c6]; rfl), show f_X6_fail S (2 : Int32) = _ from e, bnd]
    have run2 : rn (tkK B n) t (tel, sp, pt, true, fr, br, ifs, cn) = (2, t) := by
      rw [run, if_pos (Or.inr (by rw [c6]; exact inL_7 true false))]
    rw [run2]
    unfold f_X6_expression_J46
    rw [lt_e]
    -- the state after the fault
    have f7 : fltM B n (up_I (upFl S (nI 2) (nI (ps B n t))) (ky 0 12) (nI br + (1 : Int32))) (2, t) := ⟨f.1, f.2.1, f.2.2⟩
    have e12 : st_I (upFl S (nI 2) (nI (ps B n t))) (ky 0 12) = nI br := h.2.1
    rw [e12]
    have oF : oh sd fsE S (upFl S (nI 2) (nI (ps B n t))) := oh_ofS (by decide) (by decide) (upFl_on S (nI 2) (nI (ps B n t)))
    have e11 : st_I (up_I (upFl S (nI 2) (nI (ps B n t))) (ky 0 12) (nI br + (1 : Int32))) (ky 0 11) = nI t := h.1.2.1
    unfold f_X6_goesOn
    rw [e11]
    by_cases c4 : t = 400
    · rw [if_pos (show nI t = (400 : Int32) by rw [c4]; rfl), M_failF f7, bnd, bnd, tail (up_I (upFl S (nI 2) (nI (ps B n t))) (ky 0 12) (nI br + (1 : Int32))) e48]
      exact ⟨_, rfl, oh_trans (oh_trans oF (o12 _ _)) (tailO _), Or.inl ⟨f7.1, f7.2.1, f7.2.2⟩⟩
    · rw [if_neg (show ¬ nI t = (400 : Int32) from nI_eq' (b := 400) (by omega) (by decide) c4), lt_e, bnd, tail (up_I (up_I (upFl S (nI 2) (nI (ps B n t))) (ky 0 12) (nI br + (1 : Int32))) (ky 0 11) (nI t + (1 : Int32))) e48]
      exact ⟨_, rfl, oh_trans (oh_trans (oh_trans oF (o12 _ _)) (oh_I _ _ _ (by decide))) (tailO _), Or.inl ⟨f7.1, f7.2.1, f7.2.2⟩⟩
  · rw [if_neg (show ¬ nI br = (6 : Int32) from nI_eq' (b := 6) (by omega) (by decide) c6)]
    unfold f_X6_expression_J46
    rw [lt_e, h.2.1, nI_1]
    have h7 : atM B n (up_I S (ky 0 12) (nI (br + 1))) t := h.1
    rcases M_go h7 (q := (tel, sp, pt, true, fr, br, ifs, cn)) h0 hg (inL_m hL true false (by omega) pt) with ⟨S', a, b, d⟩ | ⟨a, b, d, e⟩
    · rw [a, bnd]
      have e48' : st_I S' (ky 0 48) = nI (sy (tkK B n) (tkV B n) t0 (t - t0)).2.length := by
        rw [(b _ (kM_n (by decide) (by decide) (by decide))).1]
        exact e48
      rw [tail _ e48']
      exact ⟨_, rfl, oh_trans (oh_trans (o12 _ _) (oh_ofS (by decide) (by decide) b)) (tailO _), Or.inl ⟨d.1, d.2.1, d.2.2⟩⟩
    · rw [b, bnd, tail (up_I (up_I S (ky 0 12) (nI (br + 1))) (ky 0 11) (nI (t + 1))) e48]
      refine ⟨_, rfl, oh_trans (oh_trans (o12 _ _) (oh_I _ _ _ (by decide))) (tailO _), Or.inr ⟨⟨d, rfl, by have := h.2.2.1; omega, by omega, h.2.2.2.2.1, ?_, ?_⟩, e⟩⟩
      · rw [sy_s _ _ h.2.2.1, h6]
        have hx := h.2.2.2.2.2.1
        exact ⟨rfl, stk_push 6 hx.2.1, hx.2.2.1, hx.2.2.2.1, fun w hw => (List.mem_cons.mp hw).elim (fun z => Or.inl z) (fun z => hx.2.2.2.2 w z)⟩
      · have ho := syOK_open h.2.2.2.2.2.2 (tkV B n t)
        rw [sy_s _ _ h.2.2.1, h6, show t + 1 - t0 = t - t0 + 1 by have := h.2.2.1; omega]
        exact ho
end EXS
