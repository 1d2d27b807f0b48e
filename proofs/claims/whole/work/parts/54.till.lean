/-! MINUTES THAT GO BY, both sides. -/
def x_run (T : TX) (sd : Int32) (X : CT) : Nat → CT
  | 0 => X
  | n + 1 => x_go T sd (x_run T sd X n)
theorem x_go_n (T : TX) (sd : Int32) (X : CT) : cn (x_go T sd X) = cn X + 1 := x_lots_n T sd _ _
theorem x_run_n (T : TX) (sd : Int32) (X : CT) : ∀ n, cn (x_run T sd X n) = cn X + n := by
  intro n
  induction n with
  | zero => rfl
  | succ n ih =>
    rw [x_run, x_go_n, ih]
    rfl
theorem C_go1 {k kt : Nat} {S : St} {T : TX} {X : CT} (hT : tC kt S T) (h : cC k kt S T X) (hn : cn X < 299) (x1 x3 : Int32) : ∃ S', ((f_X0_moveMen k S).bind (fun (q3 : St) => (f_X0_setLates k q3).bind (fun (q4 : St) => (iter (f_X0_goTo_L30 k x1 x3) FU ((0 : Int32), q4)).bind (fun (S14 : St) => some (Sum.inl (α := Int32 × St) (β := St) ((x3 + 1), S14)))))) = some (.inl (x3 + 1, S')) ∧ tC kt S' T ∧ cC k kt S' T (x_go T (nI (tn T 5)) X) ∧ on (kC k kt) S S' := by
  obtain ⟨S1, w1, T1, C1, o1⟩ := C_moveMen hT h hn
  obtain ⟨S2, w2, T2, C2, o2⟩ := C_setLates T1 C1 (x_min_ok T X _)
  obtain ⟨S3, w3, T3, C3, o3⟩ := C_lots T2 C2 x1 x3
  exact ⟨S3, by rw [w1, bnd, w2, bnd, w3, bnd], T3, C3, on_trans o1 (on_trans o2 o3)⟩
theorem C_goTo {k kt : Nat} {S : St} {T : TX} {X : CT} (hT : tC kt S T) (h : cC k kt S T X) {e : Nat} (he : e ≤ 299) : ∃ S', f_X0_goTo k S (nI e) = some S' ∧ tC kt S' T ∧ cC k kt S' T (x_run T (nI (tn T 5)) X (e - cn X)) ∧ on (kC k kt) S S' := by
  have h1 := h.1.1
  have hi := iter_invF (step := f_X0_goTo_L7 k (nI e)) (x := (nI (cn X), S)) (fun i z => z.1 = nI (cn X + i) ∧ tC kt z.2 T ∧ cC k kt z.2 T (x_run T (nI (tn T 5)) X i) ∧ on (kC k kt) S z.2) (fun S' => tC kt S' T ∧ cC k kt S' T (x_run T (nI (tn T 5)) X (e - cn X)) ∧ on (kC k kt) S S') (e - cn X) (by omega) ⟨rfl, hT, h, on_refl _ _⟩ ?_ ?_
  · obtain ⟨S', w, q⟩ := hi
    refine ⟨S', ?_, q⟩
    unfold f_X0_goTo
    rw [h.2.2.2.1, w]
  · rintro i ⟨j, z⟩ hlt ⟨rfl, zT, zC, zo⟩
    change tC kt z T at zT
    change cC k kt z T (x_run T (nI (tn T 5)) X i) at zC
    change on (kC k kt) S z at zo
    left
    obtain ⟨S1, w, T1, C1, o1⟩ := C_go1 zT zC (by rw [x_run_n]; omega) (nI e) (nI (cn X + i))
    refine ⟨(nI (cn X + i) + 1, S1), ?_, (nI_succ _).symm, T1, C1, on_trans zo o1⟩
    unfold f_X0_goTo_L7
    rw [if_neg (show ¬ nI e ≤ nI (cn X + i) from nI_ge (by omega) (by omega)), if_neg (show ¬ (299 : Int32) ≤ nI (cn X + i) from nI_ge (b := 299) (by omega) (by omega))]
    exact w
  · rintro ⟨j, z⟩ ⟨rfl, zT, zC, zo⟩
    refine ⟨z, ?_, zT, zC, zo⟩
    unfold f_X0_goTo_L7
    rw [if_pos (show nI e ≤ nI (cn X + (e - cn X)) from nI_le (by omega) (by omega))]
theorem M_goesTill {s : Nat} {S : St} {T : TX} {X : CT} {sd : Int32} (hT : tM s S T) (h : cM 56 57 58 59 S T X) (hsd : st_I S (ky 0 60) = sd) {e : Nat} (he : e < 2 ^ 31) : ∃ S', f_X6_goesTill S (nI e) = some S' ∧ tM s S' T ∧ cM 56 57 58 59 S' T (x_run T sd X (min e 299 - cn X)) ∧ on (kM fsC) S S' := by
  have h1 := h.1.1
  have hi := iter_invF (step := f_X6_goesTill_L0 (nI e)) (x := S) (fun i z => tM s z T ∧ cM 56 57 58 59 z T (x_run T sd X i) ∧ on (kM fsC) S z) (fun S' => tM s S' T ∧ cM 56 57 58 59 S' T (x_run T sd X (min e 299 - cn X)) ∧ on (kM fsC) S S') (min e 299 - cn X) (by omega) ⟨hT, h, on_refl _ _⟩ ?_ ?_
  · obtain ⟨S', w, q⟩ := hi
    exact ⟨S', w, q⟩
  · rintro i z hlt ⟨zT, zC, zo⟩
    left
    have hz : st_I z (ky 0 60) = sd := ((zo _ (kM_n (by decide) (by decide) (by decide))).1).trans hsd
    have hc : cn (x_run T sd X i) < 299 := by rw [x_run_n]; omega
    obtain ⟨S1, w, T1, C1, o1⟩ := M_minuteGoes zT zC hc hz
    refine ⟨S1, ?_, T1, C1, on_trans zo o1⟩
    unfold f_X6_goesTill_L0
    rw [zC.2.1, if_neg (show ¬ nI e ≤ nI (cn (x_run T sd X i)) from nI_ge (by rw [x_run_n]; omega) (by omega)), if_neg (show ¬ (299 : Int32) ≤ nI (cn (x_run T sd X i)) from nI_ge (b := 299) hc (by omega)), w, bnd]
  · rintro z ⟨zT, zC, zo⟩
    refine ⟨z, ?_, zT, zC, zo⟩
    unfold f_X6_goesTill_L0
    have hc := x_run_n T sd X (min e 299 - cn X)
    rw [zC.2.1]
    by_cases c : e ≤ cn (x_run T sd X (min e 299 - cn X))
    · rw [if_pos (show nI e ≤ nI (cn (x_run T sd X (min e 299 - cn X))) from nI_le c (by omega))]
    · rw [if_neg (show ¬ nI e ≤ nI (cn (x_run T sd X (min e 299 - cn X))) from nI_ge (by omega) (by omega)), if_pos (show (299 : Int32) ≤ nI (cn (x_run T sd X (min e 299 - cn X))) from nI_le (a := 299) (by omega) (by omega))]
