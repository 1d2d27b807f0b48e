/-! QUESTIONS: deepest. -/
/-- from mirror m showing v, by d more mirrors, to o showing w -/
def Rw (X : CT) (nm : Nat) : Nat → Nat → Nat → Nat → Nat → Prop
  | 0, m, v, o, w => o = m ∧ w = v
  | d + 1, m, v, o, w => ∃ p u, p < nm ∧ s_in X m v p = some u ∧ Rw X nm d p u o w
theorem Rw_tail {X : CT} {nm : Nat} : ∀ d m v o w, Rw X nm (d + 1) m v o w ↔ ∃ p u, Rw X nm d m v p u ∧ o < nm ∧ s_in X p u o = some w := by
  intro d
  induction d with
  | zero =>
    intro m v o w
    constructor
    · rintro ⟨p, u, h1, h2, rfl, rfl⟩
      exact ⟨m, v, ⟨rfl, rfl⟩, h1, h2⟩
    · rintro ⟨p, u, ⟨rfl, rfl⟩, h1, h2⟩
      exact ⟨o, w, h1, h2, rfl, rfl⟩
  | succ d ih =>
    intro m v o w
    constructor
    · rintro ⟨p, u, h1, h2, h3⟩
      obtain ⟨p', u', g1, g2, g3⟩ := (ih p u o w).mp h3
      exact ⟨p', u', ⟨p, u, h1, h2, g1⟩, g2, g3⟩
    · rintro ⟨p', u', ⟨p, u, h1, h2, g1⟩, g2, g3⟩
      exact ⟨p, u, h1, h2, (ih p u o w).mpr ⟨p', u', g1, g2, g3⟩⟩
/-- x is the least by d more mirrors at most -/
def isL (X : CT) (nm d m v x : Nat) : Prop := (∃ j, j ≤ d ∧ ∃ o, Rw X nm j m v o x) ∧ ∀ j, j ≤ d → ∀ o w, Rw X nm j m v o w → x ≤ w
theorem isL_un {X : CT} {nm d m v x y : Nat} (h : isL X nm d m v x) (g : isL X nm d m v y) : x = y := by
  obtain ⟨⟨j, hj, o, ho⟩, h2⟩ := h
  obtain ⟨⟨j', hj', o', ho'⟩, g2⟩ := g
  have a := h2 j' hj' o' y ho'
  have b := g2 j hj o x ho
  omega
theorem isL_0 (X : CT) (nm m v : Nat) : isL X nm 0 m v v := by
  refine ⟨⟨0, Nat.le_refl _, m, rfl, rfl⟩, fun j hj o w h => ?_⟩
  have e : j = 0 := by omega
  subst e
  rw [h.2]
  exact Nat.le_refl _
theorem isL_ex {X : CT} {nm : Nat} (d m v : Nat) : ∃ x, isL X nm d m v x := by
  obtain ⟨x, h1, h2⟩ := pk_least (fun x => ∃ j, j ≤ d ∧ ∃ o, Rw X nm j m v o x) ⟨v, 0, Nat.zero_le _, m, rfl, rfl⟩
  refine ⟨x, h1, fun j hj o w h => ?_⟩
  rcases Nat.lt_or_ge w x with q | q
  · exact absurd ⟨j, hj, o, h⟩ (h2 w q)
  · exact q
noncomputable def s_L (X : CT) (nm d m v : Nat) : Nat := Classical.choose (isL_ex (X := X) (nm := nm) d m v)
theorem s_L_s (X : CT) (nm d m v : Nat) : isL X nm d m v (s_L X nm d m v) := Classical.choose_spec (isL_ex (X := X) (nm := nm) d m v)
theorem s_L_le (X : CT) (nm d m v : Nat) : s_L X nm d m v ≤ v := (s_L_s X nm d m v).2 0 (Nat.zero_le _) m v ⟨rfl, rfl⟩
theorem s_L_mono (X : CT) (nm d m v : Nat) : s_L X nm (d + 1) m v ≤ s_L X nm d m v := by
  obtain ⟨⟨j, hj, o, ho⟩, _⟩ := s_L_s X nm d m v
  exact (s_L_s X nm (d + 1) m v).2 j (by omega) o _ ho
section QO
variable {kt s : Nat} {A : AB} {S M M' : St} {T : TX} {X : CT}
theorem C_seenX (hT : tC kt S T) (h : cC 10 kt S T X) {m v o : Nat} (ho : ¬ o < tn T 3) (ho2 : o < 100) (hv : v < 2 ^ 31) : f_X0_seenIn 10 S (nI m) (nI v) (nI o) = some (-2) := by
  have b3 := hT.1.2.2.2.1
  unfold f_X0_seenIn
  rw [if_neg (nI_pos hv)]
  by_cases c : nI o = nI m
  · rw [if_pos c]
  · rw [if_neg c, chk_t (cC_T hT h), h.2.2.1, tC_n hT (by decide), if_neg (show ¬ nI o < nI (tn T 3) from nI_nlt (by omega) (by omega))]
theorem C_least (hT : tC kt S T) (h : cC 10 kt S T X) : ∀ (d dd : Nat), d ≤ 3 → d < dd → ∀ m v, m < tn T 3 → v ≤ cn X → f_X5_leastSeen dd 10 S (nI m) (nI v) (nI (d + 1)) = some (nI (s_L X (tn T 3) d m v)) := by
  have b3 := hT.1.2.2.2.1
  have hn := h.1.1
  intro d
  induction d with
  | zero =>
    intro dd _ hdd m v hm hv
    obtain ⟨e, rfl⟩ : ∃ e, dd = e + 1 := ⟨dd - 1, by omega⟩
    have e0 : s_L X (tn T 3) 0 m v = v := isL_un (s_L_s X (tn T 3) 0 m v) (isL_0 X (tn T 3) m v)
    show f_X5_leastSeen_B (f_X5_leastSeen e) 10 S (nI m) (nI v) (nI 1) = _
    unfold f_X5_leastSeen_B
    rw [if_pos (show nI 1 ≤ (1 : Int32) by decide), e0]
  | succ d ih =>
    intro dd hd3 hdd m v hm hv
    obtain ⟨e, rfl⟩ : ∃ e, dd = e + 1 := ⟨dd - 1, by omega⟩
    show f_X5_leastSeen_B (f_X5_leastSeen e) 10 S (nI m) (nI v) (nI (d + 1 + 1)) = _
    unfold f_X5_leastSeen_B
    rw [if_neg (show ¬ nI (d + 1 + 1) ≤ (1 : Int32) from nI_ge (a := 1) (by omega) (by omega)), if_pos (show nI (d + 1 + 1) ≤ (4 : Int32) from nI_le (b := 4) (by omega) (by decide))]
    have ed : nI (d + 1 + 1) - (1 : Int32) = nI (d + 1) := nI_pred _
    have hi := iter_invF (step := f_X5_leastSeen_L19 (f_X5_leastSeen e) 10 S (nI m) (nI v) (nI (d + 1 + 1))) (x := (nI v, (0 : Int32))) (fun i z => z.2 = nI i ∧ ∃ B, z.1 = nI B ∧ B ≤ v ∧ (B = v ∨ ∃ o u, o < tn T 3 ∧ s_in X m v o = some u ∧ s_L X (tn T 3) d o u = B) ∧ ∀ o u, o < i → o < tn T 3 → s_in X m v o = some u → B ≤ s_L X (tn T 3) d o u) (fun w => w = nI (s_L X (tn T 3) (d + 1) m v)) 8 (by decide) ⟨rfl, v, rfl, Nat.le_refl _, Or.inl rfl, fun o u ho => absurd ho (Nat.not_lt_zero _)⟩ ?_ ?_
    · obtain ⟨w, hw, rfl⟩ := hi
      exact hw
    · rintro i ⟨z1, z2⟩ hlt ⟨e2, B, e1, hB, hB1, hB2⟩
      change z2 = _ at e2
      change z1 = _ at e1
      subst e1 e2
      left
      show ∃ y, f_X5_leastSeen_L19 (f_X5_leastSeen e) 10 S (nI m) (nI v) (nI (d + 1 + 1)) (nI B, nI i) = _ ∧ _
      unfold f_X5_leastSeen_L19
      rw [if_neg (show ¬ (8 : Int32) ≤ nI i from nI_ge (b := 8) hlt (by decide))]
      by_cases ci : i < tn T 3
      · rw [C_seenIn hT h hm ci hv, bnd]
        cases hs : s_in X m v i with
        | none =>
          rw [if_pos (show oI none < 0 by decide), ← nI_succ]
          refine ⟨_, rfl, rfl, B, rfl, hB, hB1, fun o u ho1 ho2 ho3 => ?_⟩
          by_cases q : o = i
          · rw [q, hs] at ho3
            cases ho3
          · exact hB2 o u (by omega) ho2 ho3
        | some u =>
          have hu := s_in_le h.1 ci hs
          have g := ih e (by omega) (by omega) i u ci (by omega)
          have hle := s_L_le X (tn T 3) d i u
          rw [if_neg (show ¬ oI (some u) < 0 from nI_pos (by omega)), ed, show oI (some u) = nI u from rfl, g, bnd, min_nI (by omega) (by omega), ← nI_succ]
          refine ⟨_, rfl, rfl, _, rfl, by omega, ?_, fun o u' ho1 ho2 ho3 => ?_⟩
          · by_cases q : B ≤ s_L X (tn T 3) d i u
            · rw [Nat.min_eq_left q]
              exact hB1
            · rw [Nat.min_eq_right (by omega)]
              exact Or.inr ⟨i, u, ci, hs, rfl⟩
          · by_cases q : o = i
            · rw [q] at ho3 ⊢
              rw [hs] at ho3
              cases ho3
              omega
            · have := hB2 o u' (by omega) ho2 ho3
              omega
      · rw [C_seenX hT h ci (by omega) (by omega), bnd, if_pos (by decide), ← nI_succ]
        exact ⟨_, rfl, rfl, B, rfl, hB, hB1, fun o u ho1 ho2 ho3 => hB2 o u (by omega) ho2 ho3⟩
    · rintro ⟨z1, z2⟩ ⟨e2, B, e1, hB, hB1, hB2⟩
      change z2 = _ at e2
      change z1 = _ at e1
      subst e1 e2
      refine ⟨nI B, ?_, ?_⟩
      · unfold f_X5_leastSeen_L19
        rw [if_pos (show (8 : Int32) ≤ nI 8 from nI_le (Nat.le_refl 8) (by decide))]
      · have hL : isL X (tn T 3) (d + 1) m v B := by
          constructor
          · rcases hB1 with q | ⟨o, u, ho, hs, q⟩
            · exact ⟨0, Nat.zero_le _, m, rfl, q⟩
            · obtain ⟨⟨j, hj, o', ho'⟩, _⟩ := s_L_s X (tn T 3) d o u
              rw [q] at ho'
              exact ⟨j + 1, by omega, o', o, u, ho, hs, ho'⟩
          · intro j hj o w hw
            cases j with
            | zero =>
              rw [hw.2]
              exact hB
            | succ j =>
              obtain ⟨p, u, hp, hs, hr⟩ := hw
              have g := hB2 p u (by omega) hp hs
              have g2 := (s_L_s X (tn T 3) d p u).2 j (by omega) o w hr
              omega
        rw [isL_un hL (s_L_s X (tn T 3) (d + 1) m v)]
end QO
