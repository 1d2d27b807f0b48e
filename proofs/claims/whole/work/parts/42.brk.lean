/-! A MIRROR BREAKS NOW. -/
theorem lt_e {α β : Type} (v : α) (f : α → β) : lt_v v f = f v := rfl
def x_break (X : CT) (m : Nat) : CT := (cn X, cf X, cw X, (fun j => if j = m then some (cn X) else ck X j), fun j => if j = m then s_show X m (cn X) else cz X j)
theorem cb_break {T : TX} {X : CT} (h : cb T X) {m : Nat} (hm : m < tn T 3) : cb T (x_break X m) := by
  refine ⟨h.1, h.2.1, fun j hj b hb => ?_⟩
  change (if j = m then some (cn X) else ck X j) = some b at hb
  show b ≤ cn X ∧ ∀ v, (if j = m then s_show X m (cn X) else cz X j) = some v → v ≤ b
  by_cases e : j = m
  · rw [if_pos e] at hb
    cases hb
    refine ⟨Nat.le_refl _, fun v hv => ?_⟩
    rw [if_pos e] at hv
    exact s_show_le h hm hv
  · rw [if_neg e] at hb
    refine ⟨(h.2.2 j hj b hb).1, fun v hv => ?_⟩
    rw [if_neg e] at hv
    exact (h.2.2 j hj b hb).2 v hv
theorem C_breakNow {k kt : Nat} {S : St} {T : TX} {X : CT} (hT : tC kt S T) (h : cC k kt S T X) {m : Nat} (hm : m < tn T 3) : ∃ S', f_X0_breakNow k S (nI m) = some S' ∧ cC k kt S' T (x_break X m) ∧ on (kC k kt) S S' := by
  have h8 := hT.1.2.2.2.1
  have hk := h.2.1
  refine ⟨up_A (up_A S (ky k 8) (upd (st_A S (ky k 8)) m (oI (s_show X m (cn X))))) (ky k 7) (upd (st_A S (ky k 7)) m (nI (cn X))), ?_, ?_, ?_⟩
  · unfold f_X0_breakNow
    rw [h.2.2.2.1, C_showing hT h hm (Nat.le_refl _) trivial, Option.bind_some, put_nI (lnC hk (by decide) (n := 8) rfl) (by omega) (by decide), Option.bind_some, gI_A, h.2.2.2.1, put_nI (lnC hk (by decide) (n := 8) rfl) (by omega) (by decide), Option.bind_some, gA_A, if_neg (ky_ne (by decide) (by decide) (by omega))]
  · refine ⟨cb_break h.1 hm, hk, h.2.2.1, h.2.2.2.1, ?_, fun j hj => ?_⟩
    · intro t ht
      have g := h.2.2.2.2.1 t ht
      have e : ∀ f, f < 7 → st_A (up_A (up_A S (ky k 8) (upd (st_A S (ky k 8)) m (oI (s_show X m (cn X))))) (ky k 7) (upd (st_A S (ky k 7)) m (nI (cn X)))) (ky k f) = st_A S (ky k f) := fun f hf => by rw [gA_A, if_neg (ky_ne (by omega) (by decide) (by omega)), gA_A, if_neg (ky_ne (by omega) (by decide) (by omega))]
      rw [e 2 (by decide), e 3 (by decide), e 4 (by decide), e 5 (by decide), e 6 (by decide)]
      exact g
    · rw [gA_A, if_pos rfl, gA_A, if_neg (ky_ne (by decide) (by decide) (by omega)), gA_A, if_pos rfl]
      show upd (st_A S (ky k 7)) m (nI (cn X)) j = bkC (if j = m then some (cn X) else ck X j) ∧ ((if j = m then some (cn X) else ck X j) ≠ none → upd (st_A S (ky k 8)) m (oI (s_show X m (cn X))) j = oI (if j = m then s_show X m (cn X) else cz X j))
      rw [upd_e, upd_e]
      by_cases e : j = m
      · rw [if_pos e, if_pos e, if_pos e, if_pos e]
        exact ⟨rfl, fun _ => rfl⟩
      · rw [if_neg e, if_neg e, if_neg e, if_neg e]
        exact h.2.2.2.2.2 j hj
  · exact on_trans (on_A S _ _ (Or.inl ⟨8, by decide, by decide, rfl⟩)) (on_A _ _ _ (Or.inl ⟨7, by decide, by decide, rfl⟩))
theorem M_breaksNow {s : Nat} {S : St} {T : TX} {X : CT} (hT : tM s S T) (h : cM 56 57 58 59 S T X) {m : Nat} (hm : m < tn T 3) : ∃ S', f_X6_breaksNow S (nI m) = some S' ∧ cM 56 57 58 59 S' T (x_break X m) ∧ on (kM fsC) S S' := by
  have h8 := hT.1.2.2.2.1
  refine ⟨up_A (up_A S (ky 0 59) (upd (st_A S (ky 0 59)) m (oI (s_show X m (cn X))))) (ky 0 58) (upd (st_A S (ky 0 58)) m (nI (cn X))), ?_, ?_, ?_⟩
  · unfold f_X6_breaksNow
    rw [h.2.1, M_shows hT h hm (Nat.le_refl _) trivial, Option.bind_some, chk_t (ib_nI (by omega) (by decide)), nI_clamp (by omega)]
    rw [lt_e, chk_t (ib_nI (by omega) (by decide)), lt_e, gI_A, h.2.1, gA_A, if_neg (ky_ne (by decide) (by decide) (by omega))]
  · refine ⟨cb_break h.1 hm, h.2.1, ?_, fun j hj => ?_⟩
    · rw [gA_A, if_neg (ky_ne (by decide) (by decide) (by omega)), gA_A, if_neg (ky_ne (by decide) (by decide) (by omega))]
      exact h.2.2.1
    · rw [gA_A, if_pos rfl, gA_A, if_neg (ky_ne (by decide) (by decide) (by omega)), gA_A, if_pos rfl]
      show upd (st_A S (ky 0 58)) m (nI (cn X)) j = bkM (if j = m then some (cn X) else ck X j) ∧ ((if j = m then some (cn X) else ck X j) ≠ none → upd (st_A S (ky 0 59)) m (oI (s_show X m (cn X))) j = oI (if j = m then s_show X m (cn X) else cz X j))
      rw [upd_e, upd_e]
      by_cases e : j = m
      · rw [if_pos e, if_pos e, if_pos e, if_pos e]
        exact ⟨rfl, fun _ => rfl⟩
      · rw [if_neg e, if_neg e, if_neg e, if_neg e]
        exact h.2.2.2 j hj
  · exact on_trans (on_A S _ _ ⟨59, by decide, rfl⟩) (on_A _ _ _ ⟨58, by decide, rfl⟩)
