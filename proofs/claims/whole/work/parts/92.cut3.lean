/-! TOKENS: the reference's, all of them. -/
theorem nx_le (B : Nat → Nat) {n i : Nat} (h : i ≤ n) : nx B n i ≤ n := adv_hi h
theorem nx_n (B : Nat → Nat) (n : Nat) : nx B n n = n := adv_ge (Nat.le_refl _)
theorem tpM_on {B : Nat → Nat} {n : Nat} {S S' : St} (h : tpM B n S) (o : on (kM fsCut) S S') : tpM B n S' := by
  refine ⟨h.1, h.2.1, ?_, ?_⟩
  · rw [(o _ (kM_n (by decide) (by decide) (by decide))).1]; exact h.2.2.1
  · rw [(o _ (kM_n (by decide) (by decide) (by decide))).2.1]; exact h.2.2.2
theorem wrdM_on {S S' : St} (h : wrdM S) (o : on (kM fsCut) S S') : wrdM S' := by
  unfold wrdM
  rw [(o _ (kM_n (by decide) (by decide) (by decide))).2.2.2.1]
  exact h
def cutI (B : Nat → Nat) (n : Nat) (S0 : St) (k : Nat) (z : Int32 × St) : Prop := ∃ i c, k ≤ i ∧ i ≤ n ∧ c ≤ 401 ∧ z.1 = nI i ∧ on (kM fsCut) S0 z.2 ∧ st_I z.2 (ky 0 10) = nI c ∧ nx B n i = ps B n c ∧ ∀ t, t < c → ps B n t < n ∧ tokM B n z.2 t
def cutQ (B : Nat → Nat) (n : Nat) (S0 : St) (r : St ⊕ St) : Prop := match r with
  | .inl S' => ∃ c, c ≤ 400 ∧ on (kM fsCut) S0 S' ∧ st_I S' (ky 0 10) = nI c ∧ ps B n c = n ∧ ∀ t, t < c → ps B n t < n ∧ tokM B n S' t
  | .inr S' => on (kM fsCut) S0 S' ∧ ∀ t, t < 401 → tokM B n S' t
theorem tkK_0 {B : Nat → Nat} {n t : Nat} : tkK B n t = 0 ↔ n ≤ ps B n t := by
  unfold tkK
  by_cases c : n ≤ ps B n t
  · rw [if_pos c]; exact ⟨fun _ => c, fun _ => rfl⟩
  · rw [if_neg c]; exact ⟨fun q => absurd q (kd_pos _ _ _), fun q => absurd q c⟩
theorem M_cut {B : Nat → Nat} {n : Nat} {S : St} (h : tpM B n S) (hw : wrdM S) : ∃ S', f_X6_cut S = some S' ∧ on (kM fsCut) S S' ∧ ∀ t, t ≤ 400 → (∀ u, u < t → tkK B n u ≠ 0) → tokM B n S' t := by
  have hn := h.1
  have o0 : on (kM fsCut) S (up_I S (ky 0 10) (0 : Int32)) := on_I _ _ _ ⟨10, by decide, rfl⟩
  have main : ∃ r, iter f_X6_cut_L7 FU ((0 : Int32), up_I S (ky 0 10) (0 : Int32)) = some r ∧ cutQ B n S r := by
    refine iter_invF (cutI B n S) (cutQ B n S) n (by omega) ?_ ?_ ?_
    · exact ⟨0, 0, Nat.le_refl _, Nat.zero_le _, Nat.zero_le _, rfl, o0, gIs .., rfl, fun t ht => absurd ht (Nat.not_lt_zero _)⟩
    · rintro k ⟨z1, Z⟩ hk ⟨i, c, h1, h2, h3, h4, o, h5, h6, h7⟩
      have h4' : z1 = nI i := h4
      subst h4'
      have o' : on (kM fsCut) S Z := o
      have h5' : st_I Z (ky 0 10) = nI c := h5
      have hT := tpM_on h o'
      by_cases q : c = 401
      · refine Or.inr ⟨.inr Z, ?_, o', fun t ht => (h7 t (by omega)).2⟩
        unfold f_X6_cut_L7
        show (if (400 : Int32) < st_I Z (ky 0 10) then _ else _) = _
        rw [h5', if_pos (show (400 : Int32) < nI c from nI_lt (a := 400) (by omega) (by omega))]
      by_cases q2 : i = n
      · refine Or.inr ⟨.inl Z, ?_, c, by omega, o', h5', by rw [← h6, q2, nx_n], h7⟩
        unfold f_X6_cut_L7
        show (if (400 : Int32) < st_I Z (ky 0 10) then _ else (f_X6_byteAt Z (nI i)).bind _) = _
        rw [h5', if_neg (show ¬ (400 : Int32) < nI c from nI_nlt (b := c) (a := 400) (by omega) (by decide)), M_byte hT (by omega), bnd]
        show (if nI i < st_I Z (ky 0 4) then _ else _) = _
        rw [hT.2.2.1, if_neg (nI_nlt (by omega) (by omega))]
      have hi : i < n := by omega
      cases hb : bk (B i) with
      | true =>
        refine Or.inl ⟨(nI (i + 1), Z), ?_, i + 1, c, by omega, hi, h3, rfl, o', h5', ?_, h7⟩
        · have hbc := of_decide_eq_true hb
          unfold f_X6_cut_L7
          show (if (400 : Int32) < st_I Z (ky 0 10) then _ else (f_X6_byteAt Z (nI i)).bind _) = _
          rw [h5', if_neg (show ¬ (400 : Int32) < nI c from nI_nlt (b := c) (a := 400) (by omega) (by decide)), M_byte hT (by omega), if_pos hi, bnd]
          show (if nI i < st_I Z (ky 0 4) then _ else _) = _
          rw [hT.2.2.1, if_pos (nI_lt hi (by omega))]
          rcases hbc with e | e | e | e
          · rw [e, if_pos (show nI 9 = (9 : Int32) from rfl)]
            show some (Sum.inl (nI i + 1, Z)) = _
            rw [nI_1]
          · rw [e, if_neg (show ¬ nI 10 = (9 : Int32) by decide), if_pos (show nI 10 = (10 : Int32) from rfl)]
            show some (Sum.inl (nI i + 1, Z)) = _
            rw [nI_1]
          · rw [e, if_neg (show ¬ nI 13 = (9 : Int32) by decide), if_neg (show ¬ nI 13 = (10 : Int32) by decide), if_pos (show nI 13 = (13 : Int32) from rfl)]
            show some (Sum.inl (nI i + 1, Z)) = _
            rw [nI_1]
          · rw [e, if_neg (show ¬ nI 32 = (9 : Int32) by decide), if_neg (show ¬ nI 32 = (10 : Int32) by decide), if_neg (show ¬ nI 32 = (13 : Int32) by decide), if_pos (show nI 32 = (32 : Int32) from rfl)]
            show some (Sum.inl (nI i + 1, Z)) = _
            rw [nI_1]
        · rw [← h6]
          exact (adv_t (p := fun j => bk (B j)) hi hb).symm
      | false =>
        have e1 : nx B n i = i := adv_f (p := fun j => bk (B j)) hb
        have e2 : ps B n c = i := by rw [← h6, e1]
        obtain ⟨x3, x4, g1, g2, g3⟩ := M_cutStep hT (wrdM_on hw o') hi hb (by omega) h5'
        obtain ⟨b1, b2⟩ := te_b (B := B) hn hi
        have ek : tkK B n c = kd B n i := by
          unfold tkK
          rw [e2, if_neg (by omega)]
        refine Or.inl ⟨_, g1, te B n i, c + 1, by omega, b2, by omega, rfl, on_trans o' (upTk_on _ _ _ _ _ _), upTk_10 .., ?_, ?_⟩
        · show _ = nx B n (te B n (ps B n c))
          rw [e2]
        · intro t ht
          by_cases q3 : t < c
          · exact ⟨(h7 t q3).1, upTk_n Z c _ _ _ _ q3 (h7 t q3).2⟩
          · have : t = c := by omega
            subst this
            refine ⟨by rw [e2]; exact hi, upTk_s Z t (by rw [ek]) (by rw [e2]) (fun q => ?_) (fun q => ?_)⟩
            · unfold tkV
              rw [e2]
              exact g2 (by rw [← ek]; exact q)
            · unfold tkL
              rw [e2]
              exact g3 (by rw [← ek]; exact q)
    · rintro ⟨z1, Z⟩ ⟨i, c, h1, h2, h3, h4, o, h5, h6, h7⟩
      have h4' : z1 = nI i := h4
      subst h4'
      have q2 : i = n := by omega
      have o' : on (kM fsCut) S Z := o
      have h5' : st_I Z (ky 0 10) = nI c := h5
      have hT := tpM_on h o'
      by_cases q : c = 401
      · refine ⟨.inr Z, ?_, o', fun t ht => (h7 t (by omega)).2⟩
        unfold f_X6_cut_L7
        show (if (400 : Int32) < st_I Z (ky 0 10) then _ else _) = _
        rw [h5', if_pos (show (400 : Int32) < nI c from nI_lt (a := 400) (by omega) (by omega))]
      · refine ⟨.inl Z, ?_, c, by omega, o', h5', by rw [← h6, q2, nx_n], h7⟩
        unfold f_X6_cut_L7
        show (if (400 : Int32) < st_I Z (ky 0 10) then _ else (f_X6_byteAt Z (nI i)).bind _) = _
        rw [h5', if_neg (show ¬ (400 : Int32) < nI c from nI_nlt (b := c) (a := 400) (by omega) (by decide)), M_byte hT (by omega), bnd]
        show (if nI i < st_I Z (ky 0 4) then _ else _) = _
        rw [hT.2.2.1, if_neg (nI_nlt (by omega) (by omega))]
  obtain ⟨r, e, hr⟩ := main
  unfold f_X6_cut
  rw [lt_e, e, bnd]
  cases r with
  | inl S' =>
    obtain ⟨c, h1, o, h2, h3, h4⟩ := hr
    have h5 : st_I S' (ky 0 4) = nI n := (tpM_on h o).2.2.1
    show ∃ S'', (f_X6_token S' (0 : Int32) (st_I S' (ky 0 4)) (0 : Int32) (0 : Int64)).bind _ = some S'' ∧ _
    rw [h5, M_token (by omega) h2, bnd]
    refine ⟨_, rfl, on_trans o (upTk_on _ _ _ _ _ _), fun t h6 h7 => ?_⟩
    have h8 : tkK B n c = 0 := tkK_0.mpr (by omega)
    have h9 : t ≤ c := by
      rcases Nat.lt_or_ge c t with q | q
      · exact absurd h8 (h7 c q)
      · exact q
    by_cases q : t < c
    · exact upTk_n _ c _ _ _ _ q (h4 t q).2
    · have : t = c := by omega
      subst this
      exact upTk_s _ t (by rw [h8]; rfl) (by rw [h3]) (fun q => by rw [h8] at q; cases q) (fun q => by rw [h8] at q; cases q)
  | inr S' =>
    exact ⟨S', rfl, hr.1, fun t h6 _ => hr.2 t (by omega)⟩
