/-! QUESTIONS: odds, rests. -/
/-- two loops beside each other -/
theorem iter_sim {σ τ ρ ρ' : Type} {s1 : σ → Option (σ ⊕ ρ)} {s2 : τ → Option (τ ⊕ ρ')} (I : Nat → σ → τ → Prop) (R : ρ → ρ' → Prop) (e : Nat) (hs : ∀ i x y, i < e → I i x y → (∃ x' y', s1 x = some (.inl x') ∧ s2 y = some (.inl y') ∧ I (i + 1) x' y') ∨ ∃ a b, s1 x = some (.inr a) ∧ s2 y = some (.inr b) ∧ R a b) (he : ∀ x y, I e x y → ∃ a b, s1 x = some (.inr a) ∧ s2 y = some (.inr b) ∧ R a b) : ∀ (n i : Nat) (x : σ) (y : τ), i ≤ e → e - i < n → I i x y → ∃ a b, iter s1 n x = some a ∧ iter s2 n y = some b ∧ R a b := by
  intro n
  induction n with
  | zero => intro i x y _ h; omega
  | succ n ih =>
    intro i x y h1 h2 h3
    rw [iter, iter]
    by_cases h : i = e
    · subst h
      obtain ⟨a, b, q1, q2, q3⟩ := he x y h3
      rw [q1, q2]
      exact ⟨a, b, rfl, rfl, q3⟩
    · rcases hs i x y (by omega) h3 with ⟨x', y', q1, q2, q3⟩ | ⟨a, b, q1, q2, q3⟩
      · rw [q1, q2]
        exact ih (i + 1) x' y' (by omega) (by omega) q3
      · rw [q1, q2]
        exact ⟨a, b, rfl, rfl, q3⟩
theorem iter_simF {σ τ ρ ρ' : Type} {s1 : σ → Option (σ ⊕ ρ)} {s2 : τ → Option (τ ⊕ ρ')} (I : Nat → σ → τ → Prop) (R : ρ → ρ' → Prop) (e : Nat) (he0 : e < 40000) {x : σ} {y : τ} (h0 : I 0 x y) (hs : ∀ i x y, i < e → I i x y → (∃ x' y', s1 x = some (.inl x') ∧ s2 y = some (.inl y') ∧ I (i + 1) x' y') ∨ ∃ a b, s1 x = some (.inr a) ∧ s2 y = some (.inr b) ∧ R a b) (he : ∀ x y, I e x y → ∃ a b, s1 x = some (.inr a) ∧ s2 y = some (.inr b) ∧ R a b) : ∃ a b, iter s1 FU x = some a ∧ iter s2 FU y = some b ∧ R a b := iter_sim I R e hs he FU 0 x y (Nat.zero_le _) (by show e - 0 < 40000; omega) h0
theorem ck_lots {T : TX} {sd : Int32} {X : CT} (h : cb T X) : ∀ i, i ≤ tn T 3 → ∀ m, m < tn T 3 → (ck (x_lots T sd X i) m = none ↔ ck X m = none ∧ (m < i → ¬ s_bad T sd (cn X) m = true)) := by
  intro i
  induction i with
  | zero => intro _ m _; exact ⟨fun q => ⟨q, fun w => by omega⟩, fun q => q.1⟩
  | succ i ih =>
    intro hi m hm
    have g := ih (by omega)
    have gi := g i (by omega)
    have hb := cb_lots (sd := sd) h i (by omega)
    have hn := x_lots_n T sd X i
    have hk := s_brk_now hb (m := i) (by omega)
    rw [x_lots]
    by_cases c : s_brk (x_lots T sd X i) i (cn (x_lots T sd X i)) = true
    · rw [if_pos c, g m hm]
      refine ⟨fun q => ⟨q.1, fun hlt => ?_⟩, fun q => ⟨q.1, fun hlt => q.2 (by omega)⟩⟩
      by_cases e : m = i
      · subst e
        exact absurd (gi.mpr ⟨q.1, fun w => by omega⟩) (hk.mp c)
      · exact q.2 (by omega)
    · rw [if_neg c, hn]
      have hnone := s_brk_none hb (by omega) c
      by_cases d : s_bad T sd (cn X) i = true
      · rw [if_pos d]
        show (if m = i then some (cn (x_lots T sd X i)) else ck (x_lots T sd X i) m) = none ↔ _
        by_cases e : m = i
        · rw [if_pos e]
          refine ⟨fun q => (by cases q), fun q => ?_⟩
          rw [e] at q
          exact absurd d (q.2 (by omega))
        · rw [if_neg e, g m hm]
          exact ⟨fun q => ⟨q.1, fun hlt => q.2 (by omega)⟩, fun q => ⟨q.1, fun hlt => q.2 (by omega)⟩⟩
      · rw [if_neg d, g m hm]
        refine ⟨fun q => ⟨q.1, fun hlt => ?_⟩, fun q => ⟨q.1, fun hlt => q.2 (by omega)⟩⟩
        by_cases e : m = i
        · rw [e]
          exact d
        · exact q.2 (by omega)
theorem ck_go {T : TX} {sd : Int32} {X : CT} (hT : tb T) (h : cb T X) (hn : cn X < 299) {m : Nat} (hm : m < tn T 3) : ck (x_go T sd X) m = none ↔ ck X m = none ∧ ¬ s_bad T sd (cn X + 1) m = true := by
  have g := ck_lots (sd := sd) (cb_min h hn (s_next_lt hT h)) (tn T 3) (Nat.le_refl _) m hm
  exact ⟨fun q => ⟨(g.mp q).1, (g.mp q).2 hm⟩, fun q => g.mpr ⟨q.1, fun _ => q.2⟩⟩
theorem ck_run {T : TX} {sd : Int32} {X : CT} (hT : tb T) (h : cb T X) {m : Nat} (hm : m < tn T 3) : ∀ n, cn X + n ≤ 299 → (ck (x_run T sd X n) m = none ↔ ck X m = none ∧ s_fst (fun j => s_bad T sd (cn X + 1 + j) m) n = none) := by
  intro n
  induction n with
  | zero => intro _; exact ⟨fun q => ⟨q, rfl⟩, fun q => q.1⟩
  | succ n ih =>
    intro hn
    have e := x_run_n T sd X n
    rw [x_run, ck_go hT (cb_run hT h n (by omega)) (by omega) hm, ih (by omega), e]
    constructor
    · rintro ⟨⟨q1, q2⟩, q3⟩
      refine ⟨q1, ?_⟩
      rw [s_fst_succ q2, if_neg]
      rw [show cn X + 1 + n = cn X + n + 1 by omega]
      exact q3
    · rintro ⟨q1, q2⟩
      cases q : s_fst (fun j => s_bad T sd (cn X + 1 + j) m) n with
      | some i =>
        rw [s_fst_stay q] at q2
        cases q2
      | none =>
        refine ⟨⟨q1, rfl⟩, ?_⟩
        rw [s_fst_succ q] at q2
        intro w
        rw [if_pos (by rw [show cn X + 1 + n = cn X + n + 1 by omega]; exact w)] at q2
        cases q2
section QJ
variable {kt s : Nat} {A : AB} {S M M' : St} {T : TX} {X : CT}
def s_odd (A : AB) (m e k : Nat) : Bool := (s_fst (fun j => s_bad (aT A) (nI (tn (aT A) 5 + k)) (cn (aX A) + 1 + j) m) (e - cn (aX A))).isSome
theorem C_breaksBy (hC : RC kt A S) {m e k : Nat} (hm : m < tn (aT A) 3) (he : e ≤ 299) (he2 : cn (aX A) ≤ e) : f_X5_breaksBy S (nI m) (nI (tn (aT A) 5 + k)) (nI e) = some (if s_odd A m e k then 1 else 0) := by
  unfold f_X5_breaksBy
  rw [hC.2.1.2.2.2.1, nI_1]
  have g := up_find (step := f_X5_breaksBy_L11 S (nI m) (nI (tn (aT A) 5 + k)) (nI e)) (fun j => nI (cn (aX A) + 1 + j)) (fun j => s_bad (aT A) (nI (tn (aT A) 5 + k)) (cn (aX A) + 1 + j) m) (fun _ => (1 : Int32)) 0 (e - cn (aX A)) (by omega) (fun j hj _ => by
    unfold f_X5_breaksBy_L11
    rw [if_neg (show ¬ nI e < nI (cn (aX A) + 1 + j) from nI_nlt (by omega) (by omega)), chk_t (RC_T hC), hC.2.2.1.1, C_breaksAt hC.1, bnd, ← nI_succ]
    cases s_bad (aT A) (nI (tn (aT A) 5 + k)) (cn (aX A) + 1 + j) m
    · rfl
    · rw [if_neg (by decide)]
      rfl) (fun _ => by
    unfold f_X5_breaksBy_L11
    rw [if_pos (show nI e < nI (cn (aX A) + 1 + (e - cn (aX A))) from nI_lt (by omega) (by omega))])
  change iter _ FU (nI (cn (aX A) + 1)) = _ at g
  rw [g]
  unfold s_odd
  cases s_fst (fun j => s_bad (aT A) (nI (tn (aT A) 5 + k)) (cn (aX A) + 1 + j) m) (e - cn (aX A)) <;> rfl
theorem Q_odds (hA : RA A) (hC : RC kt A S) (hM : RM s A M) (x y z : Int32) : ans S M (pu S (f_X5_odds S x y z)) (f_X6_odds M x y z) := by
  have b3 := hC.1.1.2.2.2.1
  have hn := hC.2.1.1.1
  unfold f_X5_odds f_X6_odds
  rcases vld x (n := tn (aT A) 3) (by omega) with ⟨m, hm, rfl⟩ | hx
  · rw [C_mirI hC hm, M_mirI hM hm, bnd, bnd, if_neg ne10, if_neg ne10]
    rcases vld y (n := 300) (by decide) with ⟨n, hy, rfl⟩ | hy
    · rw [C_wIl (n := 300) (m := 300) rfl hy (by decide), lng_i hy, bnd, bnd, if_neg ne10, if_neg ne10]
      have hin : f_X6_in z (1 : Int32) (10 : Int32) = some (if z < 1 then 0 else if z ≤ 10 then 1 else 0) := by
        unfold f_X6_in
        by_cases c : z < 1
        · rw [if_pos c, if_pos c]
        · rw [if_neg c, if_neg c]
          by_cases d : z ≤ 10
          · rw [if_neg (Int32.not_lt.mpr d), if_pos d]
          · rw [if_pos (Int32.not_le.mp d), if_neg d]
      rw [hin, bnd]
      by_cases c : z < 1
      · rw [if_pos c, if_pos c, if_pos rfl]
        exact ans_ps hA hC hM (-1) rfl rfl
      · rw [if_neg c, if_neg c]
        by_cases d : z ≤ 10
        · rw [if_pos d, if_pos d, if_neg ne10]
          have c0 : ¬ z < 0 := fun q => c (Int32.lt_trans q (by decide))
          obtain ⟨q, hq, rfl⟩ := nI_of c0
          have hq10 : q ≤ 10 := by
            rcases Nat.lt_or_ge 10 q with w | w
            · exact absurd d (nI_ge (a := 10) w hq)
            · exact w
          let e := min (cn (aX A) + n) 299
          have e1 : i_min (nI (cn (aX A)) + nI n) (299 : Int32) = nI e := by
            rw [nI_add]
            exact min_nI (b := 299) (by omega) (by decide)
          have he : e ≤ 299 := Nat.min_le_right _ _
          have he2 : cn (aX A) ≤ e := by show _ ≤ min _ _; omega
          -- the reference
          have l2 : ∃ M2, iter (f_X6_odds_L33 (nI m) (nI n) (nI q)) FU ((0 : Int32), (0 : Int32), M) = some (nI (s_cnt (fun k => s_brk (aX A) m (cn (aX A)) || s_odd A m e k) q), M2) ∧ RM s A M2 := by
            have hi := iter_invF (step := f_X6_odds_L33 (nI m) (nI n) (nI q)) (x := ((0 : Int32), (0 : Int32), M)) (fun i w => w.1 = nI (s_cnt (fun k => s_brk (aX A) m (cn (aX A)) || s_odd A m e k) i) ∧ w.2.1 = nI i ∧ RM s A w.2.2) (fun w => ∃ M2, w = (nI (s_cnt (fun k => s_brk (aX A) m (cn (aX A)) || s_odd A m e k) q), M2) ∧ RM s A M2) q (by omega) ⟨rfl, rfl, hM⟩ ?_ ?_
            · obtain ⟨w, hw, M2, rfl, r⟩ := hi
              exact ⟨M2, hw, r⟩
            · rintro i ⟨w1, w2, w⟩ hlt ⟨g1, g2, g3⟩
              change w1 = _ at g1
              change w2 = _ at g2
              change RM s A w at g3
              subst g1 g2
              left
              show ∃ y, f_X6_odds_L33 (nI m) (nI n) (nI q) (nI _, nI i, w) = _ ∧ _
              obtain ⟨M1, v, t1, c1, i1, hM1, o1⟩ := M_cop g3
              have o2 := on_I (K := kM fsQ) M1 (ky 0 60) (nI (tn (aT A) 5 + i)) ⟨60, by decide, rfl⟩
              have r2 := RM_on hM1 o2
              have o2' : on (kM [60]) M1 (up_I M1 (ky 0 60) (nI (tn (aT A) 5 + i))) := on_I _ _ _ ⟨60, by decide, rfl⟩
              have c2 := cM_on c1 o2' (kM_n (by decide) (by decide) (by decide)) (kM_n (by decide) (by decide) (by decide)) (kM_n (by decide) (by decide) (by decide)) (kM_n (by decide) (by decide) (by decide))
              obtain ⟨M2, v2, t2, c3, o3⟩ := M_goesTill (sd := nI (tn (aT A) 5 + i)) r2.1 c2 (gIs ..) (e := cn (aX A) + n) (by omega)
              have hk := (c3.2.2.2 m hm).1
              have hrun := ck_run (sd := nI (tn (aT A) 5 + i)) hC.1.1 hC.2.1.1 hm (e - cn (aX A)) (by omega)
              have hbn := s_brk_now hC.2.1.1 hm
              unfold f_X6_odds_L33
              rw [if_neg (show ¬ nI q ≤ nI i from nI_ge hlt (by omega)), v, bnd, i1, nI_add, lt_e, r2.2.1.2.1, nI_add, v2, bnd, chk_t (ib_nI (by omega) (by decide)), nI_clamp (by omega), hk, s_cnt]
              have hodd : s_odd A m e i = true ↔ ¬ s_fst (fun j => s_bad (aT A) (nI (tn (aT A) 5 + i)) (cn (aX A) + 1 + j) m) (e - cn (aX A)) = none := by
                unfold s_odd
                cases s_fst (fun j => s_bad (aT A) (nI (tn (aT A) 5 + i)) (cn (aX A) + 1 + j) m) (e - cn (aX A)) with
                | none => exact ⟨fun w => (by cases w), fun w => absurd rfl w⟩
                | some _ => exact ⟨fun _ w => (by cases w), fun _ => rfl⟩
              have hr3 := RM_on r2 (on_mono fsC_Q o3)
              by_cases k0 : ck (x_run (aT A) (nI (tn (aT A) 5 + i)) (aX A) (e - cn (aX A))) m = none
              · have := hrun.mp k0
                have hp : ¬ (s_brk (aX A) m (cn (aX A)) || s_odd A m e i) = true := by
                  intro w
                  rcases Bool.or_eq_true _ _ |>.mp w with w | w
                  · exact hbn.mp w this.1
                  · exact hodd.mp w this.2
                rw [if_pos (show bkM (ck (x_run (aT A) (nI (tn (aT A) 5 + i)) (aX A) (min (cn (aX A) + n) 299 - cn (aX A))) m) = -1 by rw [show ck (x_run (aT A) (nI (tn (aT A) 5 + i)) (aX A) (min (cn (aX A) + n) 299 - cn (aX A))) m = none from k0]; rfl), if_neg hp, ← nI_succ]
                exact ⟨_, rfl, rfl, rfl, hr3⟩
              · have hp : (s_brk (aX A) m (cn (aX A)) || s_odd A m e i) = true := by
                  cases w1 : s_brk (aX A) m (cn (aX A))
                  · cases w2 : s_odd A m e i
                    · exfalso
                      apply k0
                      refine hrun.mpr ⟨?_, ?_⟩
                      · cases w3 : ck (aX A) m with
                        | none => rfl
                        | some b =>
                          have := hbn.mpr (by rw [w3]; exact fun w => by cases w)
                          rw [w1] at this
                          cases this
                      · cases w3 : s_fst (fun j => s_bad (aT A) (nI (tn (aT A) 5 + i)) (cn (aX A) + 1 + j) m) (e - cn (aX A)) with
                        | none => rfl
                        | some b =>
                          have := hodd.mpr (by rw [w3]; exact fun w => by cases w)
                          rw [w2] at this
                          cases this
                    · rfl
                  · rfl
                have hne : ¬ bkM (ck (x_run (aT A) (nI (tn (aT A) 5 + i)) (aX A) (min (cn (aX A) + n) 299 - cn (aX A))) m) = -1 := by
                  cases w3 : ck (x_run (aT A) (nI (tn (aT A) 5 + i)) (aX A) (min (cn (aX A) + n) 299 - cn (aX A))) m with
                  | none => exact absurd w3 k0
                  | some b =>
                    have := (c3.1.2.2 m hm b w3).1
                    have := c3.1.1
                    exact nI_m1 (by omega)
                rw [if_neg hne, if_pos hp, ← nI_succ, ← nI_succ]
                exact ⟨_, rfl, rfl, rfl, hr3⟩
            · rintro ⟨w1, w2, w⟩ ⟨g1, g2, g3⟩
              change w1 = _ at g1
              change w2 = _ at g2
              change RM s A w at g3
              subst g1 g2
              refine ⟨_, ?_, w, rfl, g3⟩
              unfold f_X6_odds_L33
              rw [if_pos (show nI q ≤ nI q from nI_le (Nat.le_refl _) hq)]
          obtain ⟨M2, l2, rm⟩ := l2
          rw [hC.2.1.2.2.2.1, C_broken hC.1 hC.2.1 hm (Nat.le_refl _), bnd]
          change ans S M _ (iter (f_X6_odds_L33 (nI m) (nI n) (nI q)) FU ((0 : Int32), (0 : Int32), M))
          rw [l2]
          by_cases k : s_brk (aX A) m (cn (aX A)) = true
          · rw [if_pos k, if_neg ne10]
            have e2 : s_cnt (fun k => s_brk (aX A) m (cn (aX A)) || s_odd A m e k) q = q := by
              have g := s_cnt_not (fun k => s_brk (aX A) m (cn (aX A)) || s_odd A m e k) q
              have z := s_cnt_z (fun j => !(s_brk (aX A) m (cn (aX A)) || s_odd A m e j)) q (fun j _ => by simp [k])
              omega
            rw [e2]
            exact ans_ps hA hC rm _ rfl rfl
          · have e3 : s_cnt (fun k => s_brk (aX A) m (cn (aX A)) || s_odd A m e k) q = s_cnt (s_odd A m e) q := s_cnt_cg _ (fun j _ => by simp [k])
            rw [if_neg k, if_pos rfl, e1, lt_e, e3]
            refine ans_ps hA hC rm (nI (s_cnt (s_odd A m e) q)) ?_ rfl
            refine iter_FU (step := f_X5_odds_L74 S (nI m) (nI q) (nI e)) (fun i => (nI (s_cnt (s_odd A m e) i), nI i)) q (by omega) (fun i hi => ?_) ?_
            · unfold f_X5_odds_L74
              rw [if_neg (show ¬ nI q ≤ nI i from nI_ge hi (by omega)), chk_t (RC_T hC), hC.2.2.1.1, hC.1.2.2.1 5 (by decide), nI_add, C_breaksBy hC hm he he2, bnd, s_cnt]
              cases s_odd A m e i
              · rw [← nI_succ]
                rfl
              · rw [← nI_succ, ← nI_succ]
                rfl
            · unfold f_X5_odds_L74
              rw [if_pos (show nI q ≤ nI q from nI_le (Nat.le_refl _) hq)]
        · rw [if_neg d, if_neg d, if_pos rfl]
          exact ans_ps hA hC hM (-1) rfl rfl
    · rw [C_wOl (n := 300) (m := 300) rfl hy, lng_o hy, bnd, bnd, if_pos rfl, if_pos rfl]
      exact ans_ps hA hC hM (-1) rfl rfl
  · rw [C_mirO hC hx, M_mirO hM hx, bnd, bnd, if_pos rfl, if_pos rfl]
    exact ans_ps hA hC hM (-1) rfl rfl
end QJ
