/-! QUESTIONS: deepest, the reference's; both. -/
def NB (n B0 : Nat) (f0 : Int32) (B : Nat) (f : Int32) (Q : Nat → Prop) : Prop := B ≤ B0 ∧ (∀ w, Q w → B ≤ w) ∧ ((B = B0 ∧ f = f0) ∨ (B < B0 ∧ f = nI n ∧ Q B))
theorem NB_refl (n B : Nat) (f : Int32) : NB n B f B f (fun _ => False) := ⟨Nat.le_refl _, fun _ h => h.elim, Or.inl ⟨rfl, rfl⟩⟩
theorem NB_trans {n B0 B B' : Nat} {f0 f f' : Int32} {Q Q' : Nat → Prop} (h : NB n B0 f0 B f Q) (g : NB n B f B' f' Q') : NB n B0 f0 B' f' (fun w => Q w ∨ Q' w) := by
  obtain ⟨h1, h2, h3⟩ := h
  obtain ⟨g1, g2, g3⟩ := g
  refine ⟨by omega, fun w q => ?_, ?_⟩
  · rcases q with q | q
    · have := h2 w q
      omega
    · exact g2 w q
  · rcases g3 with ⟨q1, q2⟩ | ⟨q1, q2, q3⟩
    · rw [q1, q2]
      rcases h3 with q | ⟨r1, r2, r3⟩
      · exact Or.inl q
      · exact Or.inr ⟨r1, r2, Or.inl r3⟩
    · exact Or.inr ⟨by omega, q2, Or.inr q3⟩
theorem NB_cg {n B0 B : Nat} {f0 f : Int32} {Q Q' : Nat → Prop} (h : NB n B0 f0 B f Q) (e : ∀ w, Q w ↔ Q' w) : NB n B0 f0 B f Q' := ⟨h.1, fun w q => h.2.1 w ((e w).mpr q), by
  rcases h.2.2 with q | ⟨q1, q2, q3⟩
  · exact Or.inl q
  · exact Or.inr ⟨q1, q2, (e B).mp q3⟩⟩
abbrev fsD : List Nat := [63, 64]
theorem n300 : ¬ (300 : Int32) = 0 := by decide
section QP
variable {kt s : Nat} {A : AB} {S M M' : St} {T : TX} {X : CT}
theorem fsD_Q (q : Nat) (h : kM fsD q) : kM fsQ q := by
  obtain ⟨f, hf, e⟩ := h
  exact ⟨f, (by decide : ∀ f ∈ fsD, f ∈ fsQ) f hf, e⟩
theorem cM_D {S S' : St} (h : cM 56 57 58 59 S T X) (o : on (kM fsD) S S') : cM 56 57 58 59 S' T X := cM_on h o (kM_n (by decide) (by decide) (by decide)) (kM_n (by decide) (by decide) (by decide)) (kM_n (by decide) (by decide) (by decide)) (kM_n (by decide) (by decide) (by decide))
/-- what is newly seen from mirror p showing u -/
def Ns (X : CT) (nm p u o w : Nat) : Prop := o < nm ∧ s_in X p u o = some w
theorem M_deepI (hT : tM s M T) (h : cM 56 57 58 59 M T X) (x : Int32) {n p u : Nat} (hp : p < tn T 3) (hu : u ≤ cn X) (B : Nat) (hB : B ≤ 300) (f : Int32) : ∃ B' f' M', iter (f_X6_deepest_L142 x (nI n) (nI (300 * p + u))) FU (nI B, f, (0 : Int32), M) = some (nI B', f', M') ∧ on (kM [64]) M M' ∧ NB n B f B' f' (fun w => ∃ o, Ns X (tn T 3) p u o w) ∧ (∀ o w, Ns X (tn T 3) p u o w → st_A M' (ky 0 64) (300 * o + w) = 1) ∧ ∀ k, (∀ o w, Ns X (tn T 3) p u o w → k ≠ 300 * o + w) → st_A M' (ky 0 64) k = st_A M (ky 0 64) k := by
  have b3 := hT.1.2.2.2.1
  have hn := h.1.1
  have e1 : nI (300 * p + u) / (300 : Int32) = nI p := by
    have := pk_div (a := 300 * p + u) (d := 300) (by omega) (by decide) (by decide)
    rw [show (300 * p + u) / 300 = p by omega] at this
    exact this
  have e2 : i_rem (nI (300 * p + u)) (300 : Int32) = nI u := by
    have := pk_rem (a := 300 * p + u) (d := 300) (by omega) (by decide) (by decide)
    rw [show (300 * p + u) % 300 = u by omega] at this
    exact this
  have hi := iter_invF (step := f_X6_deepest_L142 x (nI n) (nI (300 * p + u))) (x := (nI B, f, (0 : Int32), M)) (fun i z => z.2.2.1 = nI i ∧ ∃ B', z.1 = nI B' ∧ on (kM [64]) M z.2.2.2 ∧ NB n B f B' z.2.1 (fun w => ∃ o, o < i ∧ Ns X (tn T 3) p u o w) ∧ (∀ o w, o < i → Ns X (tn T 3) p u o w → st_A z.2.2.2 (ky 0 64) (300 * o + w) = 1) ∧ ∀ k, (∀ o w, Ns X (tn T 3) p u o w → k ≠ 300 * o + w) → st_A z.2.2.2 (ky 0 64) k = st_A M (ky 0 64) k) (fun w => ∃ B' f' M', w = (nI B', f', M') ∧ on (kM [64]) M M' ∧ NB n B f B' f' (fun w => ∃ o, Ns X (tn T 3) p u o w) ∧ (∀ o w, Ns X (tn T 3) p u o w → st_A M' (ky 0 64) (300 * o + w) = 1) ∧ ∀ k, (∀ o w, Ns X (tn T 3) p u o w → k ≠ 300 * o + w) → st_A M' (ky 0 64) k = st_A M (ky 0 64) k) (tn T 3) (by omega) ⟨rfl, B, rfl, on_refl _ _, NB_cg (NB_refl n B f) (fun w => ⟨fun q => q.elim, fun ⟨o, ho, _⟩ => absurd ho (Nat.not_lt_zero _)⟩), fun o w ho => absurd ho (Nat.not_lt_zero _), fun k _ => rfl⟩ ?_ ?_
  · obtain ⟨w, hw, B', f', M', rfl, q⟩ := hi
    exact ⟨B', f', M', hw, q⟩
  · rintro i ⟨z1, z2, z3, z⟩ hlt ⟨g1, B', g2, g3, g4, g5, g6⟩
    change z3 = _ at g1
    change z1 = _ at g2
    change on (kM [64]) M z at g3
    change NB n B f B' z2 _ at g4
    subst g1 g2
    left
    have zT := tM_fs (by decide) hT g3
    have zC := cM_on h g3 (kM_n (by decide) (by decide) (by decide)) (kM_n (by decide) (by decide) (by decide)) (kM_n (by decide) (by decide) (by decide)) (kM_n (by decide) (by decide) (by decide))
    obtain ⟨l1, l2⟩ := tM_live zT
    have hB' : B' ≤ 300 := Nat.le_trans g4.1 hB
    show ∃ y, f_X6_deepest_L142 x (nI n) (nI (300 * p + u)) (nI B', z2, nI i, z) = _ ∧ _
    unfold f_X6_deepest_L142
    rw [chk_t l1, l2, zT.2.2.2.1.2.2.2.1, if_neg (show ¬ nI (tn T 3) ≤ nI i from nI_ge hlt (by omega)), chk_t n300, chk_t n300, e1, e2, M_seenIn zT zC hp hlt hu, bnd]
    cases hs : s_in X p u i with
    | none =>
      rw [if_pos (show oI none < 0 by decide)]
      unfold f_X6_deepest_J196
      rw [if_pos (show oI none < 0 by decide), ← nI_succ]
      refine ⟨_, rfl, rfl, B', rfl, g3, NB_cg g4 (fun w => ⟨fun ⟨o, ho, q⟩ => ⟨o, by omega, q⟩, fun ⟨o, ho, q⟩ => ?_⟩), fun o w ho q => ?_, g6⟩
      · by_cases e : o = i
        · rw [e] at q
          have q2 := q.2
          rw [hs] at q2
          cases q2
        · exact ⟨o, by omega, q⟩
      · by_cases e : o = i
        · rw [e] at q
          have q2 := q.2
          rw [hs] at q2
          cases q2
        · exact g5 o w (by omega) q
    | some w =>
      have hw := s_in_le h.1 hlt hs
      have e3 : (300 : Int32) * nI i + nI w = nI (300 * i + w) := by
        rw [show (300 : Int32) = nI 300 from rfl, pk_mul, nI_add]
      have o2 : on (kM [64]) z (up_A z (ky 0 64) (upd (st_A z (ky 0 64)) (300 * i + w) 1)) := on_A _ _ _ ⟨64, by decide, rfl⟩
      rw [if_neg (show ¬ oI (some w) < 0 from nI_pos (by omega)), show oI (some w) = nI w from rfl, e3, chk_t (ib_nI (by omega) (by decide)), nI_clamp (by omega), tellM_i, lt_e]
      have hJ : f_X6_deepest_J196 (up_A z (ky 0 64) (upd (st_A z (ky 0 64)) (300 * i + w) 1)) x (nI B') z2 (nI n) (nI (300 * p + u)) (nI i) (nI w) = some (.inl ((if B' ≤ w then nI B' else nI w), (if B' ≤ w then z2 else nI n), nI (i + 1), up_A z (ky 0 64) (upd (st_A z (ky 0 64)) (300 * i + w) 1))) := by
        unfold f_X6_deepest_J196
        rw [if_neg (show ¬ nI w < 0 from nI_pos (by omega)), ← nI_succ]
        by_cases q : B' ≤ w
        · rw [if_pos (nI_le q (by omega)), if_pos q, if_pos q]
        · rw [if_neg (nI_ge (by omega) (by omega)), if_neg q, if_neg q]
      refine ⟨_, hJ, rfl, if B' ≤ w then B' else w, by split <;> rfl, on_trans g3 o2, ?_, fun o w' ho q => ?_, fun k hk => ?_⟩
      · have step : NB n B' z2 (if B' ≤ w then B' else w) (if B' ≤ w then z2 else nI n) (fun w' => w' = w) := by
          by_cases q : B' ≤ w
          · rw [if_pos q, if_pos q]
            exact ⟨Nat.le_refl _, fun w' e => by omega, Or.inl ⟨rfl, rfl⟩⟩
          · rw [if_neg q, if_neg q]
            exact ⟨by omega, fun w' e => by omega, Or.inr ⟨by omega, rfl, rfl⟩⟩
        refine NB_cg (NB_trans g4 step) (fun w' => ⟨?_, ?_⟩)
        · rintro (⟨o, ho, q⟩ | q)
          · exact ⟨o, by omega, q⟩
          · exact ⟨i, by omega, hlt, by rw [q]; exact hs⟩
        · rintro ⟨o, ho, q⟩
          by_cases e : o = i
          · right
            rw [e] at q
            have q2 := q.2
            rw [hs] at q2
            exact (Option.some.inj q2).symm
          · exact Or.inl ⟨o, by omega, q⟩
      · show st_A (up_A z (ky 0 64) _) (ky 0 64) _ = 1
        rw [gAs, upd_e]
        by_cases e : 300 * o + w' = 300 * i + w
        · rw [if_pos e]
        · rw [if_neg e]
          by_cases e2 : o = i
          · rw [e2] at q
            have q2 := q.2
            rw [hs] at q2
            have := Option.some.inj q2
            omega
          · exact g5 o w' (by omega) q
      · show st_A (up_A z (ky 0 64) _) (ky 0 64) k = _
        rw [gAs, upd_n (hk i w ⟨hlt, hs⟩)]
        exact g6 k hk
  · rintro ⟨z1, z2, z3, z⟩ ⟨g1, B', g2, g3, g4, g5, g6⟩
    change z3 = _ at g1
    change z1 = _ at g2
    change on (kM [64]) M z at g3
    change NB n B f B' z2 _ at g4
    subst g1 g2
    have zT := tM_fs (by decide) hT g3
    obtain ⟨l1, l2⟩ := tM_live zT
    refine ⟨_, ?_, B', z2, z, rfl, g3, NB_cg g4 (fun w => ⟨fun ⟨o, _, q⟩ => ⟨o, q⟩, fun ⟨o, q⟩ => ⟨o, q.1, q⟩⟩), fun o w q => g5 o w q.1 q, g6⟩
    unfold f_X6_deepest_L142
    rw [chk_t l1, l2, zT.2.2.2.1.2.2.2.1, if_pos (show nI (tn T 3) ≤ nI (tn T 3) from nI_le (Nat.le_refl _) (by omega))]
/-- looked at: pairs of a layer -/
def LK (F : Nat → Int32) (P : Nat → Nat → Prop) : Prop := ∀ k, k < 2400 → (P (k / 300) (k % 300) → F k = 1) ∧ (¬ P (k / 300) (k % 300) → F k = 0)
theorem Rw_b {X : CT} {T : TX} (h : cb T X) {m v : Nat} (hm : m < tn T 3) (hv : v ≤ cn X) : ∀ d o w, Rw X (tn T 3) d m v o w → o < tn T 3 ∧ w ≤ cn X := by
  intro d
  induction d with
  | zero =>
    intro o w q
    rw [q.1, q.2]
    exact ⟨hm, hv⟩
  | succ d ih =>
    intro o w q
    obtain ⟨p, u, q1, q2, q3⟩ := (Rw_tail d m v o w).mp q
    have := ih p u q1
    exact ⟨q2, Nat.le_trans (s_in_le h q2 q3) this.2⟩
theorem M_deepR (hT : tM s M T) (h : cM 56 57 58 59 M T X) (x : Int32) {n m v d : Nat} (hm : m < tn T 3) (hv : v ≤ cn X) (B : Nat) (hB : B ≤ 300) (f : Int32) (hL : LK (st_A M (ky 0 63)) (Rw X (tn T 3) d m v)) : ∃ M1 B' f' M2 M3, iter (f_X6_deepest_L93 x (nI B) f (nI n)) FU ((0 : Int32), M) = some M1 ∧ iter (f_X6_deepest_L118 x (nI n)) FU (nI B, f, (0 : Int32), M1) = some (nI B', f', M2) ∧ iter (f_X6_deepest_L229 x (nI B') f' (nI n)) FU ((0 : Int32), M2) = some M3 ∧ on (kM fsD) M M3 ∧ NB n B f B' f' (fun w => ∃ o, Rw X (tn T 3) (d + 1) m v o w) ∧ LK (st_A M3 (ky 0 63)) (Rw X (tn T 3) (d + 1) m v) := by
  have b3 := hT.1.2.2.2.1
  have hn := h.1.1
  have rb := Rw_b h.1 hm hv d
  have w1 := fill_loop (step := f_X6_deepest_L93 x (nI B) f (nI n)) M (ky 0 64) 0 2400 0 (fun _ => 0) (fun z => z) (by decide) (by decide) (fun i F q1 q2 hF => by
    unfold f_X6_deepest_L93
    rw [if_neg (show ¬ (2400 : Int32) ≤ nI i from nI_ge (b := 2400) q2 (by decide)), chk_t (ib_nI (by omega) (by decide)), nI_clamp (by omega), tellM_0, lt_e, upA_upA, gAs, ← nI_succ, Nat.zero_add]) (fun F => by
    unfold f_X6_deepest_L93
    rw [if_pos (show (2400 : Int32) ≤ nI 2400 from nI_le (Nat.le_refl 2400) (by decide))])
  have o1 : on (kM [64]) M (up_A M (ky 0 64) (fun j => if 0 + 0 ≤ j ∧ j < 0 + 2400 then 0 else st_A M (ky 0 64) j)) := on_A _ _ _ ⟨64, by decide, rfl⟩
  have a1 : ∀ j, j < 2400 → st_A (up_A M (ky 0 64) (fun j => if 0 + 0 ≤ j ∧ j < 0 + 2400 then 0 else st_A M (ky 0 64) j)) (ky 0 64) j = 0 := fun j hj => by
    rw [gAs, if_pos (by omega)]
  generalize up_A M (ky 0 64) (fun j => if 0 + 0 ≤ j ∧ j < 0 + 2400 then 0 else st_A M (ky 0 64) j) = M1 at w1 o1 a1
  have hi := iter_invF (step := f_X6_deepest_L118 x (nI n)) (x := (nI B, f, (0 : Int32), M1)) (fun i z => z.2.2.1 = nI i ∧ ∃ B', z.1 = nI B' ∧ on (kM [64]) M z.2.2.2 ∧ NB n B f B' z.2.1 (fun w => ∃ p u, Rw X (tn T 3) d m v p u ∧ 300 * p + u < i ∧ ∃ o, Ns X (tn T 3) p u o w) ∧ (∀ p u o w, Rw X (tn T 3) d m v p u → 300 * p + u < i → Ns X (tn T 3) p u o w → st_A z.2.2.2 (ky 0 64) (300 * o + w) = 1) ∧ ∀ k, k < 2400 → (∀ p u o w, Rw X (tn T 3) d m v p u → Ns X (tn T 3) p u o w → k ≠ 300 * o + w) → st_A z.2.2.2 (ky 0 64) k = 0) (fun w => ∃ B' f' M', w = (nI B', f', M') ∧ on (kM [64]) M M' ∧ NB n B f B' f' (fun w => ∃ o, Rw X (tn T 3) (d + 1) m v o w) ∧ LK (st_A M' (ky 0 64)) (Rw X (tn T 3) (d + 1) m v)) 2400 (by decide) ⟨rfl, B, rfl, o1, NB_cg (NB_refl n B f) (fun w => ⟨fun q => q.elim, fun ⟨p, u, _, q, _⟩ => absurd q (Nat.not_lt_zero _)⟩), fun p u o w _ q => absurd q (Nat.not_lt_zero _), fun k hk _ => a1 k hk⟩ ?_ ?_
  · obtain ⟨w, hw, B', f', M2, rfl, o2, hNB, hLK⟩ := hi
    have k2 := fill_loop (step := f_X6_deepest_L229 x (nI B') f' (nI n)) M2 (ky 0 63) 0 2400 0 (fun i => st_A M2 (ky 0 64) i) (fun z => z) (by decide) (by decide) (fun i F q1 q2 hF => by
      have hv01 : vp_nar .boolean (st_A M2 (ky 0 64) i) = st_A M2 (ky 0 64) i := by
        by_cases c : Rw X (tn T 3) (d + 1) m v (i / 300) (i % 300)
        · rw [(hLK i q2).1 c]
          exact tellM_i
        · rw [(hLK i q2).2 c]
          exact tellM_0
      unfold f_X6_deepest_L229
      rw [if_neg (show ¬ (2400 : Int32) ≤ nI i from nI_ge (b := 2400) q2 (by decide)), chk_t (ib_nI (by omega) (by decide)), chk_t (ib_nI (by omega) (by decide)), nI_clamp (by omega), lt_e, upA_upA, gAs, gAn _ _ (ky_ne (by decide) (by decide) (by decide)), hv01, ← nI_succ, Nat.zero_add]) (fun F => by
      unfold f_X6_deepest_L229
      rw [if_pos (show (2400 : Int32) ≤ nI 2400 from nI_le (Nat.le_refl 2400) (by decide))])
    refine ⟨M1, B', f', M2, _, w1, hw, k2, on_trans (on_mono (fun q hq => by
      obtain ⟨f, hf, e⟩ := hq
      exact ⟨f, (by decide : ∀ f ∈ [64], f ∈ fsD) f hf, e⟩) o2) (on_A _ _ _ ⟨63, by decide, rfl⟩), hNB, fun k hk => ?_⟩
    rw [gAs, if_pos (by omega), Nat.sub_zero]
    exact hLK k hk
  · rintro i ⟨z1, z2, z3, z⟩ hlt ⟨g1, B', g2, g3, g4, g5, g6⟩
    change z3 = _ at g1
    change z1 = _ at g2
    change on (kM [64]) M z at g3
    change NB n B f B' z2 _ at g4
    subst g1 g2
    left
    have zT := tM_fs (by decide) hT g3
    have zC := cM_on h g3 (kM_n (by decide) (by decide) (by decide)) (kM_n (by decide) (by decide) (by decide)) (kM_n (by decide) (by decide) (by decide)) (kM_n (by decide) (by decide) (by decide))
    have e63 : st_A z (ky 0 63) = st_A M (ky 0 63) := (g3 _ (kM_n (by decide) (by decide) (by decide))).2.1
    show ∃ y, f_X6_deepest_L118 x (nI n) (nI B', z2, nI i, z) = _ ∧ _
    unfold f_X6_deepest_L118
    rw [if_neg (show ¬ (2400 : Int32) ≤ nI i from nI_ge (b := 2400) hlt (by decide)), chk_t (ib_nI (by omega) (by decide)), nI_clamp (by omega), e63]
    by_cases c : Rw X (tn T 3) d m v (i / 300) (i % 300)
    · have hb := rb _ _ c
      rw [(hL i hlt).1 c, if_neg ne10]
      have ei : 300 * (i / 300) + i % 300 = i := by omega
      obtain ⟨B2, f2, M2, q1, q2, q3, q4, q5⟩ := M_deepI zT zC x (n := n) hb.1 hb.2 B' (Nat.le_trans g4.1 hB) z2
      rw [ei] at q1
      rw [q1, bnd, ← nI_succ]
      refine ⟨_, rfl, rfl, B2, rfl, on_trans g3 q2, NB_cg (NB_trans g4 q3) (fun w => ⟨?_, ?_⟩), fun p u o w r1 r2 r3 => ?_, fun k hk r => ?_⟩
      · rintro (⟨p, u, r1, r2, r3⟩ | r)
        · exact ⟨p, u, r1, by omega, r3⟩
        · exact ⟨_, _, c, by omega, r⟩
      · rintro ⟨p, u, r1, r2, r3⟩
        by_cases e : 300 * p + u = i
        · right
          have hu := (rb p u r1).2
          have ep : p = i / 300 := by omega
          have eu : u = i % 300 := by omega
          rw [ep, eu] at r3
          exact r3
        · exact Or.inl ⟨p, u, r1, by omega, r3⟩
      · show st_A M2 (ky 0 64) _ = 1
        by_cases e : ∀ o' w', Ns X (tn T 3) (i / 300) (i % 300) o' w' → 300 * o + w ≠ 300 * o' + w'
        · rw [q5 _ e]
          by_cases e2 : 300 * p + u = i
          · have hu := (rb p u r1).2
            have ep : p = i / 300 := by omega
            have eu : u = i % 300 := by omega
            rw [ep, eu] at r3
            exact absurd rfl (e o w r3)
          · exact g5 p u o w r1 (by omega) r3
        · have ⟨o', e'⟩ := Classical.not_forall.mp e
          have ⟨w', e''⟩ := Classical.not_forall.mp e'
          have ⟨r4, r5⟩ := Classical.not_imp.mp e''
          have r6 : 300 * o + w = 300 * o' + w' := Classical.byContradiction r5
          rw [r6]
          exact q4 o' w' r4
      · show st_A M2 (ky 0 64) k = 0
        rw [q5 k (fun o w r4 => r _ _ o w c r4)]
        exact g6 k hk r
    · rw [(hL i hlt).2 c, if_pos rfl, ← nI_succ]
      have ne : ∀ p u, Rw X (tn T 3) d m v p u → 300 * p + u ≠ i := by
        intro p u r e
        have hu := (rb p u r).2
        have ep : p = i / 300 := by omega
        have eu : u = i % 300 := by omega
        rw [ep, eu] at r
        exact c r
      refine ⟨_, rfl, rfl, B', rfl, g3, NB_cg g4 (fun w => ⟨fun ⟨p, u, r1, r2, r3⟩ => ⟨p, u, r1, by omega, r3⟩, fun ⟨p, u, r1, r2, r3⟩ => ⟨p, u, r1, by have := ne p u r1; omega, r3⟩⟩), fun p u o w r1 r2 r3 => g5 p u o w r1 (by have := ne p u r1; omega) r3, g6⟩
  · rintro ⟨z1, z2, z3, z⟩ ⟨g1, B', g2, g3, g4, g5, g6⟩
    change z3 = _ at g1
    change z1 = _ at g2
    change on (kM [64]) M z at g3
    change NB n B f B' z2 _ at g4
    subst g1 g2
    have fits : ∀ p u, Rw X (tn T 3) d m v p u → 300 * p + u < 2400 := fun p u r => by
      have := rb p u r
      omega
    refine ⟨_, ?_, B', z2, z, rfl, g3, NB_cg g4 (fun w => ⟨?_, ?_⟩), fun k hk => ⟨fun r => ?_, fun r => ?_⟩⟩
    · unfold f_X6_deepest_L118
      rw [if_pos (show (2400 : Int32) ≤ nI 2400 from nI_le (Nat.le_refl 2400) (by decide))]
    · rintro ⟨p, u, r1, r2, o, r3, r4⟩
      exact ⟨o, (Rw_tail d m v o w).mpr ⟨p, u, r1, r3, r4⟩⟩
    · rintro ⟨o, r⟩
      obtain ⟨p, u, r1, r3, r4⟩ := (Rw_tail d m v o w).mp r
      exact ⟨p, u, r1, fits p u r1, o, r3, r4⟩
    · obtain ⟨p, u, r1, r3, r4⟩ := (Rw_tail d m v _ _).mp r
      have := g5 p u _ _ r1 (fits p u r1) ⟨r3, r4⟩
      rw [show 300 * (k / 300) + k % 300 = k by omega] at this
      exact this
    · refine g6 k hk (fun p u o w r1 r3 e => r ((Rw_tail d m v _ _).mpr ⟨p, u, r1, ?_⟩))
      have hw := s_in_le h.1 r3.1 r3.2
      have hu := (rb p u r1).2
      rw [e, show (300 * o + w) / 300 = o by omega, show (300 * o + w) % 300 = w by omega]
      exact r3
end QP
