/-! QUESTIONS: deepest, both; numbers. -/
section QR
variable {kt s : Nat} {A : AB} {S M M' : St} {T : TX} {X : CT}
/-- few: the first number of mirrors by which the least is shown -/
def FW_ (X : CT) (nm m v n B : Nat) (fw : Int32) : Prop := ∃ f, fw = nI f ∧ 1 ≤ f ∧ f ≤ n ∧ s_L X nm (f - 1) m v = B ∧ ∀ g, 1 ≤ g → g < f → s_L X nm (g - 1) m v ≠ B
theorem s_L_anti (X : CT) (nm m v : Nat) : ∀ d j, s_L X nm (d + j) m v ≤ s_L X nm d m v := by
  intro d j
  induction j with
  | zero => exact Nat.le_refl _
  | succ j ih => exact Nat.le_trans (s_L_mono X nm (d + j) m v) ih
theorem M_deepL {M1 : St} (hM1 : RM s A M1) (t1 : tM s M1 (aT A)) (c1 : cM 56 57 58 59 M1 (aT A) (aX A)) (x : Int32) {m v : Nat} (hm : m < tn (aT A) 3) (hv : v ≤ cn (aX A)) (hL : LK (st_A M1 (ky 0 63)) (Rw (aX A) (tn (aT A) 3) 0 m v)) : ∃ fw M2, iter (f_X6_deepest_L84 x) FU (nI v, (1 : Int32), (2 : Int32), M1) = some (nI (s_L (aX A) (tn (aT A) 3) 3 m v), fw, M2) ∧ RM s A M2 ∧ FW_ (aX A) (tn (aT A) 3) m v 4 (s_L (aX A) (tn (aT A) 3) 3 m v) fw := by
  have hn := c1.1.1
  have hi := iter_invF (step := f_X6_deepest_L84 x) (x := (nI v, (1 : Int32), (2 : Int32), M1)) (fun i z => z.1 = nI (s_L (aX A) (tn (aT A) 3) i m v) ∧ z.2.2.1 = nI (i + 2) ∧ FW_ (aX A) (tn (aT A) 3) m v (i + 1) (s_L (aX A) (tn (aT A) 3) i m v) z.2.1 ∧ RM s A z.2.2.2 ∧ tM s z.2.2.2 (aT A) ∧ cM 56 57 58 59 z.2.2.2 (aT A) (aX A) ∧ LK (st_A z.2.2.2 (ky 0 63)) (Rw (aX A) (tn (aT A) 3) i m v)) (fun w => ∃ fw M2, w = (nI (s_L (aX A) (tn (aT A) 3) 3 m v), fw, M2) ∧ RM s A M2 ∧ FW_ (aX A) (tn (aT A) 3) m v 4 (s_L (aX A) (tn (aT A) 3) 3 m v) fw) 3 (by decide) ?_ ?_ ?_
  · obtain ⟨w, hw, fw, M2, rfl, q⟩ := hi
    exact ⟨fw, M2, hw, q⟩
  · have e0 : s_L (aX A) (tn (aT A) 3) 0 m v = v := isL_un (s_L_s _ _ 0 m v) (isL_0 _ _ m v)
    refine ⟨by rw [e0], rfl, ⟨1, rfl, Nat.le_refl _, Nat.le_refl _, rfl, fun g h1 h2 => by omega⟩, hM1, t1, c1, hL⟩
  · rintro i ⟨z1, z2, z3, z⟩ hlt ⟨g1, g2, g3, g4, g5, g6, g7⟩
    change z1 = _ at g1
    change z3 = _ at g2
    change FW_ _ _ m v (i + 1) _ z2 at g3
    change RM s A z at g4
    change tM s z (aT A) at g5
    change cM 56 57 58 59 z (aT A) (aX A) at g6
    subst g1 g2
    left
    have hle := s_L_le (aX A) (tn (aT A) 3) i m v
    obtain ⟨Ma, B', f', Mb, Mc, w1, w2, w3, o, hNB, hLK⟩ := M_deepR g5 g6 x (n := i + 2) hm hv (s_L (aX A) (tn (aT A) 3) i m v) (by omega) z2 g7
    have hB' : B' = s_L (aX A) (tn (aT A) 3) (i + 1) m v := by
      refine isL_un ⟨?_, fun j hj o w h => ?_⟩ (s_L_s (aX A) (tn (aT A) 3) (i + 1) m v)
      · rcases hNB.2.2 with ⟨q, _⟩ | ⟨_, _, o, q⟩
        · obtain ⟨⟨j, hj, o, ho⟩, _⟩ := s_L_s (aX A) (tn (aT A) 3) i m v
          rw [q]
          exact ⟨j, by omega, o, ho⟩
        · exact ⟨i + 1, Nat.le_refl _, o, q⟩
      · by_cases q : j ≤ i
        · exact Nat.le_trans hNB.1 ((s_L_s (aX A) (tn (aT A) 3) i m v).2 j q o w h)
        · have e : j = i + 1 := by omega
          rw [e] at h
          exact hNB.2.1 w ⟨o, h⟩
    have hF : FW_ (aX A) (tn (aT A) 3) m v (i + 2) B' f' := by
      rcases hNB.2.2 with ⟨q1, q2⟩ | ⟨q1, q2, _⟩
      · rw [q1, q2]
        obtain ⟨f, a, b, c, d, e⟩ := g3
        exact ⟨f, a, b, by omega, d, e⟩
      · refine ⟨i + 2, q2, by omega, Nat.le_refl _, hB'.symm, fun g h1 h2 e => ?_⟩
        have := s_L_anti (aX A) (tn (aT A) 3) m v (g - 1) (i - (g - 1))
        rw [show g - 1 + (i - (g - 1)) = i by omega] at this
        omega
    have rD := RM_on g4 (on_mono fsD_Q o)
    show ∃ y, f_X6_deepest_L84 x (nI _, z2, nI (i + 2), z) = _ ∧ _
    unfold f_X6_deepest_L84
    rw [if_neg (show ¬ (5 : Int32) ≤ nI (i + 2) from nI_ge (b := 5) (by omega) (by decide)), w1, bnd, w2, bnd]
    change ∃ y, (iter (f_X6_deepest_L229 x (nI B') f' (nI (i + 2))) FU ((0 : Int32), Mb)).bind _ = _ ∧ _
    rw [w3, bnd, ← nI_succ]
    refine ⟨_, rfl, by rw [hB'], rfl, by rw [← hB']; exact hF, rD, tM_fs (by decide) g5 o, cM_D g6 o, hLK⟩
  · rintro ⟨z1, z2, z3, z⟩ ⟨g1, g2, g3, g4, g5, g6, g7⟩
    change z1 = _ at g1
    change z3 = _ at g2
    change RM s A z at g4
    subst g1 g2
    refine ⟨_, ?_, z2, z, rfl, g4, g3⟩
    unfold f_X6_deepest_L84
    rw [if_pos (show (5 : Int32) ≤ nI (3 + 2) from nI_le (a := 5) (by decide) (by decide))]
theorem Q_deepest (hA : RA A) (hC : RC kt A S) (hM : RM s A M) (x y : Int32) : ans S M (pu S (f_X5_deepest S x y)) (f_X6_deepest M x y) := by
  have b3 := hC.1.1.2.2.2.1
  have hn := hC.2.1.1.1
  unfold f_X5_deepest f_X6_deepest
  rcases vld x (n := tn (aT A) 3) (by omega) with ⟨m, hm, rfl⟩ | hx
  · rw [C_mirI hC hm, M_mirI hM hm, bnd, bnd, if_neg ne10, if_neg ne10]
    rcases vld y (n := 2) (by decide) with ⟨w, hw, rfl⟩ | hy
    · rw [C_wIl (n := 2) (m := 2) rfl hw (by decide), M_wIl (n := 2) (m := 1) (by decide) hw (by decide), bnd, bnd, if_neg ne10, if_neg ne10]
      obtain ⟨M1, k, t1, c1, i1, hM1, o1⟩ := M_cop hM
      rw [hC.2.1.2.2.2.1, C_showing hC.1 hC.2.1 hm (Nat.le_refl _) trivial, bnd, k, bnd, c1.2.1, M_shows t1 c1 hm (Nat.le_refl _) trivial, bnd]
      cases hs : s_show (aX A) m (cn (aX A)) with
      | none =>
        rw [if_neg (show ¬ (0 : Int32) ≤ oI none by decide), if_neg (show ¬ (0 : Int32) ≤ oI none by decide)]
        exact ans_ps hA hC hM1 (-2) rfl rfl
      | some v =>
        have hv := s_show_le hC.2.1.1 hm hs
        have hle := s_L_le (aX A) (tn (aT A) 3) 3 m v
        rw [if_pos (show (0 : Int32) ≤ oI (some v) from nI_pos' (by omega)), if_pos (show (0 : Int32) ≤ oI (some v) from nI_pos' (by omega)), show oI (some v) = nI v from rfl]
        have g4 : f_X5_leastSeen 5 10 S (nI m) (nI v) (4 : Int32) = some (nI (s_L (aX A) (tn (aT A) 3) 3 m v)) := C_least hC.1 hC.2.1 3 5 (by decide) (by decide) m v hm hv
        rw [g4, bnd]
        -- the reference's first layer
        have w1 := fill_loop (step := f_X6_deepest_L46 (nI m) (nI w) (nI v) (1 : Int32)) M1 (ky 0 63) 0 2400 0 (fun _ => 0) (fun z => z) (by decide) (by decide) (fun i F q1 q2 hF => by
          unfold f_X6_deepest_L46
          rw [if_neg (show ¬ (2400 : Int32) ≤ nI i from nI_ge (b := 2400) q2 (by decide)), chk_t (ib_nI (by omega) (by decide)), nI_clamp (by omega), tellM_0, lt_e, upA_upA, gAs, ← nI_succ, Nat.zero_add]) (fun F => by
          unfold f_X6_deepest_L46
          rw [if_pos (show (2400 : Int32) ≤ nI 2400 from nI_le (Nat.le_refl 2400) (by decide))])
        have e3 : (300 : Int32) * nI m + nI v = nI (300 * m + v) := by
          rw [show (300 : Int32) = nI 300 from rfl, pk_mul, nI_add]
        have o2 : on (kM fsD) M1 (up_A (up_A M1 (ky 0 63) (fun j => if 0 + 0 ≤ j ∧ j < 0 + 2400 then 0 else st_A M1 (ky 0 63) j)) (ky 0 63) (upd (fun j => if 0 + 0 ≤ j ∧ j < 0 + 2400 then 0 else st_A M1 (ky 0 63) j) (300 * m + v) 1)) := on_trans (on_A _ _ _ ⟨63, by decide, rfl⟩) (on_A _ _ _ ⟨63, by decide, rfl⟩)
        obtain ⟨fw, M2, w2, rm, hF⟩ := M_deepL (RM_on hM1 (on_mono fsD_Q o2)) (tM_fs (by decide) t1 o2) (cM_D c1 o2) (nI w) hm hv (fun k hk => by
          rw [gAs, upd_e]
          constructor
          · rintro ⟨q1, q2⟩
            rw [if_pos (by omega)]
          · intro q
            rw [if_neg (fun e => q ⟨by omega, by omega⟩), if_pos (by omega)])
        change ans S M _ ((iter _ FU (nI 0, M1)).bind _)
        rw [w1, bnd, e3, chk_t (ib_nI (by omega) (by decide)), nI_clamp (by omega), tellM_i, lt_e, gAs]
        change ans S M _ ((iter (f_X6_deepest_L84 (nI w)) FU (nI v, (1 : Int32), (2 : Int32), _)).bind _)
        rw [w2, bnd]
        rcases (show w = 0 ∨ w = 1 by omega) with rfl | rfl
        · exact ans_ps hA hC rm (nI (s_L (aX A) (tn (aT A) 3) 3 m v)) rfl rfl
        · refine ans_ps hA hC rm fw ?_ rfl
          rw [if_neg (show ¬ nI 1 = (0 : Int32) by decide)]
          have g := up_find (step := f_X5_deepest_L63 S (nI m) (nI v) (nI (s_L (aX A) (tn (aT A) 3) 3 m v))) (fun i => nI (i + 1)) (fun i => decide (s_L (aX A) (tn (aT A) 3) i m v = s_L (aX A) (tn (aT A) 3) 3 m v)) (fun i => nI (i + 1)) 4 3 (by decide) (fun i hi _ => by
            have hl := s_L_le (aX A) (tn (aT A) 3) i m v
            unfold f_X5_deepest_L63
            rw [if_neg (show ¬ (4 : Int32) ≤ nI (i + 1) from nI_ge (b := 4) (by omega) (by decide)), C_least hC.1 hC.2.1 i 5 (by omega) (by omega) m v hm hv, bnd, ← nI_succ]
            by_cases c : s_L (aX A) (tn (aT A) 3) i m v = s_L (aX A) (tn (aT A) 3) 3 m v
            · rw [if_pos (by rw [c]), if_pos (decide_eq_true c)]
            · rw [if_neg (fun q => c ((nI_eq (by omega) (by omega)).mp q)), if_neg (fun q => c (of_decide_eq_true q))]) (fun _ => by
            unfold f_X5_deepest_L63
            rw [if_pos (show (4 : Int32) ≤ nI (3 + 1) from nI_le (a := 4) (by decide) (by decide))])
          change iter _ FU (nI 1) = _
          rw [show iter (f_X5_deepest_L63 S (nI m) (nI v) (nI (s_L (aX A) (tn (aT A) 3) 3 m v))) FU (nI 1) = _ from g]
          obtain ⟨f, a, b, c, d, e⟩ := hF
          rw [a]
          cases q : s_fst (fun i => decide (s_L (aX A) (tn (aT A) 3) i m v = s_L (aX A) (tn (aT A) 3) 3 m v)) 3 with
          | none =>
            have : f = 4 := by
              rcases Nat.lt_or_ge f 4 with z | z
              · have := s_fst_none q (f - 1) (by omega)
                exact absurd d (of_decide_eq_false this)
              · omega
            rw [this]
            rfl
          | some i =>
            have hi := s_fst_lt q
            have hp := of_decide_eq_true hi.2
            have h1 : ¬ i + 1 < f := fun z => e (i + 1) (by omega) z hp
            have h2 : ¬ f < i + 1 := fun z => by
              have h3 : ∀ n, s_fst (fun i => decide (s_L (aX A) (tn (aT A) 3) i m v = s_L (aX A) (tn (aT A) 3) 3 m v)) n = some i → ∀ k, k < i → s_L (aX A) (tn (aT A) 3) k m v ≠ s_L (aX A) (tn (aT A) 3) 3 m v := by
                intro n
                induction n with
                | zero => intro h; cases h
                | succ n ih =>
                  intro h k hk
                  cases hn : s_fst (fun i => decide (s_L (aX A) (tn (aT A) 3) i m v = s_L (aX A) (tn (aT A) 3) 3 m v)) n with
                  | some j' =>
                    rw [s_fst_stay hn] at h
                    cases h
                    exact ih hn k hk
                  | none =>
                    rw [s_fst_succ hn] at h
                    split at h
                    · cases h
                      exact of_decide_eq_false (s_fst_none hn k hk)
                    · cases h
              exact h3 3 q (f - 1) (by omega) d
            have h4 : f = i + 1 := by omega
            rw [h4]
    · rw [C_wOl (n := 2) (m := 2) rfl hy, M_wOl (n := 2) (m := 1) (by decide) (by decide) hy, bnd, bnd, if_pos rfl, if_pos rfl]
      exact ans_ps hA hC hM (-1) rfl rfl
  · rw [C_mirO hC hx, M_mirO hM hx, bnd, bnd, if_pos rfl, if_pos rfl]
    exact ans_ps hA hC hM (-1) rfl rfl
theorem C_broken1 (hC : RC kt A S) : f_X0_brokenOnes 10 S = some (nI (bs (tn (aT A) 3) (fun m => s_brk (aX A) m (cn (aX A))))) := by
  have b3 := hC.1.1.2.2.2.1
  unfold f_X0_brokenOnes
  refine iter_FU (step := f_X0_brokenOnes_L4 10 S) (fun i => (nI (bs i (fun m => s_brk (aX A) m (cn (aX A)))), nI i)) (tn (aT A) 3) (by omega) (fun i hi => ?_) ?_
  · have hb := bs_lt (fun m => s_brk (aX A) m (cn (aX A))) i
    unfold f_X0_brokenOnes_L4 f_X0_brokenOnes_J35
    rw [chk_t (cC_T hC.1 hC.2.1), hC.2.1.2.2.1, hC.1.2.2.1 3 (by decide), if_neg (show ¬ nI (tn (aT A) 3) ≤ nI i from nI_ge hi (by omega)), hC.2.1.2.2.2.1, C_broken hC.1 hC.2.1 hi (Nat.le_refl _), bnd, bs]
    by_cases c : s_brk (aX A) i (cn (aX A)) = true
    · rw [if_pos c, if_neg ne10, if_pos c, shl_b i (by omega), or_b i (by omega) _ hb, ← nI_succ]
    · rw [if_neg c, if_pos rfl, if_neg c]
      show some (Sum.inl (nI _ ||| nI 0, _)) = _
      rw [nI_oN, Nat.or_zero, Nat.add_zero, ← nI_succ]
  · unfold f_X0_brokenOnes_L4
    rw [chk_t (cC_T hC.1 hC.2.1), hC.2.1.2.2.1, hC.1.2.2.1 3 (by decide), if_pos (show nI (tn (aT A) 3) ≤ nI (tn (aT A) 3) from nI_le (Nat.le_refl _) (by omega))]
theorem M_bits (hM : RM s A M) (w : Bool) (x : Int32) (hx : x = if w then 5 else 6) : iter (f_X6_count_L109 M x) FU ((0 : Int32), (0 : Int32)) = some (nI (bs (tn (aT A) 3) (fun m => if w then s_brk (aX A) m (cn (aX A)) else cw (aX A) (cn (aX A)) m))) := by
  have b3 := hM.1.1.2.2.2.1
  have hn := hM.2.1.1.1
  obtain ⟨l1, l2⟩ := tM_live hM.1
  refine iter_FU (step := f_X6_count_L109 M x) (fun i => (nI (bs i (fun m => if w then s_brk (aX A) m (cn (aX A)) else cw (aX A) (cn (aX A)) m)), nI i)) (tn (aT A) 3) (by omega) (fun i hi => ?_) ?_
  · have hb := bs_lt (fun m => if w then s_brk (aX A) m (cn (aX A)) else cw (aX A) (cn (aX A)) m) i
    have hk := bkM_none hM.2.1.1 hi
    have row := (hM.2.1.2.2.1 (cn (aX A)) (Nat.le_refl _)).2 i hi
    unfold f_X6_count_L109 f_X6_count_J152
    rw [chk_t l1, l2, (tM_n hM).2.2.1, if_neg (show ¬ nI (tn (aT A) 3) ≤ nI i from nI_ge hi (by omega)), bs]
    cases w
    · have e20 : (20 : Int32) + nI i = nI (20 + i) := nI_add 20 i
      have ex : ¬ x = 5 := by rw [hx]; decide
      rw [if_neg ex, e20, M_now hM (by omega), bnd, ← Nat.add_assoc, row.2.1]
      by_cases c : cw (aX A) (cn (aX A)) i = true
      · rw [if_pos c, if_pos rfl, if_pos (show (if false = true then s_brk (aX A) i (cn (aX A)) else cw (aX A) (cn (aX A)) i) = true from c), shl_b i (by omega), or_b i (by omega) _ hb, ← nI_succ]
      · rw [if_neg c, if_neg (by decide), if_neg (show ¬ (if false = true then s_brk (aX A) i (cn (aX A)) else cw (aX A) (cn (aX A)) i) = true from c), Nat.add_zero, ← nI_succ]
    · have ex : x = 5 := hx
      rw [if_pos ex, chk_t (ib_nI (by omega) (by decide)), nI_clamp (by omega), (hM.2.1.2.2.2 i hi).1]
      by_cases c : s_brk (aX A) i (cn (aX A)) = true
      · rw [if_neg (fun e => hk.mp e c), if_pos (show (if true = true then s_brk (aX A) i (cn (aX A)) else cw (aX A) (cn (aX A)) i) = true from c), shl_b i (by omega), or_b i (by omega) _ hb, ← nI_succ]
      · rw [if_pos (hk.mpr c), if_neg (show ¬ (if true = true then s_brk (aX A) i (cn (aX A)) else cw (aX A) (cn (aX A)) i) = true from c), Nat.add_zero, ← nI_succ]
  · unfold f_X6_count_L109
    rw [chk_t l1, l2, (tM_n hM).2.2.1, if_pos (show nI (tn (aT A) 3) ≤ nI (tn (aT A) 3) from nI_le (Nat.le_refl _) (by omega))]
theorem M_held (hM : RM s A M) : (if st_A M (ky 0 72) (0 : Int32).toNatClampNeg = 0 then f_X6_count_J195 M 0 else f_X6_count_J195 M 1) = some (nI (pop (bs 3 (fun j => (aS A j).isSome)))) := by
  have h := hM.2.2.2.1.1
  have i1 : ib (1 : Int32) 3 := ib_nI (i := 1) (by decide) (by decide)
  have i2 : ib (2 : Int32) 3 := ib_nI (i := 2) (by decide) (by decide)
  have n0 : (0 : Int32).toNatClampNeg = 0 := nI_clamp (n := 0) (by decide)
  have n1 : (1 : Int32).toNatClampNeg = 1 := nI_clamp (n := 1) (by decide)
  have n2 : (2 : Int32).toNatClampNeg = 2 := nI_clamp (n := 2) (by decide)
  unfold f_X6_count_J195 f_X6_count_J209
  rw [chk_t i1, chk_t i1, chk_t i2, chk_t i2, n0, n1, n2, h 0 (by decide), h 1 (by decide), h 2 (by decide), pop_bs _ (by decide)]
  show _ = some (nI (0 + (if (aS A 0).isSome = true then 1 else 0) + (if (aS A 1).isSome = true then 1 else 0) + if (aS A 2).isSome = true then 1 else 0))
  cases (aS A 0).isSome <;> cases (aS A 1).isSome <;> cases (aS A 2).isSome <;> rfl
theorem Q_count (hA : RA A) (hC : RC kt A S) (hM : RM s A M) (x : Int32) : ans S M (pu S (f_X5_count S x)) (pu M (f_X6_count M x)) := by
  obtain ⟨l1, l2⟩ := tM_live hM.1
  have hT := RC_T hC
  have b3 := hC.1.1.2.2.2.1
  unfold f_X5_count f_X6_count
  rw [chk_t hT, chk_t hT, chk_t hT, chk_t hT, hC.2.2.1.1, hC.1.2.2.1 0 (by decide), hC.1.2.2.1 1 (by decide), hC.1.2.2.1 2 (by decide), hC.1.2.2.1 3 (by decide), chk_t l1, chk_t l1, chk_t l1, chk_t l1, l2, (tM_n hM).1, (tM_n hM).2.1, (tM_n hM).2.2.1, (tM_n hM).2.2.2]
  by_cases x0 : x = 0
  · rw [if_pos x0, if_pos x0]
    exact ans_pp hA hC hM _ rfl rfl
  rw [if_neg x0, if_neg x0]
  by_cases x1 : x = 1
  · rw [if_pos x1, if_pos x1]
    exact ans_pp hA hC hM _ rfl rfl
  rw [if_neg x1, if_neg x1]
  by_cases x2 : x = 2
  · rw [if_pos x2, if_pos x2]
    exact ans_pp hA hC hM _ rfl rfl
  rw [if_neg x2, if_neg x2]
  by_cases x3 : x = 3
  · rw [if_pos x3, if_pos x3]
    exact ans_pp hA hC hM _ rfl rfl
  rw [if_neg x3, if_neg x3]
  by_cases x4 : x = 4
  · rw [if_pos x4, if_pos x4]
    exact ans_pp hA hC hM _ (congrArg some hC.2.1.2.2.2.1) (congrArg some hM.2.1.2.1)
  rw [if_neg x4, if_neg x4]
  by_cases x5 : x = 5
  · rw [if_pos x5, if_pos (Or.inl x5), C_broken1 hC, bnd]
    exact ans_pp hA hC hM _ rfl (M_bits hM true x x5)
  rw [if_neg x5]
  by_cases x6 : x = 6
  · rw [if_pos x6, if_pos (Or.inr x6)]
    have hn := hC.2.1.1.1
    have g := (hC.2.1.2.2.2.2.1 (cn (aX A)) (Nat.le_refl _)).2.2
    unfold f_X0_turnedOnes
    rw [hC.2.1.2.2.2.1, at_nI (lnC (show cl_C 10 = 0 from rfl) (by decide) (n := 300) rfl) (by omega) (by decide), bnd, bnd, g]
    exact ans_pp hA hC hM _ rfl (M_bits hM false x x6)
  rw [if_neg x6, if_neg (show ¬ (x = 5 ∨ x = 6) from fun q => q.elim x5 x6)]
  by_cases x7 : x = 7
  · rw [if_pos x7, if_pos x7]
    exact ans_pp hA hC hM _ (congrArg some hC.2.2.2.2.2.2.1.1) (congrArg some hM.2.2.2.2.2.1.1)
  rw [if_neg x7, if_neg x7]
  by_cases x8 : x = 8
  · rw [if_pos x8, if_pos x8]
    obtain ⟨a, fi, b, c, d, e⟩ := hC.2.2.2.1
    exact ans_pp hA hC hM _ (congrArg some d) (congrArg some hM.2.2.1.2.1)
  rw [if_neg x8, if_neg x8]
  by_cases x9 : x = 9
  · rw [if_pos x9, if_pos x9]
    exact ans_pp hA hC hM _ (congrArg some hC.2.2.2.2.2.1.1) (congrArg some hM.2.2.2.2.1.1)
  rw [if_neg x9, if_neg x9]
  by_cases x10 : x = 10
  · have hl : bs 3 (fun j => (aS A j).isSome) < 256 := Nat.lt_of_lt_of_le (bs_lt _ _) (by decide)
    have i0 : ib (0 : Int32) 3 := ib_nI (i := 0) (by decide) (by decide)
    rw [if_pos x10, if_pos x10, hC.2.2.2.2.1.1, bitC _ hl, bnd, chk_t i0, M_held hM]
    exact ans_pp hA hC hM _ rfl rfl
  rw [if_neg x10, if_neg x10]
  exact ans_pp hA hC hM (-1) rfl rfl
end QR
