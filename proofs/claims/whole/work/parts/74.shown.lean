/-! QUESTIONS: twice shown, skipped. -/
def cN (X : CT) (m t v : Nat) : Nat := s_cnt (fun u => decide (s_show X m u = some v)) t
theorem cN_0 (X : CT) (m v : Nat) : cN X m 0 v = 0 := rfl
theorem cN_s (X : CT) (m t v : Nat) : cN X m (t + 1) v = cN X m t v + if s_show X m t = some v then 1 else 0 := by
  show s_cnt _ t + _ = _
  by_cases c : s_show X m t = some v
  · rw [if_pos (decide_eq_true c), if_pos c]
    rfl
  · rw [if_neg (fun q => c (of_decide_eq_true q)), if_neg c]
    rfl
theorem cN_le (X : CT) (m t v : Nat) : cN X m t v ≤ t := s_cnt_le _ _
/-- the least and the greatest, or 300 and -1 -/
def LH (p : Nat → Bool) (n : Nat) (x y : Int32) : Prop := ((∀ v, v < n → p v = false) ∧ x = 300 ∧ y = -1) ∨ ∃ l h, l < n ∧ h < n ∧ x = nI l ∧ y = nI h ∧ p l = true ∧ p h = true ∧ ∀ v, v < n → p v = true → l ≤ v ∧ v ≤ h
theorem LH_un {p : Nat → Bool} {n : Nat} {x y x' y' : Int32} (h : LH p n x y) (g : LH p n x' y') : x = x' ∧ y = y' := by
  rcases h with ⟨a, b, c⟩ | ⟨l, k, h1, h2, h3, h4, h5, h6, h7⟩
  · rcases g with ⟨a', b', c'⟩ | ⟨l, k, h1, h2, h3, h4, h5, h6, h7⟩
    · exact ⟨b.trans b'.symm, c.trans c'.symm⟩
    · rw [a l h1] at h5
      cases h5
  · rcases g with ⟨a', b', c'⟩ | ⟨l', k', g1, g2, g3, g4, g5, g6, g7⟩
    · rw [a' l h1] at h5
      cases h5
    · have e1 := (h7 l' g1 g5).1
      have e2 := (g7 l h1 h5).1
      have e3 := (h7 k' g2 g6).2
      have e4 := (g7 k h2 h6).2
      have e5 : l = l' := by omega
      have e6 : k = k' := by omega
      rw [h3, h4, g3, g4, e5, e6]
      exact ⟨rfl, rfl⟩
theorem s_cnt_split (p : Nat → Bool) (a : Nat) : ∀ b, s_cnt p (a + b) = s_cnt p a + s_cnt (fun j => p (a + j)) b := by
  intro b
  induction b with
  | zero => rfl
  | succ b ih =>
    show s_cnt p (a + b) + (if p (a + b) = true then 1 else 0) = s_cnt p a + (s_cnt (fun j => p (a + j)) b + (if p (a + b) = true then 1 else 0))
    rw [ih]
    omega
theorem s_cnt_z (p : Nat → Bool) : ∀ n, (∀ j, j < n → p j = false) → s_cnt p n = 0 := by
  intro n
  induction n with
  | zero => intro _; rfl
  | succ n ih =>
    intro h
    rw [s_cnt, ih (fun j hj => h j (by omega)), h n (by omega)]
    rfl
theorem s_cnt_not (p : Nat → Bool) : ∀ n, s_cnt p n + s_cnt (fun j => !p j) n = n := by
  intro n
  induction n with
  | zero => rfl
  | succ n ih =>
    rw [s_cnt, s_cnt]
    cases p n
    · show s_cnt p n + 0 + (_ + 1) = _
      omega
    · show s_cnt p n + 1 + (_ + 0) = _
      omega
theorem s_cnt_cg {p q : Nat → Bool} : ∀ n, (∀ j, j < n → p j = q j) → s_cnt p n = s_cnt q n := by
  intro n
  induction n with
  | zero => intro _; rfl
  | succ n ih =>
    intro h
    rw [s_cnt, s_cnt, ih (fun j hj => h j (by omega)), h n (by omega)]
/-- all of what is between -/
theorem s_cnt_mid {p : Nat → Bool} {n l h : Nat} (hl : l ≤ h) (hh : h < n) (hp : ∀ v, v < n → p v = true → l ≤ v ∧ v ≤ h) : s_cnt p n = s_cnt (fun j => p (l + j)) (h - l + 1) := by
  have e1 := s_cnt_split p l (h - l + 1)
  have e2 := s_cnt_split p (l + (h - l + 1)) (n - (h + 1))
  have z1 : s_cnt p l = 0 := s_cnt_z p l (fun j hj => by
    cases e : p j
    · rfl
    · have := hp j (by omega) e
      omega)
  have z2 : s_cnt (fun j => p (l + (h - l + 1) + j)) (n - (h + 1)) = 0 := s_cnt_z _ _ (fun j hj => by
    show p (l + (h - l + 1) + j) = false
    cases e : p (l + (h - l + 1) + j)
    · rfl
    · have := hp _ (by omega) e
      omega)
  rw [z2, e1, z1, show l + (h - l + 1) + (n - (h + 1)) = n by omega] at e2
  omega
section QG
variable {kt s : Nat} {A : AB} {S M M' : St} {T : TX} {X : CT}
theorem C_tally (hC : RC kt A S) {m : Nat} (hm : m < tn (aT A) 3) : ∃ S', f_X5_tallyShown S (nI m) = some S' ∧ RC kt A S' ∧ ∀ v, v < 300 → st_A S' (ky 0 15) v = nI (cN (aX A) m (cn (aX A) + 1) v) := by
  have hn := hC.2.1.1.1
  have L15 : wk_n wd_C (ky 0 15) = 300 := lnC (show cl_C 0 = 5 from rfl) (by decide) rfl
  have k15 : kS kt (ky 0 15) := Or.inr (Or.inr (Or.inr (Or.inr rfl)))
  obtain ⟨S1, w1, r1, z1⟩ := loop_P (step := f_X5_tallyShown_L2 (nI m)) S 300 (fun z => z) (fun i z => RC kt A z ∧ ∀ v, v < i → st_A z (ky 0 15) v = 0) (by decide) ⟨hC, fun v hv => absurd hv (Nat.not_lt_zero _)⟩ (fun i z hi hz => by
    refine ⟨up_A z (ky 0 15) (upd (st_A z (ky 0 15)) i 0), ?_, RC_on hz.1 (on_A _ _ _ k15), fun v hv => ?_⟩
    · unfold f_X5_tallyShown_L2
      rw [if_neg (show ¬ (300 : Int32) ≤ nI i from nI_ge (b := 300) hi (by decide)), put_nI L15 hi (by decide), bnd, ← nI_succ]
    · rw [gAs, upd_e]
      by_cases c : v = i
      · rw [if_pos c]
      · rw [if_neg c]
        exact hz.2 v (by omega)) (fun z hz => by
    unfold f_X5_tallyShown_L2
    rw [if_pos (show (300 : Int32) ≤ nI 300 from nI_le (Nat.le_refl 300) (by decide))])
  obtain ⟨S2, w2, r2, z2⟩ := loop_P (step := f_X5_tallyShown_L26 (nI m)) S1 (cn (aX A) + 1) (fun z => z) (fun i z => RC kt A z ∧ ∀ v, v < 300 → st_A z (ky 0 15) v = nI (cN (aX A) m i v)) (by omega) ⟨r1, fun v hv => by rw [z1 v hv]; rfl⟩ (fun i z hi hz => by
    have hle : ∀ v, s_show (aX A) m i = some v → v ≤ i := fun v e => s_show_le hC.2.1.1 hm e
    unfold f_X5_tallyShown_L26
    rw [hz.1.2.1.2.2.2.1, if_neg (show ¬ nI (cn (aX A)) < nI i from nI_nlt (by omega) (by omega)), C_showing hz.1.1 hz.1.2.1 hm (by omega) trivial, bnd]
    cases e : s_show (aX A) m i with
    | none =>
      rw [if_pos (show oI none < 0 by decide), ← nI_succ]
      refine ⟨z, rfl, hz.1, fun v hv => ?_⟩
      rw [hz.2 v hv, cN_s, e, if_neg (fun q => by cases q)]
      rfl
    | some w =>
      have hw := hle w e
      rw [if_neg (show ¬ oI (some w) < 0 from nI_pos (by omega)), show oI (some w) = nI w from rfl, at_nI L15 (by omega) (by decide), bnd, put_nI L15 (by omega) (by decide), bnd, hz.2 w (by omega), ← nI_succ, ← nI_succ]
      refine ⟨_, rfl, RC_on hz.1 (on_A _ _ _ k15), fun v hv => ?_⟩
      rw [gAs, upd_e, cN_s, e]
      by_cases c : v = w
      · rw [if_pos c, c, if_pos rfl]
      · rw [if_neg c, hz.2 v hv, if_neg (fun q => c (Option.some.inj q).symm)]
        rfl) (fun z hz => by
    unfold f_X5_tallyShown_L26
    rw [hz.1.2.1.2.2.2.1, if_pos (show nI (cn (aX A)) < nI (cn (aX A) + 1) from nI_lt (by omega) (by omega))])
  refine ⟨S2, ?_, r2, z2⟩
  unfold f_X5_tallyShown
  rw [w1, bnd, w2]
theorem C_shownL (S' : St) (N : Nat → Nat) (hN : ∀ v, N v < 2 ^ 31) (hS : ∀ v, v < 300 → st_A S' (ky 0 15) v = nI (N v)) (x : Int32) : ∃ a b, iter (f_X5_shown_L31 S' x) FU ((300 : Int32), (-1 : Int32), (0 : Int32), (0 : Int32), (0 : Int32)) = some (a, b, nI (s_cnt (fun v => decide (0 < N v)) 300), nI (s_cnt (fun v => decide (1 < N v)) 300)) ∧ LH (fun v => decide (0 < N v)) 300 a b := by
  have L15 : wk_n wd_C (ky 0 15) = 300 := lnC (show cl_C 0 = 5 from rfl) (by decide) rfl
  have hi := iter_invF (step := f_X5_shown_L31 S' x) (x := ((300 : Int32), (-1 : Int32), (0 : Int32), (0 : Int32), (0 : Int32))) (fun i z => LH (fun v => decide (0 < N v)) i z.1 z.2.1 ∧ z.2.2.1 = nI (s_cnt (fun v => decide (0 < N v)) i) ∧ z.2.2.2.1 = nI (s_cnt (fun v => decide (1 < N v)) i) ∧ z.2.2.2.2 = nI i) (fun w => ∃ a b, w = (a, b, nI (s_cnt (fun v => decide (0 < N v)) 300), nI (s_cnt (fun v => decide (1 < N v)) 300)) ∧ LH (fun v => decide (0 < N v)) 300 a b) 300 (by decide) ⟨Or.inl ⟨fun v hv => absurd hv (Nat.not_lt_zero _), rfl, rfl⟩, rfl, rfl, rfl⟩ ?_ ?_
  · obtain ⟨w, hw, a, b, rfl, hl⟩ := hi
    exact ⟨a, b, hw, hl⟩
  · rintro i ⟨z1, z2, z3, z4, z5⟩ hlt ⟨hl, e3, e4, e5⟩
    change LH _ i z1 z2 at hl
    change z3 = _ at e3
    change z4 = _ at e4
    change z5 = _ at e5
    subst e3 e4 e5
    left
    show ∃ y, f_X5_shown_L31 S' x (z1, z2, nI _, nI _, nI i) = _ ∧ _
    unfold f_X5_shown_L31
    rw [if_neg (show ¬ (300 : Int32) ≤ nI i from nI_ge (b := 300) hlt (by decide)), at_nI L15 hlt (by decide), bnd, hS i hlt, s_cnt, s_cnt]
    have J : ∀ a b c : Int32, f_X5_shown_J69 S' x a b c (nI (s_cnt (fun v => decide (1 < N v)) i)) (nI i) (nI (N i)) = some (.inl (a, b, c, nI (s_cnt (fun v => decide (1 < N v)) i + if decide (1 < N i) = true then 1 else 0), nI (i + 1))) := by
      intro a b c
      unfold f_X5_shown_J69
      rw [← nI_succ, ← nI_succ]
      by_cases d : 1 < N i
      · rw [if_neg (show ¬ nI (N i) ≤ (1 : Int32) from nI_ge (a := 1) d (hN i)), if_pos (decide_eq_true d)]
      · rw [if_pos (show nI (N i) ≤ (1 : Int32) from nI_le (b := 1) (by omega) (by decide)), if_neg (fun q => d (of_decide_eq_true q))]
        rfl
    by_cases c : 0 < N i
    · rw [if_neg (show ¬ nI (N i) ≤ (0 : Int32) from nI_np c (hN i)), J, if_pos (decide_eq_true c), ← nI_succ]
      refine ⟨_, rfl, ?_, rfl, rfl, rfl⟩
      right
      rcases hl with ⟨h1, h2, h3⟩ | ⟨l, k, h1, h2, h3, h4, h5, h6, h7⟩
      · refine ⟨i, i, Nat.lt_succ_self _, Nat.lt_succ_self _, ?_, rfl, decide_eq_true c, decide_eq_true c, fun v hv hp => ?_⟩
        · show (if nI i < z1 then nI i else z1) = nI i
          rw [h2, if_pos (show nI i < (300 : Int32) from nI_lt (b := 300) hlt (by decide))]
        · by_cases d : v = i
          · omega
          · rw [h1 v (by omega)] at hp
            cases hp
      · refine ⟨l, i, by omega, Nat.lt_succ_self _, ?_, rfl, h5, decide_eq_true c, fun v hv hp => ?_⟩
        · show (if nI i < z1 then nI i else z1) = nI l
          rw [h3, if_neg (nI_nlt (by omega) (by omega))]
        · by_cases d : v = i
          · omega
          · have := h7 v (by omega) hp
            omega
    · rw [if_pos (show nI (N i) ≤ (0 : Int32) from nI_z0 (by omega)), J, if_neg (fun q => c (of_decide_eq_true q))]
      refine ⟨_, rfl, ?_, rfl, rfl, rfl⟩
      rcases hl with ⟨h1, h2, h3⟩ | ⟨l, k, h1, h2, h3, h4, h5, h6, h7⟩
      · left
        refine ⟨fun v hv => ?_, h2, h3⟩
        by_cases d : v = i
        · rw [d]
          exact decide_eq_false c
        · exact h1 v (by omega)
      · right
        refine ⟨l, k, by omega, by omega, h3, h4, h5, h6, fun v hv hp => ?_⟩
        by_cases d : v = i
        · rw [d] at hp
          exact absurd (of_decide_eq_true hp) c
        · exact h7 v (by omega) hp
  · rintro ⟨z1, z2, z3, z4, z5⟩ ⟨hl, e3, e4, e5⟩
    change LH _ 300 z1 z2 at hl
    change z3 = _ at e3
    change z4 = _ at e4
    change z5 = _ at e5
    subst e3 e4 e5
    refine ⟨_, ?_, z1, z2, rfl, hl⟩
    unfold f_X5_shown_L31
    rw [if_pos (show (300 : Int32) ≤ nI 300 from nI_le (Nat.le_refl 300) (by decide))]
/-- one more shown -/
theorem LH_add {p p' : Nat → Bool} {n w : Nat} {x y : Int32} (hn : n ≤ 300) (hw : w < n) (h : LH p n x y) (hp : ∀ v, v < n → p' v = (p v || decide (v = w))) : LH p' n (if x ≤ nI w then x else nI w) (if nI w ≤ y then y else nI w) := by
  right
  rcases h with ⟨h1, h2, h3⟩ | ⟨l, k, h1, h2, h3, h4, h5, h6, h7⟩
  · refine ⟨w, w, hw, hw, ?_, ?_, by rw [hp w hw]; simp, by rw [hp w hw]; simp, fun v hv hq => ?_⟩
    · rw [h2, if_neg (show ¬ (300 : Int32) ≤ nI w from nI_ge (b := 300) (by omega) (by decide))]
    · rw [h3, if_neg (show ¬ nI w ≤ (-1 : Int32) from fun q => nI_pos (n := w) (by omega) (Int32.lt_of_le_of_lt q (by decide)))]
    · rw [hp v hv, h1 v hv] at hq
      have : v = w := by simpa using hq
      omega
  · refine ⟨if l ≤ w then l else w, if w ≤ k then k else w, by split <;> omega, by split <;> omega, ?_, ?_, ?_, ?_, fun v hv hq => ?_⟩
    · rw [h3]
      by_cases c : l ≤ w
      · rw [if_pos (nI_le c (by omega)), if_pos c]
      · rw [if_neg (nI_ge (by omega) (by omega)), if_neg c]
    · rw [h4]
      by_cases c : w ≤ k
      · rw [if_pos (nI_le c (by omega)), if_pos c]
      · rw [if_neg (nI_ge (by omega) (by omega)), if_neg c]
    · split
      · rw [hp l h1, h5]; rfl
      · rw [hp w hw]; simp
    · split
      · rw [hp k h2, h6]; rfl
      · rw [hp w hw]; simp
    · rw [hp v hv] at hq
      by_cases d : v = w
      · subst d
        split <;> split <;> omega
      · have hpv : p v = true := by simpa [d] using hq
        have := h7 v hv hpv
        split <;> split <;> omega
theorem M_shownT {M1 : St} (hM1 : RM s A M1) (t1 : tM s M1 (aT A)) (c1 : cM 56 57 58 59 M1 (aT A) (aX A)) {m : Nat} (hm : m < tn (aT A) 3) (x : Int32) : ∃ M2 a b M3, iter (f_X6_shown_L16 (nI m) x) FU ((0 : Int32), M1) = some M2 ∧ iter (f_X6_shown_L46 (nI m) x) FU ((300 : Int32), (-1 : Int32), (0 : Int32), M2) = some (a, b, M3) ∧ LH (fun v => decide (0 < cN (aX A) m (cn (aX A) + 1) v)) 300 a b ∧ RM s A M3 ∧ ∀ v, v < 300 → st_A M3 (ky 0 65) v = nI (cN (aX A) m (cn (aX A) + 1) v) := by
  have hn := c1.1.1
  obtain ⟨M2, w1, r1, T1, C1, z1⟩ := loop_P (step := f_X6_shown_L16 (nI m) x) M1 300 (fun z => z) (fun i z => RM s A z ∧ tM s z (aT A) ∧ cM 56 57 58 59 z (aT A) (aX A) ∧ ∀ v, v < i → st_A z (ky 0 65) v = 0) (by decide) ⟨hM1, t1, c1, fun v hv => absurd hv (Nat.not_lt_zero _)⟩ (fun i z hi hz => by
    have o : on (kM [65]) z (up_A z (ky 0 65) (upd (st_A z (ky 0 65)) i 0)) := on_A _ _ _ ⟨65, by decide, rfl⟩
    refine ⟨up_A z (ky 0 65) (upd (st_A z (ky 0 65)) i 0), ?_, RM_on hz.1 (on_A _ _ _ ⟨65, by decide, rfl⟩), tM_fs (by decide) hz.2.1 o, cM_on hz.2.2.1 o (kM_n (by decide) (by decide) (by decide)) (kM_n (by decide) (by decide) (by decide)) (kM_n (by decide) (by decide) (by decide)) (kM_n (by decide) (by decide) (by decide)), fun v hv => ?_⟩
    · unfold f_X6_shown_L16
      rw [if_neg (show ¬ (300 : Int32) ≤ nI i from nI_ge (b := 300) hi (by decide)), chk_t (ib_nI hi (by decide)), nI_clamp (by omega), lt_e, ← nI_succ]
    · rw [gAs, upd_e]
      by_cases c : v = i
      · rw [if_pos c]
      · rw [if_neg c]
        exact hz.2.2.2 v (by omega)) (fun z hz => by
    unfold f_X6_shown_L16
    rw [if_pos (show (300 : Int32) ≤ nI 300 from nI_le (Nat.le_refl 300) (by decide))])
  have hi := iter_invF (step := f_X6_shown_L46 (nI m) x) (x := ((300 : Int32), (-1 : Int32), (0 : Int32), M2)) (fun i z => LH (fun v => decide (0 < cN (aX A) m i v)) 300 z.1 z.2.1 ∧ z.2.2.1 = nI i ∧ RM s A z.2.2.2 ∧ tM s z.2.2.2 (aT A) ∧ cM 56 57 58 59 z.2.2.2 (aT A) (aX A) ∧ ∀ v, v < 300 → st_A z.2.2.2 (ky 0 65) v = nI (cN (aX A) m i v)) (fun w => ∃ a b M3, w = (a, b, M3) ∧ LH (fun v => decide (0 < cN (aX A) m (cn (aX A) + 1) v)) 300 a b ∧ RM s A M3 ∧ ∀ v, v < 300 → st_A M3 (ky 0 65) v = nI (cN (aX A) m (cn (aX A) + 1) v)) (cn (aX A) + 1) (by omega) ⟨Or.inl ⟨fun v hv => rfl, rfl, rfl⟩, rfl, r1, T1, C1, fun v hv => by rw [z1 v hv]; rfl⟩ ?_ ?_
  · obtain ⟨w, hw, a, b, M3, rfl, q⟩ := hi
    exact ⟨M2, a, b, M3, w1, hw, q⟩
  · rintro i ⟨z1, z2, z3, z⟩ hlt ⟨hl, e3, hr, hT, hC, hN⟩
    change LH _ 300 z1 z2 at hl
    change z3 = _ at e3
    change RM s A z at hr
    change tM s z (aT A) at hT
    change cM 56 57 58 59 z (aT A) (aX A) at hC
    change ∀ v, v < 300 → st_A z (ky 0 65) v = nI (cN (aX A) m i v) at hN
    subst e3
    left
    have hle : ∀ v, s_show (aX A) m i = some v → v ≤ i := fun v e => s_show_le hC.1 hm e
    show ∃ y, f_X6_shown_L46 (nI m) x (z1, z2, nI i, z) = _ ∧ _
    unfold f_X6_shown_L46
    rw [hC.2.1, if_neg (show ¬ nI (cn (aX A)) < nI i from nI_nlt (by omega) (by omega)), M_shows hT hC hm (by omega) trivial, bnd]
    cases e : s_show (aX A) m i with
    | none =>
      rw [if_neg (show ¬ (0 : Int32) ≤ oI none by decide), ← nI_succ]
      have hc : ∀ v, cN (aX A) m (i + 1) v = cN (aX A) m i v := fun v => by
        rw [cN_s, e, if_neg (fun q => by cases q)]
        rfl
      refine ⟨_, rfl, ?_, rfl, hr, hT, hC, fun v hv => ?_⟩
      · have e2 : (fun v => decide (0 < cN (aX A) m (i + 1) v)) = fun v => decide (0 < cN (aX A) m i v) := by
          funext v
          rw [hc v]
        rw [e2]
        exact hl
      · show st_A z (ky 0 65) v = _
        rw [hN v hv, hc v]
    | some w =>
      have hw := hle w e
      have o : on (kM [65]) z (up_A z (ky 0 65) (upd (st_A z (ky 0 65)) w (nI (cN (aX A) m i w + 1)))) := on_A _ _ _ ⟨65, by decide, rfl⟩
      have hla := LH_add (w := w) (p' := fun v => decide (0 < cN (aX A) m (i + 1) v)) (Nat.le_refl 300) (by omega) hl (fun v hv => by
        show decide (0 < cN (aX A) m (i + 1) v) = (decide (0 < cN (aX A) m i v) || decide (v = w))
        rw [cN_s, e]
        by_cases c : v = w
        · rw [if_pos (by rw [c])]
          simp [c]
        · rw [if_neg (fun q => c (Option.some.inj q).symm)]
          simp [c])
      rw [if_pos (show (0 : Int32) ≤ oI (some w) from nI_pos' (by omega)), show oI (some w) = nI w from rfl, chk_t (ib_nI (by omega) (by decide)), chk_t (ib_nI (by omega) (by decide)), nI_clamp (by omega), hN w (by omega), ← nI_succ, lt_e]
      have J : ∀ (Z : St) (q : Int32), f_X6_shown_J92 Z (nI m) x q z2 (nI i) (nI w) = some (.inl (q, (if nI w ≤ z2 then z2 else nI w), nI (i + 1), Z)) := by
        intro Z q
        unfold f_X6_shown_J92
        rw [← nI_succ]
        by_cases c : nI w ≤ z2
        · rw [if_pos c, if_pos c]
        · rw [if_neg c, if_neg c]
      have J2 : ∀ (Z : St), (if z1 ≤ nI w then f_X6_shown_J92 Z (nI m) x z1 z2 (nI i) (nI w) else f_X6_shown_J92 Z (nI m) x (nI w) z2 (nI i) (nI w)) = some (.inl ((if z1 ≤ nI w then z1 else nI w), (if nI w ≤ z2 then z2 else nI w), nI (i + 1), Z)) := by
        intro Z
        rw [J, J]
        by_cases c : z1 ≤ nI w
        · rw [if_pos c, if_pos c]
        · rw [if_neg c, if_neg c]
      refine ⟨_, J2 _, hla, rfl, RM_on hr (on_A _ _ _ ⟨65, by decide, rfl⟩), tM_fs (by decide) hT o, cM_on hC o (kM_n (by decide) (by decide) (by decide)) (kM_n (by decide) (by decide) (by decide)) (kM_n (by decide) (by decide) (by decide)) (kM_n (by decide) (by decide) (by decide)), fun v hv => ?_⟩
      show st_A (up_A z (ky 0 65) _) (ky 0 65) v = _
      rw [gAs, upd_e, cN_s, e]
      by_cases c : v = w
      · rw [if_pos c, c, if_pos rfl]
      · rw [if_neg c, hN v hv, if_neg (fun q => c (Option.some.inj q).symm)]
        rfl
  · rintro ⟨z1, z2, z3, z⟩ ⟨hl, e3, hr, hT, hC, hN⟩
    change z3 = _ at e3
    change cM 56 57 58 59 z (aT A) (aX A) at hC
    subst e3
    refine ⟨_, ?_, z1, z2, z, rfl, hl, hr, hN⟩
    unfold f_X6_shown_L46
    rw [hC.2.1, if_pos (show nI (cn (aX A)) < nI (cn (aX A) + 1) from nI_lt (by omega) (by omega))]
theorem Q_shown (hA : RA A) (hC : RC kt A S) (hM : RM s A M) (x : Int32) (b : Bool) : ans S M (f_X5_shown S x (if b then 1 else 0)) (f_X6_shown M x (if b then 1 else 0)) := by
  have b3 := hC.1.1.2.2.2.1
  have hn := hC.2.1.1.1
  unfold f_X5_shown f_X6_shown
  rcases vld x (n := tn (aT A) 3) (by omega) with ⟨m, hm, rfl⟩ | hx
  · rw [C_mirI hC hm, M_mirI hM hm, bnd, bnd, if_neg ne10, if_neg ne10]
    obtain ⟨M1, v, t1, c1, i1, hM1, o1⟩ := M_cop hM
    obtain ⟨S', k1, rc, hS⟩ := C_tally hC hm
    have hN : ∀ v, cN (aX A) m (cn (aX A) + 1) v < 2 ^ 31 := fun v => by
      have := cN_le (aX A) m (cn (aX A) + 1) v
      omega
    generalize hx : (if b = true then (1 : Int32) else 0) = x
    obtain ⟨p, q, k2, hl⟩ := C_shownL S' (cN (aX A) m (cn (aX A) + 1)) hN hS x
    obtain ⟨M2, p', q', M3, k3, k4, hl', rm, hM3⟩ := M_shownT hM1 t1 c1 hm x
    obtain ⟨rfl, rfl⟩ := LH_un hl' hl
    rw [k1, bnd, k2, v, bnd, bnd, k3, bnd, k4, bnd]
    show ans S M (if x = 0 then some (nI (s_cnt (fun v => decide (1 < cN (aX A) m (cn (aX A) + 1) v)) 300), S') else if nI (s_cnt (fun v => decide (0 < cN (aX A) m (cn (aX A) + 1) v)) 300) = 0 then some (0, S') else some (q' - p' + 1 - nI (s_cnt (fun v => decide (0 < cN (aX A) m (cn (aX A) + 1) v)) 300), S')) (iter (f_X6_shown_L115 M3 x q') FU ((0 : Int32), p'))
    have hx2 : (b = true ∧ ¬ x = 0) ∨ (b = false ∧ x = 0) := by
      rw [← hx]
      cases b
      · exact Or.inr ⟨rfl, rfl⟩
      · exact Or.inl ⟨rfl, ne10⟩
    rcases hl with ⟨h1, h2, h3⟩ | ⟨l, k, h1, h2, h3, h4, h5, h6, h7⟩
    · have z1 : s_cnt (fun v => decide (0 < cN (aX A) m (cn (aX A) + 1) v)) 300 = 0 := s_cnt_z _ _ h1
      have z2 : s_cnt (fun v => decide (1 < cN (aX A) m (cn (aX A) + 1) v)) 300 = 0 := s_cnt_z _ _ (fun j hj => by
        have := of_decide_eq_false (h1 j hj)
        apply decide_eq_false
        omega)
      rw [z1, z2, h2, h3]
      have e : iter (f_X6_shown_L115 M3 x (-1)) FU ((0 : Int32), (300 : Int32)) = some (0, M3) := by
        refine iter_FU (step := f_X6_shown_L115 M3 x (-1)) (fun _ => ((0 : Int32), (300 : Int32))) 0 (by decide) (fun i hi => absurd hi (Nat.not_lt_zero _)) ?_
        unfold f_X6_shown_L115
        rw [if_pos (show (-1 : Int32) < 300 by decide)]
      rw [e]
      refine ans_ss hA rc rm 0 ?_ rfl
      rcases hx2 with ⟨_, h⟩ | ⟨_, h⟩
      · rw [if_neg h, if_pos (show nI 0 = (0 : Int32) from rfl)]
      · rw [if_pos h]
        rfl
    · have hlk := (h7 k h2 h6).1
      have e1 := s_cnt_mid (p := fun v => decide (0 < cN (aX A) m (cn (aX A) + 1) v)) hlk h2 h7
      have e2 := s_cnt_mid (p := fun v => decide (1 < cN (aX A) m (cn (aX A) + 1) v)) hlk h2 (fun v hv hq => h7 v hv (by
        have := of_decide_eq_true hq
        apply decide_eq_true
        omega))
      have e3 := s_cnt_not (fun j => decide (0 < cN (aX A) m (cn (aX A) + 1) (l + j))) (k - l + 1)
      have hr : ∀ r : Nat → Bool, (∀ u, u < 300 → r u = if b then decide (cN (aX A) m (cn (aX A) + 1) u = 0) else decide (1 < cN (aX A) m (cn (aX A) + 1) u)) → iter (f_X6_shown_L115 M3 x (nI k)) FU ((0 : Int32), nI l) = some (nI (s_cnt (fun j => r (l + j)) (k - l + 1)), M3) := by
        intro r hr
        refine iter_FU (step := f_X6_shown_L115 M3 x (nI k)) (fun i => (nI (s_cnt (fun j => r (l + j)) i), nI (l + i))) (k - l + 1) (by omega) (fun i hi => ?_) ?_
        · have hri := hr (l + i) (by omega)
          unfold f_X6_shown_L115
          rw [if_neg (show ¬ nI k < nI (l + i) from nI_nlt (by omega) (by omega)), s_cnt, chk_t (ib_nI (by omega) (by decide)), chk_t (ib_nI (by omega) (by decide)), nI_clamp (by omega), hM3 _ (by omega), ← nI_succ, ← nI_succ]
          rcases hx2 with ⟨hb, h⟩ | ⟨hb, h⟩
          · rw [hb, if_pos rfl] at hri
            rw [if_neg h]
            by_cases c : cN (aX A) m (cn (aX A) + 1) (l + i) = 0
            · rw [if_pos (show nI _ = (0 : Int32) by rw [c]; rfl), hri, if_pos (decide_eq_true c)]
              rfl
            · rw [if_neg (nI_nz (by omega) (hN _)), hri, if_neg (fun q => c (of_decide_eq_true q))]
              rfl
          · rw [hb, if_neg Bool.false_ne_true] at hri
            rw [if_pos h]
            by_cases c : 1 < cN (aX A) m (cn (aX A) + 1) (l + i)
            · rw [if_neg (show ¬ nI _ ≤ (1 : Int32) from nI_ge (a := 1) c (hN _)), hri, if_pos (decide_eq_true c)]
              rfl
            · rw [if_pos (show nI _ ≤ (1 : Int32) from nI_le (b := 1) (by omega) (by decide)), hri, if_neg (fun q => c (of_decide_eq_true q))]
              rfl
        · unfold f_X6_shown_L115
          rw [if_pos (show nI k < nI (l + (k - l + 1)) from nI_lt (by omega) (by omega))]
      rw [h3, h4]
      rcases hx2 with ⟨hb, h⟩ | ⟨hb, h⟩
      · have g := hr (fun u => decide (cN (aX A) m (cn (aX A) + 1) u = 0)) (fun u _ => by rw [hb]; rfl)
        have hpos : 0 < s_cnt (fun v => decide (0 < cN (aX A) m (cn (aX A) + 1) v)) 300 := by
          rcases Nat.eq_zero_or_pos (s_cnt (fun v => decide (0 < cN (aX A) m (cn (aX A) + 1) v)) 300) with q | q
          · have := s_fst_none (s_cnt_0.mp q) l h1
            exact absurd (this.symm.trans h5) Bool.false_ne_true
          · exact q
        have hle := s_cnt_le (fun v => decide (0 < cN (aX A) m (cn (aX A) + 1) v)) 300
        rw [g, if_neg h, if_neg (nI_nz hpos (by omega))]
        refine ans_ss hA rc rm _ rfl ?_
        have ea : nI k - nI l = nI (k - l) := pk_sub hlk
        have eb : s_cnt (fun j => decide (cN (aX A) m (cn (aX A) + 1) (l + j) = 0)) (k - l + 1) = s_cnt (fun j => !decide (0 < cN (aX A) m (cn (aX A) + 1) (l + j))) (k - l + 1) := s_cnt_cg _ (fun j _ => by
          by_cases c : cN (aX A) m (cn (aX A) + 1) (l + j) = 0
          · simp [c]
          · have : 0 < cN (aX A) m (cn (aX A) + 1) (l + j) := by omega
            simp [c, this])
        rw [ea, nI_1, pk_sub (by rw [e1]; omega), eb, e1]
        have ee : s_cnt (fun j => !decide (0 < cN (aX A) m (cn (aX A) + 1) (l + j))) (k - l + 1) = k - l + 1 - s_cnt (fun j => decide (0 < cN (aX A) m (cn (aX A) + 1) (l + j))) (k - l + 1) := by omega
        rw [ee]
      · have g := hr (fun u => decide (1 < cN (aX A) m (cn (aX A) + 1) u)) (fun u _ => by rw [hb]; rfl)
        rw [g, if_pos h, e2]
        exact ans_ss hA rc rm _ rfl rfl
  · rw [C_mirO hC hx, M_mirO hM hx, bnd, bnd, if_pos rfl, if_pos rfl]
    exact ans_ss hA hC hM (-1) rfl rfl
end QG
