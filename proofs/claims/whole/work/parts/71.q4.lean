/-! QUESTIONS: glimpses, ghosts, oldest, facing. -/
theorem bitM2 : ∀ c < 64, ∀ o < 8, ((nI c >>> (nI o &&& 31)) &&& (1 : Int32)) = if c.testBit o then 1 else 0 := by decide +kernel
theorem andn_b : ∀ a < 64, ∀ b < 64, nI a &&& (nI b ^^^ (-1 : Int32)) = nI (a &&& (63 ^^^ b)) := by decide +kernel
theorem s_or_bit (f : Nat → Nat) (o : Nat) : ∀ n, (s_or f n).testBit o = (s_fst (fun m => (f m).testBit o) n).isSome := by
  intro n
  induction n with
  | zero => simp [s_or, s_fst]
  | succ n ih =>
    rw [s_or, Nat.testBit_or, ih, s_fst]
    cases e : s_fst (fun m => (f m).testBit o) n with
    | some i => simp
    | none =>
      by_cases c : (f n).testBit o = true
      · simp [c]
      · simp [c]
theorem s_fst_cg {p q : Nat → Bool} : ∀ n, (∀ i, i < n → p i = q i) → s_fst p n = s_fst q n := by
  intro n
  induction n with
  | zero => intro _; rfl
  | succ n ih =>
    intro h
    rw [s_fst, s_fst, ih (fun i hi => h i (by omega)), h n (by omega)]
section QD
variable {kt s : Nat} {A : AB} {S M M' : St} {T : TX} {X : CT}
def s_glm (T : TX) (X : CT) (a o t : Nat) : Bool := (s_shr T X (cf X 0 t a) t).testBit o
theorem M_isGlimpsed (hT : tM s M T) (h : cM 56 57 58 59 M T X) {a o t : Nat} (ha : a < tn T 2) (ho : o < tn T 2) (ht : t ≤ cn X) : f_X6_isGlimpsed M (nI a) (nI o) (nI t) = some (if s_glm T X a o t then 1 else 0) := by
  have b0 := hT.1.1
  have b2 := hT.1.2.2.1
  have b3 := hT.1.2.2.2.1
  have hn := h.1.1
  have h1 := ((h.1.2.1 t ht).1 a ha).1
  have row := (h.2.2.1 t ht).1 a ha
  obtain ⟨l1, l2⟩ := tM_live hT
  have g := up_find (step := f_X6_isGlimpsed_L3 M (nI a) (nI o) (nI t)) (fun i => nI i) (fun m => ((if cf X 2 t m = cf X 0 t a then s_shm T X m t else 0) : Nat).testBit o) (fun _ => (1 : Int32)) 0 (tn T 3) (by omega) (fun i hi _ => by
    have h2 := ((h.1.2.1 t ht).2 i hi).1
    have h3 := s_shm_lt hT.1 X i t
    unfold f_X6_isGlimpsed_L3
    rw [chk_t l1, l2, hT.2.2.2.1.2.2.2.1, if_neg (show ¬ nI (tn T 3) ≤ nI i from nI_ge hi (by omega)), M_hung hT h hi ht, bnd, i0', chk_t (ib_nI (by omega) (by decide)), nI_clamp (by omega), row.1]
    by_cases c : cf X 2 t i = cf X 0 t a
    · rw [if_pos (by rw [c]), if_pos c, M_shows hT h hi ht trivial, bnd, M_menShown hT h hi ht, bnd, bitM2 _ h3 o (by omega)]
      by_cases d : (s_shm T X i t).testBit o = true
      · rw [if_pos d, if_pos rfl, if_pos d]
      · rw [if_neg d, if_neg (by decide), if_neg d, ← nI_succ]
    · rw [if_neg (fun q => c ((nI_eq (by omega) (by omega)).mp q)), if_neg c, ← nI_succ]
      simp) (fun _ => by
    unfold f_X6_isGlimpsed_L3
    rw [chk_t l1, l2, hT.2.2.2.1.2.2.2.1, if_pos (show nI (tn T 3) ≤ nI (tn T 3) from nI_le (Nat.le_refl _) (by omega))])
  unfold f_X6_isGlimpsed
  change iter _ FU (0 : Int32) = _ at g
  rw [g]
  unfold s_glm s_shr
  rw [s_or_bit]
  cases s_fst (fun m => ((if cf X 2 t m = cf X 0 t a then s_shm T X m t else 0) : Nat).testBit o) (tn T 3) <;> rfl
/-- how many, and the first: a step -/
theorem cf_step {α : Type} (p : Nat → Bool) (i : Nat) (hi : i < 2 ^ 30) (G : Int32 → Int32 → α) : (if (if p i then (1 : Int32) else 0) = 0 then G (nI (s_cnt p i)) (oI (s_fst p i)) else if nI (s_cnt p i) = 0 then G (nI (s_cnt p i) + 1) (nI i) else G (nI (s_cnt p i) + 1) (oI (s_fst p i))) = G (nI (s_cnt p (i + 1))) (oI (s_fst p (i + 1))) := by
  have hc := s_cnt_le p i
  have h0 := s_cnt_0 (p := p) (n := i)
  rw [s_cnt, ← nI_succ]
  by_cases c : p i = true
  · rw [if_pos c, if_neg ne10, if_pos c]
    by_cases d : s_cnt p i = 0
    · rw [if_pos (show nI (s_cnt p i) = (0 : Int32) by rw [d]; rfl), s_fst_succ (h0.mp d), if_pos c]
      rfl
    · rw [if_neg (nI_nz (by omega) (by omega))]
      cases e : s_fst p i with
      | none => exact absurd (h0.mpr e) d
      | some j => rw [s_fst_stay e]
  · rw [if_neg c, if_pos rfl, if_neg c]
    cases e : s_fst p i with
    | none =>
      rw [s_fst_succ e, if_neg c]
      rfl
    | some j =>
      rw [s_fst_stay e]
      rfl
theorem Q_glimpses (hA : RA A) (hC : RC kt A S) (hM : RM s A M) (x y z : Int32) : ans S M (pu S (f_X5_glimpses S x y z)) (f_X6_glimpses M x y z) := by
  have b0 := hC.1.1.1
  have b2 := hC.1.1.2.2.1
  have hn := hC.2.1.1.1
  unfold f_X5_glimpses f_X6_glimpses
  rcases vld x (n := tn (aT A) 2) (by omega) with ⟨a, ha, rfl⟩ | hx
  · rw [C_manI hC ha, M_manI hM ha, bnd, bnd, if_neg ne10, if_neg ne10]
    rcases vld y (n := tn (aT A) 2) (by omega) with ⟨r, hr, rfl⟩ | hy
    · rw [C_manI hC hr, M_manI hM hr, bnd, bnd, if_neg ne10, if_neg ne10]
      by_cases c : nI a = nI r
      · rw [if_pos c, if_pos c]
        exact ans_ps hA hC hM (-1) rfl rfl
      · rw [if_neg c, if_neg c]
        rcases vld z (n := 2) (by decide) with ⟨w, hw, rfl⟩ | hz
        · rw [C_wIl (n := 2) (m := 2) rfl hw (by decide), M_wIl (n := 2) (m := 1) (by decide) hw (by decide), bnd, bnd, if_neg ne10, if_neg ne10]
          obtain ⟨M1, v, t1, c1, i1, hM1, o1⟩ := M_cop hM
          have l1 := iter_FU (step := f_X5_glimpses_L41 S (nI a) (nI r) (nI w)) (fun i => (nI (s_cnt (s_glm (aT A) (aX A) a r) i), oI (s_fst (s_glm (aT A) (aX A) a r) i), nI i)) (cn (aX A) + 1) (by omega) (r := (nI (s_cnt (s_glm (aT A) (aX A) a r) (cn (aX A) + 1)), oI (s_fst (s_glm (aT A) (aX A) a r) (cn (aX A) + 1)))) (fun i hi => by
            have h1 := ((hC.2.1.1.2.1 i (by omega)).1 a ha).1
            have h2 := s_shr_lt hC.1.1 (aX A) (cf (aX A) 0 i a) i
            unfold f_X5_glimpses_L41
            rw [hC.2.1.2.2.2.1, if_neg (show ¬ nI (cn (aX A)) < nI i from nI_nlt (by omega) (by omega)), C_room hC.1 hC.2.1 ha (by omega), bnd, C_shownIn hC.1 hC.2.1 (by omega) (by omega), bnd, has_nI (by omega) (by omega), bnd, ← nI_succ]
            exact cf_step (s_glm (aT A) (aX A) a r) i (by omega) (fun u v => some (Sum.inl (u, v, nI (i + 1))))) (by
            unfold f_X5_glimpses_L41
            rw [hC.2.1.2.2.2.1, if_pos (show nI (cn (aX A)) < nI (cn (aX A) + 1) from nI_lt (by omega) (by omega))])
          have l2 := iter_FU (step := f_X6_glimpses_L46 M1 (nI a) (nI r) (nI w)) (fun i => (nI (s_cnt (s_glm (aT A) (aX A) a r) i), oI (s_fst (s_glm (aT A) (aX A) a r) i), nI i)) (cn (aX A) + 1) (by omega) (r := (nI (s_cnt (s_glm (aT A) (aX A) a r) (cn (aX A) + 1)), oI (s_fst (s_glm (aT A) (aX A) a r) (cn (aX A) + 1)))) (fun i hi => by
            unfold f_X6_glimpses_L46
            rw [c1.2.1, if_neg (show ¬ nI (cn (aX A)) < nI i from nI_nlt (by omega) (by omega)), M_isGlimpsed t1 c1 ha hr (by omega), bnd, ← nI_succ]
            exact cf_step (s_glm (aT A) (aX A) a r) i (by omega) (fun u v => some (Sum.inl (u, v, nI (i + 1))))) (by
            unfold f_X6_glimpses_L46
            rw [c1.2.1, if_pos (show nI (cn (aX A)) < nI (cn (aX A) + 1) from nI_lt (by omega) (by omega))])
          change iter _ FU ((0 : Int32), (-2 : Int32), (0 : Int32)) = _ at l1
          change iter _ FU ((0 : Int32), (-2 : Int32), (0 : Int32)) = _ at l2
          rw [l1, v, bnd, bnd, l2, bnd]
          rcases (show w = 0 ∨ w = 1 by omega) with rfl | rfl
          · exact ans_ps hA hC hM1 _ (if_pos (show nI 0 = (0 : Int32) from rfl)) (if_pos (show nI 0 = (0 : Int32) from rfl))
          · exact ans_ps hA hC hM1 _ (if_neg (show ¬ nI 1 = (0 : Int32) by decide)) (if_neg (show ¬ nI 1 = (0 : Int32) by decide))
        · rw [C_wOl (n := 2) (m := 2) rfl hz, M_wOl (n := 2) (m := 1) (by decide) (by decide) hz, bnd, bnd, if_pos rfl, if_pos rfl]
          exact ans_ps hA hC hM (-1) rfl rfl
    · rw [C_manO hC hy, M_manO hM hy, bnd, bnd, if_pos rfl, if_pos rfl]
      exact ans_ps hA hC hM (-1) rfl rfl
  · rw [C_manO hC hx, M_manO hM hx, bnd, bnd, if_pos rfl, if_pos rfl]
    exact ans_ps hA hC hM (-1) rfl rfl
def s_gho (T : TX) (X : CT) (r m : Nat) : Nat := if cf X 2 (cn X) m = r then (match s_show X m (cn X) with
    | none => 0
    | some v => s_shm T X m (cn X) &&& (63 ^^^ s_men T X (cf X 2 v m) (cn X))) else 0
theorem Q_ghosts (hA : RA A) (hC : RC kt A S) (hM : RM s A M) (x : Int32) : ans S M (pu S (f_X5_ghosts S x)) (f_X6_ghosts M x) := by
  have b0 := hC.1.1.1
  have b3 := hC.1.1.2.2.2.1
  have hn := hC.2.1.1.1
  unfold f_X5_ghosts f_X6_ghosts
  rcases vld x (n := tn (aT A) 0) (by omega) with ⟨r, hr, rfl⟩ | hx
  · rw [C_rooI hC hr, M_rooI hM hr, bnd, bnd, if_neg ne10, if_neg ne10]
    obtain ⟨M1, v, t1, c1, i1, hM1, o1⟩ := M_cop hM
    obtain ⟨k1, k2⟩ := tM_live t1
    have l1 := iter_FU (step := f_X5_ghosts_L23 S (nI r) (nI (cn (aX A)))) (fun i => (nI (s_or (s_gho (aT A) (aX A) r) i), nI i)) (tn (aT A) 3) (by omega) (r := nI (s_or (s_gho (aT A) (aX A) r) (tn (aT A) 3))) (fun i hi => by
      have h1 := ((hC.2.1.1.2.1 _ (Nat.le_refl (cn (aX A)))).2 i hi).1
      have h2 := s_shm_lt hC.1.1 (aX A) i (cn (aX A))
      unfold f_X5_ghosts_L23
      rw [chk_t (RC_T hC), hC.2.2.1.1, hC.1.2.2.1 3 (by decide), if_neg (show ¬ nI (tn (aT A) 3) ≤ nI i from nI_ge hi (by omega)), C_hang hC.1 hC.2.1 hi (Nat.le_refl _), bnd, s_or]
      unfold s_gho
      by_cases c : cf (aX A) 2 (cn (aX A)) i = r
      · rw [if_pos (by rw [c]), if_pos c, C_showing hC.1 hC.2.1 hi (Nat.le_refl _) trivial, bnd, C_roomShown hC.1 hC.2.1 hi (Nat.le_refl _) trivial]
        cases e : s_show (aX A) i (cn (aX A)) with
        | none =>
          rw [if_pos (show oI none < 0 by decide), ← nI_succ]
          show _ = some (Sum.inl (nI (_ ||| 0), _))
          rw [Nat.or_zero]
        | some w =>
          have hw := s_show_le hC.2.1.1 hi e
          have h3 := ((hC.2.1.1.2.1 w (by omega)).2 i hi).1
          have h4 := s_men_lt hC.1.1 (aX A) (cf (aX A) 2 w i) (cn (aX A))
          rw [if_neg (show ¬ oI (some w) < 0 from nI_pos (by omega)), bnd]
          change (f_X0_menIn 10 S (nI (cf (aX A) 2 w i)) (nI (cn (aX A)))).bind _ = _
          rw [C_menIn hC.1 hC.2.1 (by omega) (Nat.le_refl _), bnd, C_menShown hC.1 hC.2.1 hi (Nat.le_refl _) trivial, bnd, andn_b _ h2 _ h4, nI_oN, lt_e, ← nI_succ]
      · rw [if_neg (fun q => c ((nI_eq (by omega) (by omega)).mp q)), if_neg c, Nat.or_zero, ← nI_succ]) (by
      unfold f_X5_ghosts_L23
      rw [chk_t (RC_T hC), hC.2.2.1.1, hC.1.2.2.1 3 (by decide), if_pos (show nI (tn (aT A) 3) ≤ nI (tn (aT A) 3) from nI_le (Nat.le_refl _) (by omega))])
    have l2 := iter_FU (step := f_X6_ghosts_L18 M1 (nI r)) (fun i => (nI (s_or (s_gho (aT A) (aX A) r) i), nI i)) (tn (aT A) 3) (by omega) (r := (nI (s_or (s_gho (aT A) (aX A) r) (tn (aT A) 3)), M1)) (fun i hi => by
      have h1 := ((hC.2.1.1.2.1 _ (Nat.le_refl (cn (aX A)))).2 i hi).1
      have h2 := s_shm_lt hC.1.1 (aX A) i (cn (aX A))
      unfold f_X6_ghosts_L18
      rw [chk_t k1, k2, t1.2.2.2.1.2.2.2.1, if_neg (show ¬ nI (tn (aT A) 3) ≤ nI i from nI_ge hi (by omega)), c1.2.1, M_hung t1 c1 hi (Nat.le_refl _), bnd, s_or]
      unfold s_gho
      by_cases c : cf (aX A) 2 (cn (aX A)) i = r
      · rw [if_pos (by rw [c]), if_pos c, M_shows t1 c1 hi (Nat.le_refl _) trivial, bnd]
        have hms := M_menShown t1 c1 hi (Nat.le_refl (cn (aX A)))
        cases e : s_show (aX A) i (cn (aX A)) with
        | none =>
          rw [if_pos (show oI none < 0 by decide), ← nI_succ]
          show _ = some (Sum.inl (nI (_ ||| 0), _))
          rw [Nat.or_zero]
        | some w =>
          have hw := s_show_le hC.2.1.1 hi e
          have h3 := ((hC.2.1.1.2.1 w (by omega)).2 i hi).1
          have h4 := s_men_lt hC.1.1 (aX A) (cf (aX A) 2 w i) (cn (aX A))
          rw [e] at hms
          rw [if_neg (show ¬ oI (some w) < 0 from nI_pos (by omega)), hms, bnd]
          change (f_X6_hungIn M1 (nI i) (nI w)).bind _ = _
          rw [M_hung t1 c1 hi (by omega), bnd, M_menIn t1 c1 (by omega) (Nat.le_refl _), bnd, andn_b _ h2 _ h4, nI_oN, lt_e, ← nI_succ]
      · rw [if_neg (fun q => c ((nI_eq (by omega) (by omega)).mp q)), if_neg c, Nat.or_zero, ← nI_succ]) (by
      unfold f_X6_ghosts_L18
      rw [chk_t k1, k2, t1.2.2.2.1.2.2.2.1, if_pos (show nI (tn (aT A) 3) ≤ nI (tn (aT A) 3) from nI_le (Nat.le_refl _) (by omega))])
    rw [hC.2.1.2.2.2.1, v, bnd]
    exact ans_ps hA hC hM1 _ l1 l2
  · rw [C_rooO hC hx, M_rooO hM hx, bnd, bnd, if_pos rfl, if_pos rfl]
    exact ans_ps hA hC hM (-1) rfl rfl
def s_old (X : CT) : Nat → Option (Nat × Nat)
  | 0 => none
  | n + 1 => match s_show X n (cn X) with
    | none => s_old X n
    | some v => match s_old X n with
      | none => some (n, v)
      | some q => if v < q.2 then some (n, v) else some q
theorem s_old_le {T : TX} {X : CT} (h : cb T X) : ∀ n, n ≤ tn T 3 → ∀ q, s_old X n = some q → q.1 < n ∧ q.2 ≤ cn X := by
  intro n
  induction n with
  | zero => intro _ q e; cases e
  | succ n ih =>
    intro hn q e
    rw [s_old] at e
    cases hs : s_show X n (cn X) with
    | none =>
      rw [hs] at e
      have := ih (by omega) q e
      exact ⟨by omega, this.2⟩
    | some v =>
      have hv := s_show_le h (by omega) hs
      rw [hs] at e
      cases ho : s_old X n with
      | none =>
        rw [ho] at e
        cases e
        exact ⟨by omega, hv⟩
      | some w =>
        rw [ho] at e
        change (if v < w.2 then some (n, v) else some w) = some q at e
        have := ih (by omega) w ho
        split at e
        · cases e
          exact ⟨by omega, hv⟩
        · cases e
          exact ⟨by omega, this.2⟩
theorem Q_oldest (hA : RA A) (hC : RC kt A S) (hM : RM s A M) (y : Int32) : ans S M (pu S (f_X5_oldest S y)) (f_X6_oldest M y) := by
  have b3 := hC.1.1.2.2.2.1
  have hn := hC.2.1.1.1
  unfold f_X5_oldest f_X6_oldest
  rcases vld y (n := 2) (by decide) with ⟨w, hw, rfl⟩ | hy
  · rw [C_wIl (n := 2) (m := 2) rfl hw (by decide), M_wIl (n := 2) (m := 1) (by decide) hw (by decide), bnd, bnd, if_neg ne10, if_neg ne10]
    obtain ⟨M1, v, t1, c1, i1, hM1, o1⟩ := M_cop hM
    obtain ⟨k1, k2⟩ := tM_live t1
    have step : ∀ i, i < tn (aT A) 3 → ∀ (G : Int32 → Int32 → Option ((Int32 × Int32 × Int32) ⊕ (Int32 × Int32))), (if oI (s_show (aX A) i (cn (aX A))) < 0 then G (oI ((s_old (aX A) i).map Prod.fst)) (oI ((s_old (aX A) i).map Prod.snd)) else (if oI ((s_old (aX A) i).map Prod.snd) < 0 then G (nI i) (oI (s_show (aX A) i (cn (aX A)))) else (if oI ((s_old (aX A) i).map Prod.snd) ≤ oI (s_show (aX A) i (cn (aX A))) then G (oI ((s_old (aX A) i).map Prod.fst)) (oI ((s_old (aX A) i).map Prod.snd)) else G (nI i) (oI (s_show (aX A) i (cn (aX A))))))) = G (oI ((s_old (aX A) (i + 1)).map Prod.fst)) (oI ((s_old (aX A) (i + 1)).map Prod.snd)) ∧ (if oI (s_show (aX A) i (cn (aX A))) < 0 then G (oI ((s_old (aX A) i).map Prod.fst)) (oI ((s_old (aX A) i).map Prod.snd)) else (if oI ((s_old (aX A) i).map Prod.fst) < 0 then G (nI i) (oI (s_show (aX A) i (cn (aX A)))) else (if oI (s_show (aX A) i (cn (aX A))) < oI ((s_old (aX A) i).map Prod.snd) then G (nI i) (oI (s_show (aX A) i (cn (aX A)))) else G (oI ((s_old (aX A) i).map Prod.fst)) (oI ((s_old (aX A) i).map Prod.snd))))) = G (oI ((s_old (aX A) (i + 1)).map Prod.fst)) (oI ((s_old (aX A) (i + 1)).map Prod.snd)) := by
      intro i hi G
      have hol := s_old_le hC.2.1.1 i (by omega)
      rw [s_old]
      cases hs : s_show (aX A) i (cn (aX A)) with
      | none => exact ⟨if_pos (by decide), if_pos (by decide)⟩
      | some v =>
        have hv := s_show_le hC.2.1.1 hi hs
        rw [show oI (some v) = nI v from rfl, if_neg (nI_pos (by omega)), if_neg (nI_pos (by omega))]
        cases ho : s_old (aX A) i with
        | none => exact ⟨if_pos (by decide), if_pos (by decide)⟩
        | some q =>
          have h := hol q ho
          show (if nI q.2 < 0 then _ else _) = _ ∧ (if nI q.1 < 0 then _ else _) = _
          rw [if_neg (nI_pos (by omega)), if_neg (nI_pos (by omega))]
          show (if nI q.2 ≤ nI v then G (nI q.1) (nI q.2) else G (nI i) (nI v)) = G (oI ((if v < q.2 then some (i, v) else some q).map Prod.fst)) (oI ((if v < q.2 then some (i, v) else some q).map Prod.snd)) ∧ (if nI v < nI q.2 then G (nI i) (nI v) else G (nI q.1) (nI q.2)) = G (oI ((if v < q.2 then some (i, v) else some q).map Prod.fst)) (oI ((if v < q.2 then some (i, v) else some q).map Prod.snd))
          by_cases c : v < q.2
          · rw [if_pos c, if_neg (nI_ge c (by omega)), if_pos (nI_lt c (by omega))]
            exact ⟨rfl, rfl⟩
          · rw [if_neg c, if_pos (nI_le (by omega) (by omega)), if_neg (nI_nlt (by omega) (by omega))]
            exact ⟨rfl, rfl⟩
    have l1 := iter_FU (step := f_X5_oldest_L19 S (nI w)) (fun i => (oI ((s_old (aX A) i).map Prod.fst), oI ((s_old (aX A) i).map Prod.snd), nI i)) (tn (aT A) 3) (by omega) (r := (oI ((s_old (aX A) (tn (aT A) 3)).map Prod.fst), oI ((s_old (aX A) (tn (aT A) 3)).map Prod.snd))) (fun i hi => by
      unfold f_X5_oldest_L19
      rw [chk_t (RC_T hC), hC.2.2.1.1, hC.1.2.2.1 3 (by decide), if_neg (show ¬ nI (tn (aT A) 3) ≤ nI i from nI_ge hi (by omega)), hC.2.1.2.2.2.1, C_showing hC.1 hC.2.1 hi (Nat.le_refl _) trivial, bnd, ← nI_succ]
      exact (step i hi (fun u v => some (Sum.inl (u, v, nI (i + 1))))).1) (by
      unfold f_X5_oldest_L19
      rw [chk_t (RC_T hC), hC.2.2.1.1, hC.1.2.2.1 3 (by decide), if_pos (show nI (tn (aT A) 3) ≤ nI (tn (aT A) 3) from nI_le (Nat.le_refl _) (by omega))])
    have l2 := iter_FU (step := f_X6_oldest_L24 M1 (nI w)) (fun i => (oI ((s_old (aX A) i).map Prod.fst), oI ((s_old (aX A) i).map Prod.snd), nI i)) (tn (aT A) 3) (by omega) (r := (oI ((s_old (aX A) (tn (aT A) 3)).map Prod.fst), oI ((s_old (aX A) (tn (aT A) 3)).map Prod.snd))) (fun i hi => by
      unfold f_X6_oldest_L24
      rw [chk_t k1, k2, t1.2.2.2.1.2.2.2.1, if_neg (show ¬ nI (tn (aT A) 3) ≤ nI i from nI_ge hi (by omega)), c1.2.1, M_shows t1 c1 hi (Nat.le_refl _) trivial, bnd, ← nI_succ]
      exact (step i hi (fun u v => some (Sum.inl (u, v, nI (i + 1))))).2) (by
      unfold f_X6_oldest_L24
      rw [chk_t k1, k2, t1.2.2.2.1.2.2.2.1, if_pos (show nI (tn (aT A) 3) ≤ nI (tn (aT A) 3) from nI_le (Nat.le_refl _) (by omega))])
    change iter _ FU ((-2 : Int32), (-2 : Int32), (0 : Int32)) = _ at l1
    change iter _ FU ((-2 : Int32), (-2 : Int32), (0 : Int32)) = _ at l2
    rw [l1, v, bnd, bnd, l2, bnd]
    rcases (show w = 0 ∨ w = 1 by omega) with rfl | rfl
    · exact ans_ps hA hC hM1 _ (if_pos (show nI 0 = (0 : Int32) from rfl)) (if_pos (show nI 0 = (0 : Int32) from rfl))
    · exact ans_ps hA hC hM1 _ (if_neg (show ¬ nI 1 = (0 : Int32) by decide)) (if_neg (show ¬ nI 1 = (0 : Int32) by decide))
  · rw [C_wOl (n := 2) (m := 2) rfl hy, M_wOl (n := 2) (m := 1) (by decide) (by decide) hy, bnd, bnd, if_pos rfl, if_pos rfl]
    exact ans_ps hA hC hM (-1) rfl rfl
end QD
