/-! QUESTIONS: alone, lonely, crowd, stand. -/
def s_run (p : Nat → Bool) : Nat → Nat
  | 0 => 0
  | n + 1 => if p n then s_run p n + 1 else 0
def s_lng (p : Nat → Bool) : Nat → Nat
  | 0 => 0
  | n + 1 => max (s_lng p n) (s_run p (n + 1))
theorem s_run_le (p : Nat → Bool) : ∀ n, s_run p n ≤ n := by
  intro n
  induction n with
  | zero => exact Nat.le_refl _
  | succ n ih =>
    rw [s_run]
    split <;> omega
theorem s_lng_le (p : Nat → Bool) : ∀ n, s_lng p n ≤ n := by
  intro n
  induction n with
  | zero => exact Nat.le_refl _
  | succ n ih =>
    have := s_run_le p (n + 1)
    rw [s_lng]
    omega
theorem max_nI {a b : Nat} (ha : a < 2 ^ 31) (hb : b < 2 ^ 31) : i_max (nI a) (nI b) = nI (max a b) := by
  show (if nI a < nI b then nI b else nI a) = _
  by_cases c : a < b
  · rw [if_pos (nI_lt c hb), Nat.max_eq_right (by omega)]
  · rw [if_neg (nI_nlt (by omega) ha), Nat.max_eq_left (by omega)]
theorem one_b : ∀ c < 64, ∀ a < 6, c.testBit a = true → (c = 2 ^ a ↔ pop c = 1) := by decide +kernel
def s_aln (T : TX) (X : CT) (a t : Nat) : Bool := pop (s_men T X (cf X 0 t a) t) == 1
/-- the first of those that have most -/
def s_argb (f : Nat → Nat) : Nat → Nat
  | 0 => 0
  | n + 1 => if f (s_argb f n) < f (n + 1) then n + 1 else s_argb f n
def s_arg (f : Nat → Nat) : Nat → Option Nat
  | 0 => none
  | n + 1 => some (s_argb f n)
theorem s_argb_le (f : Nat → Nat) : ∀ n, s_argb f n ≤ n := by
  intro n
  induction n with
  | zero => exact Nat.le_refl _
  | succ n ih =>
    rw [s_argb]
    split <;> omega
def ml (d : Int32) (f : Nat → Nat) : Option Nat → Int32
  | none => d
  | some b => nI (f b)
theorem arg_step {α : Type} (d : Int32) (hd : d < 0) (f : Nat → Nat) (i : Nat) (hf : ∀ j, f j < 2 ^ 31) (G : Int32 → Int32 → α) : (if nI (f i) ≤ ml d f (s_arg f i) then G (oI (s_arg f i)) (ml d f (s_arg f i)) else G (nI i) (nI (f i))) = G (oI (s_arg f (i + 1))) (ml d f (s_arg f (i + 1))) := by
  cases i with
  | zero =>
    have h : ¬ nI (f 0) ≤ ml d f (s_arg f 0) := fun q => by
      have := Int32.lt_of_le_of_lt q hd
      exact nI_pos (hf 0) this
    rw [if_neg h]
    rfl
  | succ i =>
    show (if nI (f (i + 1)) ≤ nI (f (s_argb f i)) then G (nI (s_argb f i)) (nI (f (s_argb f i))) else G (nI (i + 1)) (nI (f (i + 1)))) = G (nI (s_argb f (i + 1))) (nI (f (s_argb f (i + 1))))
    rw [s_argb]
    by_cases c : f (s_argb f i) < f (i + 1)
    · rw [if_neg (nI_ge c (hf _)), if_pos c]
    · rw [if_pos (nI_le (by omega) (hf _)), if_neg c]
theorem argb_step {α : Type} (f : Nat → Nat) (i : Nat) (hf : ∀ j, f j < 2 ^ 31) (G : Int32 → α) : (if nI (f (i + 1)) ≤ nI (f (s_argb f i)) then G (nI (s_argb f i)) else G (nI (i + 1))) = G (nI (s_argb f (i + 1))) := by
  rw [s_argb]
  by_cases c : f (s_argb f i) < f (i + 1)
  · rw [if_neg (nI_ge c (hf _)), if_pos c]
  · rw [if_pos (nI_le (by omega) (hf _)), if_neg c]
section QC
variable {kt s : Nat} {A : AB} {S M M' : St}
theorem C_aloneT (hC : RC kt A S) {a : Nat} (ha : a < tn (aT A) 2) (x : Int32) : f_X5_aloneTimes S (nI a) x = some (if x = 0 then nI (s_cnt (s_aln (aT A) (aX A) a) (cn (aX A) + 1)) else nI (s_lng (s_aln (aT A) (aX A) a) (cn (aX A) + 1))) := by
  have b0 := hC.1.1.1
  have b2 := hC.1.1.2.2.1
  have hn := hC.2.1.1.1
  have l1 := iter_FU (step := f_X5_aloneTimes_L11 S (nI a) x) (fun i => (nI (s_cnt (s_aln (aT A) (aX A) a) i), nI (s_lng (s_aln (aT A) (aX A) a) i), nI (s_run (s_aln (aT A) (aX A) a) i), nI i)) (cn (aX A) + 1) (by omega) (r := (nI (s_cnt (s_aln (aT A) (aX A) a) (cn (aX A) + 1)), nI (s_lng (s_aln (aT A) (aX A) a) (cn (aX A) + 1)))) (fun i hi => by
    have h1 := ((hC.2.1.1.2.1 i (by omega)).1 a ha).1
    have hms := s_men_lt hC.1.1 (aX A) (cf (aX A) 0 i a) i
    have hr := s_run_le (s_aln (aT A) (aX A) a) i
    have hl := s_lng_le (s_aln (aT A) (aX A) a) i
    have hbit : (s_men (aT A) (aX A) (cf (aX A) 0 i a) i).testBit a = true := by
      unfold s_men
      rw [bs_bit]
      simp [ha]
    have h2a : 2 ^ a < 2 ^ 31 := Nat.pow_lt_pow_right (by decide) (by omega)
    have J : ∀ b : Bool, b = s_aln (aT A) (aX A) a i → f_X5_aloneTimes_J53 S (nI a) x (nI (s_cnt (s_aln (aT A) (aX A) a) i)) (nI (s_lng (s_aln (aT A) (aX A) a) i)) (nI (s_run (s_aln (aT A) (aX A) a) i)) (nI i) (if b then 1 else 0) = some (.inl (nI (s_cnt (s_aln (aT A) (aX A) a) (i + 1)), nI (s_lng (s_aln (aT A) (aX A) a) (i + 1)), nI (s_run (s_aln (aT A) (aX A) a) (i + 1)), nI (i + 1))) := by
      intro b hb
      unfold f_X5_aloneTimes_J53 f_X5_aloneTimes_J68 f_X5_aloneTimes_J81
      rw [s_lng, s_cnt, s_run, ← hb]
      cases b
      · rw [if_pos (show (if false = true then (1 : Int32) else 0) = 0 from rfl), if_pos (show (if false = true then (1 : Int32) else 0) = 0 from rfl), ← nI_succ]
        show some (Sum.inl (nI _ + nI 0, i_max (nI _) (nI 0), nI 0, nI (i + 1))) = _
        rw [nI_add, max_nI (by omega) (by omega)]
        rfl
      · rw [if_neg (show ¬ (if true = true then (1 : Int32) else 0) = 0 from ne10), if_neg (show ¬ (if true = true then (1 : Int32) else 0) = 0 from ne10), ← nI_succ, ← nI_succ, ← nI_succ, max_nI (by omega) (by omega)]
        rfl
    unfold f_X5_aloneTimes_L11
    rw [hC.2.1.2.2.2.1, if_neg (show ¬ nI (cn (aX A)) < nI i from nI_nlt (by omega) (by omega)), C_room hC.1 hC.2.1 ha (by omega), bnd, C_menIn hC.1 hC.2.1 (by omega) (by omega), bnd, shl_b a (by omega)]
    have hone := one_b _ hms a (by omega) hbit
    by_cases c : s_men (aT A) (aX A) (cf (aX A) 0 i a) i = 2 ^ a
    · rw [if_pos (by rw [c])]
      exact J true (by unfold s_aln; rw [hone.mp c]; rfl)
    · rw [if_neg (fun q => c ((nI_eq (by omega) h2a).mp q))]
      refine J false ?_
      unfold s_aln
      exact (beq_eq_false_iff_ne.mpr (fun q => c (hone.mpr q))).symm) (by
    unfold f_X5_aloneTimes_L11
    rw [hC.2.1.2.2.2.1, if_pos (show nI (cn (aX A)) < nI (cn (aX A) + 1) from nI_lt (by omega) (by omega))])
  unfold f_X5_aloneTimes
  change (iter _ FU (nI 0, nI 0, nI 0, nI 0)).bind _ = _
  rw [show iter (f_X5_aloneTimes_L11 S (nI a) x) FU (nI 0, nI 0, nI 0, nI 0) = _ from l1, bnd]
  show (if x = 0 then some _ else some _) = _
  by_cases c : x = 0
  · rw [if_pos c, if_pos c]
  · rw [if_neg c, if_neg c]
theorem M_isAlone {X : CT} {T : TX} (hT : tM s M T) (h : cM 56 57 58 59 M T X) {a t : Nat} (ha : a < tn T 2) (ht : t ≤ cn X) : f_X6_isAlone M (nI a) (nI t) = some (if s_aln T X a t then 1 else 0) := by
  have b0 := hT.1.1
  have b2 := hT.1.2.2.1
  have hn := h.1.1
  have h1 := ((h.1.2.1 t ht).1 a ha).1
  have hms := s_men_lt hT.1 X (cf X 0 t a) t
  have hpl := pop_le (s_men T X (cf X 0 t a) t)
  have row := (h.2.2.1 t ht).1 a ha
  unfold f_X6_isAlone
  rw [i0', chk_t (ib_nI (by omega) (by decide)), nI_clamp (by omega), row.1, M_menIn hT h (by omega) ht, bnd, bitM _ (by omega), bnd]
  unfold s_aln
  by_cases c : pop (s_men T X (cf X 0 t a) t) = 1
  · rw [if_pos (show nI _ = (1 : Int32) by rw [c]; rfl), c]
    rfl
  · rw [if_neg (show ¬ nI (pop (s_men T X (cf X 0 t a) t)) = (1 : Int32) from fun q => c ((nI_eq (b := 1) (by omega) (by decide)).mp q)), if_neg (by simp [c])]
theorem M_aloneOf {X : CT} {T : TX} (hT : tM s M T) (h : cM 56 57 58 59 M T X) {a : Nat} (ha : a < tn T 2) : f_X6_aloneOf M (nI a) = some (nI (s_cnt (s_aln T X a) (cn X + 1))) := by
  have hn := h.1.1
  unfold f_X6_aloneOf
  refine iter_FU (step := f_X6_aloneOf_L4 M (nI a)) (fun i => (nI (s_cnt (s_aln T X a) i), nI i)) (cn X + 1) (by omega) (fun i hi => ?_) ?_
  · unfold f_X6_aloneOf_L4
    rw [h.2.1, if_neg (show ¬ nI (cn X) < nI i from nI_nlt (by omega) (by omega)), M_isAlone hT h ha (by omega), bnd, s_cnt]
    cases s_aln T X a i
    · rw [← nI_succ]
      rfl
    · rw [← nI_succ, ← nI_succ]
      rfl
  · unfold f_X6_aloneOf_L4
    rw [h.2.1, if_pos (show nI (cn X) < nI (cn X + 1) from nI_lt (by omega) (by omega))]
theorem Q_alone (hA : RA A) (hC : RC kt A S) (hM : RM s A M) (x : Int32) (b : Bool) : ans S M (pu S (f_X5_alone S x (if b then 1 else 0))) (f_X6_alone M x (if b then 1 else 0)) := by
  have b2 := hC.1.1.2.2.1
  have hn := hC.2.1.1.1
  unfold f_X5_alone f_X6_alone
  rcases vld x (n := tn (aT A) 2) (by omega) with ⟨a, ha, rfl⟩ | hx
  · rw [C_manI hC ha, M_manI hM ha, bnd, bnd, if_neg ne10, if_neg ne10]
    obtain ⟨M1, v, t1, c1, i1, hM1, o1⟩ := M_cop hM
    rw [C_aloneT hC ha, bnd, v, bnd]
    cases b
    · refine ans_ps hA hC hM1 _ rfl ?_
      rw [M_aloneOf t1 c1 ha, bnd]
      rfl
    · refine ans_ps hA hC hM1 (nI (s_lng (s_aln (aT A) (aX A) a) (cn (aX A) + 1))) rfl ?_
      rw [if_neg (by decide)]
      refine iter_FU (step := f_X6_alone_L32 M1 (nI a)) (fun i => (nI (s_lng (s_aln (aT A) (aX A) a) i), nI (s_run (s_aln (aT A) (aX A) a) i), nI i)) (cn (aX A) + 1) (by omega) (fun i hi => ?_) ?_
      · have hr := s_run_le (s_aln (aT A) (aX A) a) i
        have hl := s_lng_le (s_aln (aT A) (aX A) a) i
        unfold f_X6_alone_L32
        rw [c1.2.1, if_neg (show ¬ nI (cn (aX A)) < nI i from nI_nlt (by omega) (by omega)), M_isAlone t1 c1 ha (by omega), bnd, s_lng, s_run]
        have J : ∀ q, q ≤ i + 1 → f_X6_alone_J59 M1 (nI a) (nI (s_lng (s_aln (aT A) (aX A) a) i)) (nI i) (nI q) = some (.inl (nI (max (s_lng (s_aln (aT A) (aX A) a) i) q), nI q, nI (i + 1))) := by
          intro q hq
          unfold f_X6_alone_J59
          rw [← nI_succ]
          by_cases c : q ≤ s_lng (s_aln (aT A) (aX A) a) i
          · rw [if_pos (nI_le c (by omega)), Nat.max_eq_left c]
          · rw [if_neg (nI_ge (by omega) (by omega)), Nat.max_eq_right (by omega)]
        cases s_aln (aT A) (aX A) a i
        · exact J 0 (by omega)
        · rw [if_neg (by decide), ← nI_succ]
          exact J _ (by omega)
      · unfold f_X6_alone_L32
        rw [c1.2.1, if_pos (show nI (cn (aX A)) < nI (cn (aX A) + 1) from nI_lt (by omega) (by omega))]
  · rw [C_manO hC hx, M_manO hM hx, bnd, bnd, if_pos rfl, if_pos rfl]
    exact ans_ps hA hC hM (-1) rfl rfl
theorem Q_lonely (hA : RA A) (hC : RC kt A S) (hM : RM s A M) : ans S M (pu S (f_X5_lonely S)) (f_X6_lonely M) := by
  have b2 := hC.1.1.2.2.1
  have hn := hC.2.1.1.1
  let f : Nat → Nat := fun a => s_cnt (s_aln (aT A) (aX A) a) (cn (aX A) + 1)
  have hf : ∀ j, f j < 2 ^ 31 := fun j => by
    have := s_cnt_le (s_aln (aT A) (aX A) j) (cn (aX A) + 1)
    show s_cnt _ _ < _
    omega
  have l1 : f_X5_lonely S = some (oI (s_arg f (tn (aT A) 2))) := by
    unfold f_X5_lonely
    refine iter_FU (step := f_X5_lonely_L7 S) (fun i => (oI (s_arg f i), ml (-1) f (s_arg f i), nI i)) (tn (aT A) 2) (by omega) (fun i hi => ?_) ?_
    · unfold f_X5_lonely_L7
      rw [chk_t (RC_T hC), hC.2.2.1.1, hC.1.2.2.1 2 (by decide), if_neg (show ¬ nI (tn (aT A) 2) ≤ nI i from nI_ge hi (by omega)), C_aloneT hC hi, bnd, if_pos rfl, ← nI_succ]
      exact arg_step (-1) (by decide) f i hf (fun u v => some (Sum.inl (u, v, nI (i + 1))))
    · unfold f_X5_lonely_L7
      rw [chk_t (RC_T hC), hC.2.2.1.1, hC.1.2.2.1 2 (by decide), if_pos (show nI (tn (aT A) 2) ≤ nI (tn (aT A) 2) from nI_le (Nat.le_refl _) (by omega))]
  obtain ⟨k1, k2⟩ := tM_live hM.1
  unfold f_X6_lonely
  rw [l1, chk_t k1, k2, (tM_n hM).2.1]
  by_cases c : tn (aT A) 2 = 0
  · rw [if_pos (show nI (tn (aT A) 2) = (0 : Int32) by rw [c]; rfl), c]
    exact ans_ps hA hC hM (-2) rfl rfl
  · obtain ⟨n, hnn⟩ : ∃ n, tn (aT A) 2 = n + 1 := ⟨tn (aT A) 2 - 1, by omega⟩
    obtain ⟨M1, v, t1, c1, i1, hM1, o1⟩ := M_cop hM
    obtain ⟨j1, j2⟩ := tM_live t1
    rw [if_neg (nI_nz (by omega) (by omega)), v, bnd, hnn]
    refine ans_ps hA hC hM1 (nI (s_argb f n)) rfl ?_
    refine iter_FU (step := f_X6_lonely_L23 M1) (fun i => (nI (s_argb f i), nI (i + 1))) n (by omega) (fun i hi => ?_) ?_
    · have hb := s_argb_le f i
      unfold f_X6_lonely_L23
      rw [chk_t j1, j2, t1.2.2.2.1.2.2.1, if_neg (show ¬ nI (tn (aT A) 2) ≤ nI (i + 1) from nI_ge (by omega) (by omega)), M_aloneOf t1 c1 (by omega), bnd, M_aloneOf t1 c1 (by omega), bnd, ← nI_succ]
      exact argb_step f i hf (fun u => some (Sum.inl (u, nI (i + 1 + 1))))
    · unfold f_X6_lonely_L23
      rw [chk_t j1, j2, t1.2.2.2.1.2.2.1, if_pos (show nI (tn (aT A) 2) ≤ nI (n + 1) from nI_le (by omega) (by omega))]
/-- the end of crowd and stand -/
theorem Q_crowd (hA : RA A) (hC : RC kt A S) (hM : RM s A M) (x y : Int32) : ans S M (pu S (f_X5_crowd S x y)) (f_X6_crowd M x y) := by
  have b0 := hC.1.1.1
  have hn := hC.2.1.1.1
  unfold f_X5_crowd f_X6_crowd
  rcases vld x (n := cn (aX A) + 1) (by omega) with ⟨t, ht, rfl⟩ | hx
  · rw [C_pasI hC ht, M_pasI hM ht, bnd, bnd, if_neg ne10, if_neg ne10]
    rcases vld y (n := 2) (by decide) with ⟨w, hw, rfl⟩ | hy
    · rw [C_wIl (n := 2) (m := 2) rfl hw (by decide), M_wIl (n := 2) (m := 1) (by decide) hw (by decide), bnd, bnd, if_neg ne10, if_neg ne10]
      let f : Nat → Nat := fun r => pop (s_men (aT A) (aX A) r t)
      have hf : ∀ j, f j < 2 ^ 31 := fun j => by
        have := pop_le (s_men (aT A) (aX A) j t)
        show pop _ < _
        omega
      have hms := fun r => s_men_lt hC.1.1 (aX A) r t
      have l1 : iter (f_X5_crowd_L28 S (nI t) (nI w)) FU ((-2 : Int32), (-2 : Int32), (0 : Int32)) = some (oI (s_arg f (tn (aT A) 0)), ml (-2) f (s_arg f (tn (aT A) 0))) := by
        refine iter_FU (step := f_X5_crowd_L28 S (nI t) (nI w)) (fun i => (oI (s_arg f i), ml (-2) f (s_arg f i), nI i)) (tn (aT A) 0) (by omega) (fun i hi => ?_) ?_
        · unfold f_X5_crowd_L28
          have := hms i
          rw [chk_t (RC_T hC), hC.2.2.1.1, hC.1.2.2.1 0 (by decide), if_neg (show ¬ nI (tn (aT A) 0) ≤ nI i from nI_ge hi (by omega)), C_menIn hC.1 hC.2.1 (by omega) (by omega), bnd, bitC _ (by omega), bnd, ← nI_succ]
          exact arg_step (-2) (by decide) f i hf (fun u v => some (Sum.inl (u, v, nI (i + 1))))
        · unfold f_X5_crowd_L28
          rw [chk_t (RC_T hC), hC.2.2.1.1, hC.1.2.2.1 0 (by decide), if_pos (show nI (tn (aT A) 0) ≤ nI (tn (aT A) 0) from nI_le (Nat.le_refl _) (by omega))]
      obtain ⟨k1, k2⟩ := tM_live hM.1
      rw [l1, bnd, chk_t k1, k2, (tM_n hM).1]
      by_cases c : tn (aT A) 0 = 0
      · rw [if_pos (show nI (tn (aT A) 0) = (0 : Int32) by rw [c]; rfl), c]
        refine ans_ps hA hC hM (-2) ?_ rfl
        show (if nI w = 0 then some (-2) else some (-2)) = _
        split <;> rfl
      · obtain ⟨n, hnn⟩ : ∃ n, tn (aT A) 0 = n + 1 := ⟨tn (aT A) 0 - 1, by omega⟩
        obtain ⟨M1, v, t1, c1, i1, hM1, o1⟩ := M_cop hM
        obtain ⟨j1, j2⟩ := tM_live t1
        have hbn := s_argb_le f n
        have l2 : iter (f_X6_crowd_L43 M1 (nI t) (nI w)) FU ((0 : Int32), (1 : Int32)) = some (nI (s_argb f n)) := by
          refine iter_FU (step := f_X6_crowd_L43 M1 (nI t) (nI w)) (fun i => (nI (s_argb f i), nI (i + 1))) n (by omega) (fun i hi => ?_) ?_
          · have hb := s_argb_le f i
            have h1 := hms (i + 1)
            have h2 := hms (s_argb f i)
            unfold f_X6_crowd_L43
            rw [chk_t j1, j2, t1.2.2.2.1.1, if_neg (show ¬ nI (tn (aT A) 0) ≤ nI (i + 1) from nI_ge (by omega) (by omega)), M_menIn t1 c1 (by omega) (by omega), bnd, bitM _ (by omega), bnd, M_menIn t1 c1 (by omega) (by omega), bnd, bitM _ (by omega), bnd, ← nI_succ]
            exact argb_step f i hf (fun u => some (Sum.inl (u, nI (i + 1 + 1))))
          · unfold f_X6_crowd_L43
            rw [chk_t j1, j2, t1.2.2.2.1.1, if_pos (show nI (tn (aT A) 0) ≤ nI (n + 1) from nI_le (by omega) (by omega))]
        rw [if_neg (nI_nz (by omega) (by omega)), v, bnd, hnn, l2, bnd]
        have h2 := hms (s_argb f n)
        rcases (show w = 0 ∨ w = 1 by omega) with rfl | rfl
        · exact ans_ps hA hC hM1 (nI (s_argb f n)) rfl rfl
        · refine ans_ps hA hC hM1 (nI (f (s_argb f n))) rfl ?_
          rw [if_neg (show ¬ nI 1 = (0 : Int32) by decide), M_menIn t1 c1 (by omega) (by omega), bnd, bitM _ (by omega), bnd]
    · rw [C_wOl (n := 2) (m := 2) rfl hy, M_wOl (n := 2) (m := 1) (by decide) (by decide) hy, bnd, bnd, if_pos rfl, if_pos rfl]
      exact ans_ps hA hC hM (-1) rfl rfl
  · rw [C_pasO hC hx, M_pasO hM hx, bnd, bnd, if_pos rfl, if_pos rfl]
    exact ans_ps hA hC hM (-1) rfl rfl
theorem s_shr_lt {T : TX} (hb : tb T) (X : CT) (r t : Nat) : s_shr T X r t < 64 := s_or_lt' hb X r t _
theorem Q_stand (hA : RA A) (hC : RC kt A S) (hM : RM s A M) (y : Int32) : ans S M (pu S (f_X5_stand S y)) (f_X6_stand M y) := by
  have b0 := hC.1.1.1
  have hn := hC.2.1.1.1
  unfold f_X5_stand f_X6_stand
  rcases vld y (n := 2) (by decide) with ⟨w, hw, rfl⟩ | hy
  · rw [C_wIl (n := 2) (m := 2) rfl hw (by decide), M_wIl (n := 2) (m := 1) (by decide) hw (by decide), bnd, bnd, if_neg ne10, if_neg ne10]
    let f : Nat → Nat := fun r => pop (s_shr (aT A) (aX A) r (cn (aX A)))
    have hf : ∀ j, f j < 2 ^ 31 := fun j => by
      have := pop_le (s_shr (aT A) (aX A) j (cn (aX A)))
      show pop _ < _
      omega
    have hms := fun r => s_shr_lt hC.1.1 (aX A) r (cn (aX A))
    have l1 : iter (f_X5_stand_L19 S (nI w)) FU ((-2 : Int32), (-2 : Int32), (0 : Int32)) = some (oI (s_arg f (tn (aT A) 0)), ml (-2) f (s_arg f (tn (aT A) 0))) := by
      refine iter_FU (step := f_X5_stand_L19 S (nI w)) (fun i => (oI (s_arg f i), ml (-2) f (s_arg f i), nI i)) (tn (aT A) 0) (by omega) (fun i hi => ?_) ?_
      · unfold f_X5_stand_L19
        have := hms i
        rw [chk_t (RC_T hC), hC.2.2.1.1, hC.1.2.2.1 0 (by decide), if_neg (show ¬ nI (tn (aT A) 0) ≤ nI i from nI_ge hi (by omega)), hC.2.1.2.2.2.1, C_shownIn hC.1 hC.2.1 (by omega) (Nat.le_refl _), bnd, bitC _ (by omega), bnd, ← nI_succ]
        exact arg_step (-2) (by decide) f i hf (fun u v => some (Sum.inl (u, v, nI (i + 1))))
      · unfold f_X5_stand_L19
        rw [chk_t (RC_T hC), hC.2.2.1.1, hC.1.2.2.1 0 (by decide), if_pos (show nI (tn (aT A) 0) ≤ nI (tn (aT A) 0) from nI_le (Nat.le_refl _) (by omega))]
    obtain ⟨k1, k2⟩ := tM_live hM.1
    rw [l1, bnd, chk_t k1, k2, (tM_n hM).1]
    by_cases c : tn (aT A) 0 = 0
    · rw [if_pos (show nI (tn (aT A) 0) = (0 : Int32) by rw [c]; rfl), c]
      refine ans_ps hA hC hM (-2) ?_ rfl
      show (if nI w = 0 then some (-2) else some (-2)) = _
      split <;> rfl
    · obtain ⟨n, hnn⟩ : ∃ n, tn (aT A) 0 = n + 1 := ⟨tn (aT A) 0 - 1, by omega⟩
      obtain ⟨M1, v, t1, c1, i1, hM1, o1⟩ := M_cop hM
      obtain ⟨j1, j2⟩ := tM_live t1
      have hbn := s_argb_le f n
      have l2 : iter (f_X6_stand_L34 M1 (nI w)) FU ((0 : Int32), (1 : Int32)) = some (nI (s_argb f n)) := by
        refine iter_FU (step := f_X6_stand_L34 M1 (nI w)) (fun i => (nI (s_argb f i), nI (i + 1))) n (by omega) (fun i hi => ?_) ?_
        · have hb := s_argb_le f i
          have h1 := hms (i + 1)
          have h2 := hms (s_argb f i)
          unfold f_X6_stand_L34
          rw [chk_t j1, j2, t1.2.2.2.1.1, if_neg (show ¬ nI (tn (aT A) 0) ≤ nI (i + 1) from nI_ge (by omega) (by omega)), M_seenFrom t1 c1 (by omega), bnd, bitM _ (by omega), bnd, M_seenFrom t1 c1 (by omega), bnd, bitM _ (by omega), bnd, ← nI_succ]
          exact argb_step f i hf (fun u => some (Sum.inl (u, nI (i + 1 + 1))))
        · unfold f_X6_stand_L34
          rw [chk_t j1, j2, t1.2.2.2.1.1, if_pos (show nI (tn (aT A) 0) ≤ nI (n + 1) from nI_le (by omega) (by omega))]
      rw [if_neg (nI_nz (by omega) (by omega)), v, bnd, hnn, l2, bnd]
      have h2 := hms (s_argb f n)
      rcases (show w = 0 ∨ w = 1 by omega) with rfl | rfl
      · exact ans_ps hA hC hM1 (nI (s_argb f n)) rfl rfl
      · refine ans_ps hA hC hM1 (nI (f (s_argb f n))) rfl ?_
        rw [if_neg (show ¬ nI 1 = (0 : Int32) by decide), M_seenFrom t1 c1 (by omega), bnd, bitM _ (by omega), bnd]
  · rw [C_wOl (n := 2) (m := 2) rfl hy, M_wOl (n := 2) (m := 1) (by decide) (by decide) hy, bnd, bnd, if_pos rfl, if_pos rfl]
    exact ans_ps hA hC hM (-1) rfl rfl
end QC
