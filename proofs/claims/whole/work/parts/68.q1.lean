/-! QUESTIONS: tools, and the first of them. -/
def pu (S : St) (f : Option Int32) : Option (Int32 × St) := f.bind (fun v => some (v, S))
def s_cnt (p : Nat → Bool) : Nat → Nat
  | 0 => 0
  | n + 1 => s_cnt p n + (if p n then 1 else 0)
def s_fst (p : Nat → Bool) : Nat → Option Nat
  | 0 => none
  | n + 1 => match s_fst p n with
    | some i => some i
    | none => if p n then some n else none
def s_lst (p : Nat → Bool) : Nat → Option Nat
  | 0 => none
  | n + 1 => if p n then some n else s_lst p n
theorem s_cnt_le (p : Nat → Bool) : ∀ n, s_cnt p n ≤ n := by
  intro n
  induction n with
  | zero => exact Nat.le_refl _
  | succ n ih =>
    rw [s_cnt]
    split <;> omega
theorem s_fst_lt {p : Nat → Bool} : ∀ {n i}, s_fst p n = some i → i < n ∧ p i = true := by
  intro n
  induction n with
  | zero => intro i h; cases h
  | succ n ih =>
    intro i h
    rw [s_fst] at h
    cases e : s_fst p n with
    | some j =>
      rw [e] at h
      cases h
      exact ⟨Nat.lt_succ_of_lt (ih e).1, (ih e).2⟩
    | none =>
      rw [e] at h
      by_cases c : p n = true
      · change (if p n = true then some n else none) = some i at h
        rw [if_pos c] at h
        cases h
        exact ⟨Nat.lt_succ_self _, c⟩
      · change (if p n = true then some n else none) = some i at h
        rw [if_neg c] at h
        cases h
theorem s_fst_none {p : Nat → Bool} : ∀ {n}, s_fst p n = none → ∀ i, i < n → p i = false := by
  intro n
  induction n with
  | zero => intro _ i h; omega
  | succ n ih =>
    intro h i hi
    rw [s_fst] at h
    cases e : s_fst p n with
    | some j => rw [e] at h; cases h
    | none =>
      rw [e] at h
      change (if p n = true then some n else none) = none at h
      by_cases c : p n = true
      · rw [if_pos c] at h
        cases h
      · by_cases d : i = n
        · rw [d]
          exact Bool.eq_false_iff.mpr c
        · exact ih e i (by omega)
theorem s_fst_succ {p : Nat → Bool} {n : Nat} (h : s_fst p n = none) : s_fst p (n + 1) = if p n then some n else none := by
  rw [s_fst, h]
theorem s_fst_stay {p : Nat → Bool} {n i : Nat} (h : s_fst p n = some i) : s_fst p (n + 1) = some i := by
  rw [s_fst, h]
theorem s_cnt_0 {p : Nat → Bool} : ∀ {n}, s_cnt p n = 0 ↔ s_fst p n = none := by
  intro n
  induction n with
  | zero => exact ⟨fun _ => rfl, fun _ => rfl⟩
  | succ n ih =>
    rw [s_cnt]
    cases e : s_fst p n with
    | some j =>
      rw [s_fst_stay e]
      rw [e] at ih
      refine ⟨fun h => ?_, fun h => by cases h⟩
      exact absurd (ih.mp (by omega)) (fun q => by cases q)
    | none =>
      rw [s_fst_succ e]
      have := ih.mpr e
      by_cases c : p n = true
      · rw [if_pos c, if_pos c]
        exact ⟨fun h => by omega, fun h => by cases h⟩
      · rw [if_neg c, if_neg c, this]
        exact ⟨fun _ => rfl, fun _ => rfl⟩
/-- a loop down -/
theorem dn_loop {ρ : Type} {step : Int32 → Option (Int32 ⊕ ρ)} (p : Nat → Bool) (F : Nat → ρ) (d : ρ) (hneg : ∀ z : Int32, z < 0 → step z = some (.inr d)) : ∀ (n fuel : Nat), n < fuel → n < 2 ^ 31 → (∀ t, t < n → step (nI t) = some (if p t then .inr (F t) else .inl (nI t + (-1)))) → iter step fuel (nI n - 1) = some (match s_lst p n with
    | none => d
    | some t => F t) := by
  intro n
  induction n with
  | zero =>
    intro fuel hf _ _
    obtain ⟨f, rfl⟩ : ∃ f, fuel = f + 1 := ⟨fuel - 1, by omega⟩
    rw [iter, hneg _ (by decide : nI 0 - 1 < 0)]
    rfl
  | succ n ih =>
    intro fuel hf hn hs
    obtain ⟨f, rfl⟩ : ∃ f, fuel = f + 1 := ⟨fuel - 1, by omega⟩
    rw [iter, nI_pred, hs n (Nat.lt_succ_self _)]
    rw [s_lst]
    by_cases c : p n = true
    · rw [if_pos c, if_pos c]
    · rw [if_neg c, if_neg c]
      have e : nI n + (-1 : Int32) = nI n - 1 := by
        rw [Int32.sub_eq_add_neg]
      show iter step f (nI n + (-1)) = _
      rw [e]
      exact ih f (by omega) (by omega) (fun t ht => hs t (by omega))
/-- a loop up that ends at the first one -/
theorem up_find {σ ρ : Type} {step : σ → Option (σ ⊕ ρ)} (st : Nat → σ) (p : Nat → Bool) (F : Nat → ρ) (d : ρ) (n : Nat) (hn : n < 40000) (hs : ∀ i, i < n → s_fst p i = none → step (st i) = some (if p i then .inr (F i) else .inl (st (i + 1)))) (hz : s_fst p n = none → step (st n) = some (.inr d)) : iter step FU (st 0) = some (match s_fst p n with
    | none => d
    | some i => F i) := by
  have hi := iter_invF (step := step) (x := st 0) (fun i x => (x = st i ∧ s_fst p i = none)) (fun z => z = match s_fst p n with
    | none => d
    | some i => F i) n hn ⟨rfl, rfl⟩ ?_ ?_
  · obtain ⟨z, hz, rfl⟩ := hi
    exact hz
  · rintro i x hlt ⟨rfl, he⟩
    rw [hs i hlt he]
    by_cases c : p i = true
    · right
      refine ⟨F i, by rw [if_pos c], ?_⟩
      have h1 : s_fst p (i + 1) = some i := by rw [s_fst_succ he, if_pos c]
      have h2 : ∀ k, s_fst p (i + 1 + k) = some i := by
        intro k
        induction k with
        | zero => exact h1
        | succ k ih => exact s_fst_stay ih
      have := h2 (n - (i + 1))
      rw [show i + 1 + (n - (i + 1)) = n by omega] at this
      rw [this]
    · left
      exact ⟨st (i + 1), by rw [if_neg c], rfl, by rw [s_fst_succ he, if_neg c]⟩
  · rintro x ⟨rfl, he⟩
    exact ⟨d, hz he, by rw [he]⟩
section QA
variable {kt s : Nat} {A : AB} {S M M' : St}
theorem ans_pp (hA : RA A) (hC : RC kt A S) (hM : RM s A M) {f g : Option Int32} (v : Int32) (hf : f = some v) (hg : g = some v) : ans S M (pu S f) (pu M g) := by
  subst hf hg
  exact ⟨v, S, M, rfl, rfl, A, kt, s, hA, hC, hM⟩
theorem ans_ps (hA : RA A) (hC : RC kt A S) (hM : RM s A M') {f : Option Int32} {g : Option (Int32 × St)} (v : Int32) (hf : f = some v) (hg : g = some (v, M')) : ans S M (pu S f) g := by
  subst hf hg
  exact ⟨v, S, M', rfl, rfl, A, kt, s, hA, hC, hM⟩
theorem fsW_Q (q : Nat) (h : kM fsW q) : kM fsQ q := by
  obtain ⟨f, hf, e⟩ := h
  exact ⟨f, (by decide : ∀ f ∈ fsW, f ∈ fsQ) f hf, e⟩
theorem fsC_Q (q : Nat) (h : kM fsC q) : kM fsQ q := by
  obtain ⟨f, hf, e⟩ := h
  exact ⟨f, (by decide : ∀ f ∈ fsC, f ∈ fsQ) f hf, e⟩
theorem M_cop (hM : RM s A M) : ∃ M1, f_X6_copies M = some M1 ∧ tM s M1 (aT A) ∧ cM 56 57 58 59 M1 (aT A) (aX A) ∧ st_I M1 (ky 0 60) = nI (tn (aT A) 5) ∧ RM s A M1 ∧ on (kM fsW) M M1 := by
  obtain ⟨M1, w, t, c, i, o⟩ := M_copies hM.1 hM.2.1
  exact ⟨M1, w, t, c, i, RM_on hM (on_mono fsW_Q o), o⟩
/-- the reference's rows of what was -/
theorem M_past (h : RM s A M) {t : Nat} (ht : t ≤ cn (aX A)) : (∀ i, i < tn (aT A) 2 → st_A M (ky 0 52) (36 * t + i) = nI (cf (aX A) 0 t i) ∧ st_A M (ky 0 52) (36 * t + 6 + i) = nI (cf (aX A) 1 t i)) := (h.2.1.2.2.1 t ht).1
theorem Q_man (hA : RA A) (hC : RC kt A S) (hM : RM s A M) (x y z : Int32) : ans S M (pu S (f_X5_man S x y z)) (pu M (f_X6_man M x y z)) := by
  have b2 := hC.1.1.2.2.1
  have hn := hC.2.1.1.1
  unfold f_X5_man f_X6_man
  rcases vld x (n := tn (aT A) 2) (by omega) with ⟨a, ha, rfl⟩ | hx
  · rw [C_manI hC ha, M_manI hM ha, bnd, bnd, if_neg ne10, if_neg ne10]
    rcases vld y (n := cn (aX A) + 1) (by omega) with ⟨t, ht, rfl⟩ | hy
    · rw [C_pasI hC ht, M_pasI hM ht, bnd, bnd, if_neg ne10, if_neg ne10]
      rcases vld z (n := 2) (by decide) with ⟨w, hw, rfl⟩ | hz
      · rw [C_wIl (n := 2) (m := 2) rfl hw (by decide), M_wIl (n := 2) (m := 1) (by decide) hw (by decide), bnd, bnd, if_neg ne10, if_neg ne10]
        have row := M_past hM (t := t) (by omega) a ha
        have e36 : (36 : Int32) * nI t = nI (36 * t) := pk_mul 36 t
        have e6 : (6 : Int32) * nI w = nI (6 * w) := pk_mul 6 w
        rw [e36, e6, nI_add, nI_add, chk_t (ib_nI (by omega) (by decide)), nI_clamp (by omega)]
        rcases (show w = 0 ∨ w = 1 by omega) with rfl | rfl
        · rw [if_pos (show nI 0 = (0 : Int32) from rfl), C_room hC.1 hC.2.1 ha (by omega), bnd]
          exact ans_pp hA hC hM _ rfl (congrArg some row.1)
        · rw [if_neg (show ¬ nI 1 = (0 : Int32) by decide), C_rank hC.1 hC.2.1 ha (by omega), bnd]
          exact ans_pp hA hC hM _ rfl (congrArg some row.2)
      · rw [C_wOl (n := 2) (m := 2) rfl hz, M_wOl (n := 2) (m := 1) (by decide) (by decide) hz, bnd, bnd, if_pos rfl, if_pos rfl]
        exact ans_pp hA hC hM (-1) rfl rfl
    · rw [C_pasO hC hy, M_pasO hM hy, bnd, bnd, if_pos rfl, if_pos rfl]
      exact ans_pp hA hC hM (-1) rfl rfl
  · rw [C_manO hC hx, M_manO hM hx, bnd, bnd, if_pos rfl, if_pos rfl]
    exact ans_pp hA hC hM (-1) rfl rfl
theorem Q_last (hA : RA A) (hC : RC kt A S) (hM : RM s A M) (x y : Int32) : ans S M (pu S (f_X5_last S x y)) (pu M (f_X6_last M x y)) := by
  have b0 := hC.1.1.1
  have b2 := hC.1.1.2.2.1
  have hn := hC.2.1.1.1
  unfold f_X5_last f_X6_last
  rcases vld x (n := tn (aT A) 2) (by omega) with ⟨a, ha, rfl⟩ | hx
  · rw [C_manI hC ha, M_manI hM ha, bnd, bnd, if_neg ne10, if_neg ne10]
    rcases vld y (n := tn (aT A) 0) (by omega) with ⟨r, hr, rfl⟩ | hy
    · rw [C_rooI hC hr, M_rooI hM hr, bnd, bnd, if_neg ne10, if_neg ne10, hC.2.1.2.2.2.1, hM.2.1.2.1]
      have e : nI (cn (aX A)) = nI (cn (aX A) + 1) - 1 := (nI_pred _).symm
      have l1 := dn_loop (step := f_X5_last_L26 S (nI a) (nI r)) (fun t => cf (aX A) 0 t a == r) (fun t => nI t) (-2) (fun z hz => by
        unfold f_X5_last_L26
        rw [if_pos hz]) (cn (aX A) + 1) FU (by show _ < 40000; omega) (by omega) (fun t ht => by
        have hrm := ((hC.2.1.1.2.1 t (by omega)).1 a ha).1
        unfold f_X5_last_L26
        rw [if_neg (nI_pos (by omega)), C_room hC.1 hC.2.1 ha (by omega), bnd]
        by_cases c : cf (aX A) 0 t a = r
        · rw [if_pos (by rw [c]), if_pos (by simp [c])]
        · rw [if_neg (fun q => c ((nI_eq (by omega) (by omega)).mp q)), if_neg (by simp [c])])
      have l2 := dn_loop (step := f_X6_last_L23 M (nI a) (nI r)) (fun t => cf (aX A) 0 t a == r) (fun t => nI t) (-2) (fun z hz => by
        unfold f_X6_last_L23
        rw [if_pos hz]) (cn (aX A) + 1) FU (by show _ < 40000; omega) (by omega) (fun t ht => by
        have hrm := ((hC.2.1.1.2.1 t (by omega)).1 a ha).1
        have row := M_past hM (t := t) (by omega) a ha
        unfold f_X6_last_L23
        rw [if_neg (nI_pos (by omega)), i0', chk_t (ib_nI (by omega) (by decide)), nI_clamp (by omega), row.1]
        by_cases c : cf (aX A) 0 t a = r
        · rw [if_pos (by rw [c]), if_pos (by simp [c])]
        · rw [if_neg (fun q => c ((nI_eq (by omega) (by omega)).mp q)), if_neg (by simp [c])])
      rw [← e] at l1 l2
      rw [l1, l2]
      exact ans_pp hA hC hM _ rfl rfl
    · rw [C_rooO hC hy, M_rooO hM hy, bnd, bnd, if_pos rfl, if_pos rfl]
      exact ans_pp hA hC hM (-1) rfl rfl
  · rw [C_manO hC hx, M_manO hM hx, bnd, bnd, if_pos rfl, if_pos rfl]
    exact ans_pp hA hC hM (-1) rfl rfl
theorem Q_together (hA : RA A) (hC : RC kt A S) (hM : RM s A M) (x y z : Int32) : ans S M (pu S (f_X5_together S x y z)) (pu M (f_X6_together M x y z)) := by
  have b0 := hC.1.1.1
  have b2 := hC.1.1.2.2.1
  have hn := hC.2.1.1.1
  unfold f_X5_together f_X6_together
  rcases vld x (n := tn (aT A) 2) (by omega) with ⟨a, ha, rfl⟩ | hx
  · rw [C_manI hC ha, M_manI hM ha, bnd, bnd, if_neg ne10, if_neg ne10]
    rcases vld y (n := tn (aT A) 2) (by omega) with ⟨r, hr, rfl⟩ | hy
    · rw [C_manI hC hr, M_manI hM hr, bnd, bnd, if_neg ne10, if_neg ne10]
      by_cases c : nI a = nI r
      · rw [if_pos c, if_pos c]
        exact ans_pp hA hC hM (-1) rfl rfl
      · rw [if_neg c, if_neg c]
        rcases vld z (n := 2) (by decide) with ⟨w, hw, rfl⟩ | hz
        · rw [C_wIl (n := 2) (m := 2) rfl hw (by decide), M_wIl (n := 2) (m := 1) (by decide) hw (by decide), bnd, bnd, if_neg ne10, if_neg ne10]
          let p : Nat → Bool := fun t => cf (aX A) 0 t a == cf (aX A) 0 t r
          let ol : Option Nat → Int32 := fun o => oI o
          have l1 := iter_FU (step := f_X5_together_L41 S (nI a) (nI r) (nI w)) (fun i => (nI (s_cnt p i), oI (s_lst p i), nI i)) (cn (aX A) + 1) (by omega) (r := (nI (s_cnt p (cn (aX A) + 1)), oI (s_lst p (cn (aX A) + 1)))) (fun i hi => by
            have h1 := ((hC.2.1.1.2.1 i (by omega)).1 a ha).1
            have h2 := ((hC.2.1.1.2.1 i (by omega)).1 r hr).1
            unfold f_X5_together_L41
            rw [hC.2.1.2.2.2.1, if_neg (show ¬ nI (cn (aX A)) < nI i from nI_nlt (by omega) (by omega))]
            rw [C_room hC.1 hC.2.1 ha (by omega), bnd, C_room hC.1 hC.2.1 hr (by omega), bnd, s_cnt, s_lst]
            by_cases c : cf (aX A) 0 i a = cf (aX A) 0 i r
            · have hp : p i = true := by simp [p, c]
              rw [if_pos (by rw [c]), if_pos hp, if_pos hp, ← nI_succ, ← nI_succ]
              rfl
            · have hp : ¬ p i = true := by simp [p, c]
              rw [if_neg (fun q => c ((nI_eq (by omega) (by omega)).mp q)), if_neg hp, if_neg hp, ← nI_succ]
              rfl) (by
            unfold f_X5_together_L41
            rw [hC.2.1.2.2.2.1, if_pos (show nI (cn (aX A)) < nI (cn (aX A) + 1) from nI_lt (by omega) (by omega))])
          have l2 := iter_FU (step := f_X6_together_L42 M (nI a) (nI r) (nI w)) (fun i => (nI (s_cnt p i), oI (s_lst p i), nI i)) (cn (aX A) + 1) (by omega) (r := (nI (s_cnt p (cn (aX A) + 1)), oI (s_lst p (cn (aX A) + 1)))) (fun i hi => by
            have h1 := ((hC.2.1.1.2.1 i (by omega)).1 a ha).1
            have h2 := ((hC.2.1.1.2.1 i (by omega)).1 r hr).1
            have row := M_past hM (t := i) (by omega)
            unfold f_X6_together_L42
            rw [hM.2.1.2.1, if_neg (show ¬ nI (cn (aX A)) < nI i from nI_nlt (by omega) (by omega)), i0', chk_t (ib_nI (by omega) (by decide)), i0', chk_t (ib_nI (by omega) (by decide)), nI_clamp (by omega), nI_clamp (by omega), (row a ha).1, (row r hr).1, s_cnt, s_lst]
            by_cases c : cf (aX A) 0 i a = cf (aX A) 0 i r
            · have hp : p i = true := by simp [p, c]
              rw [if_pos (by rw [c]), if_pos hp, if_pos hp, ← nI_succ, ← nI_succ]
              rfl
            · have hp : ¬ p i = true := by simp [p, c]
              rw [if_neg (fun q => c ((nI_eq (by omega) (by omega)).mp q)), if_neg hp, if_neg hp, ← nI_succ]
              rfl) (by
            unfold f_X6_together_L42
            rw [hM.2.1.2.1, if_pos (show nI (cn (aX A)) < nI (cn (aX A) + 1) from nI_lt (by omega) (by omega))])
          change iter _ FU ((0 : Int32), (-2 : Int32), (0 : Int32)) = _ at l1
          change iter _ FU ((0 : Int32), (-2 : Int32), (0 : Int32)) = _ at l2
          rw [l1, l2, bnd]
          try rw [bnd]
          rcases (show w = 0 ∨ w = 1 by omega) with rfl | rfl
          · exact ans_pp hA hC hM _ (if_pos (show nI 0 = (0 : Int32) from rfl)) (if_pos (show nI 0 = (0 : Int32) from rfl))
          · exact ans_pp hA hC hM _ (if_neg (show ¬ nI 1 = (0 : Int32) by decide)) (if_neg (show ¬ nI 1 = (0 : Int32) by decide))
        · rw [C_wOl (n := 2) (m := 2) rfl hz, M_wOl (n := 2) (m := 1) (by decide) (by decide) hz, bnd, bnd, if_pos rfl, if_pos rfl]
          exact ans_pp hA hC hM (-1) rfl rfl
    · rw [C_manO hC hy, M_manO hM hy, bnd, bnd, if_pos rfl, if_pos rfl]
      exact ans_pp hA hC hM (-1) rfl rfl
  · rw [C_manO hC hx, M_manO hM hx, bnd, bnd, if_pos rfl, if_pos rfl]
    exact ans_pp hA hC hM (-1) rfl rfl
end QA
