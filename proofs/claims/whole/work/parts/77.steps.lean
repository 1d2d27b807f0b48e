/-! STEPS: how many doors, through rooms of a set. -/
def Dk (T : TX) (P : Nat → Bool) (f : Nat) : Nat → Nat → Prop
  | 0, r => r = f ∧ P r = true
  | k + 1, r => Dk T P f k r ∨ (P r = true ∧ ∃ d, d < tn T 1 ∧ ((tf T 0 d = r ∧ Dk T P f k (tf T 1 d)) ∨ (tf T 1 d = r ∧ Dk T P f k (tf T 0 d))))
def dsR (T : TX) (P : Nat → Bool) (f r : Nat) : Option Nat → Prop
  | none => ∀ k, ¬ Dk T P f k r
  | some k => Dk T P f k r ∧ ∀ j, j < k → ¬ Dk T P f j r
section DK
variable {T : TX} {P : Nat → Bool} {f : Nat}
theorem Dk_P : ∀ k r, Dk T P f k r → P r = true := by
  intro k
  induction k with
  | zero => intro r h; exact h.2
  | succ k ih =>
    intro r h
    rcases h with h | h
    · exact ih r h
    · exact h.1
theorem Dk_m (k r : Nat) (h : Dk T P f k r) : ∀ j, Dk T P f (k + j) r := by
  intro j
  induction j with
  | zero => exact h
  | succ j ih => exact Or.inl ih
theorem Dk_le {k k' r : Nat} (h : Dk T P f k r) (hk : k ≤ k') : Dk T P f k' r := by
  have := Dk_m k r h (k' - k)
  rw [show k + (k' - k) = k' by omega] at this
  exact this
theorem Dk_lt (hT : tb T) (hf : f < 8) : ∀ k r, Dk T P f k r → r < 8 := by
  have h0 := hT.1
  intro k
  induction k with
  | zero => intro r h; rw [h.1]; exact hf
  | succ k ih =>
    intro r h
    rcases h with h | ⟨_, d, hd, h | h⟩
    · exact ih r h
    · have := (hT.2.2.2.2.2.2.1 d hd).1
      omega
    · have := (hT.2.2.2.2.2.2.1 d hd).2.1
      omega
theorem Dk_no (h : ¬ Dk T P f 0 f) : ∀ k r, ¬ Dk T P f k r := by
  intro k
  induction k with
  | zero =>
    intro r q
    have e := q.1
    subst e
    exact h q
  | succ k ih =>
    intro r q
    rcases q with q | ⟨_, d, _, q | q⟩
    · exact ih r q
    · exact ih _ q.2
    · exact ih _ q.2
theorem Dk_st {k : Nat} (h : ∀ r, Dk T P f (k + 1) r → Dk T P f k r) : ∀ j r, Dk T P f (k + j) r → Dk T P f k r := by
  intro j
  induction j with
  | zero => intro r q; exact q
  | succ j ih =>
    intro r q
    rcases q with q | ⟨hp, d, hd, q | q⟩
    · exact ih r q
    · exact h r (Or.inr ⟨hp, d, hd, Or.inl ⟨q.1, ih _ q.2⟩⟩)
    · exact h r (Or.inr ⟨hp, d, hd, Or.inr ⟨q.1, ih _ q.2⟩⟩)
theorem s_cnt_lt {p q : Nat → Bool} : ∀ n r, r < n → (∀ j, p j = true → q j = true) → p r = false → q r = true → s_cnt p n < s_cnt q n := by
  have le : ∀ n, (∀ j, p j = true → q j = true) → s_cnt p n ≤ s_cnt q n := by
    intro n h
    induction n with
    | zero => exact Nat.le_refl _
    | succ n ih =>
      rw [s_cnt, s_cnt]
      cases hp : p n
      · simp
        omega
      · rw [h n hp]
        simp
        omega
  intro n
  induction n with
  | zero => intro r h; omega
  | succ n ih =>
    intro r hr h hp hq
    rw [s_cnt, s_cnt]
    by_cases e : r = n
    · subst e
      have := le r h
      rw [hp, hq]
      simp
      omega
    · have := ih r (by omega) h hp hq
      cases hpn : p n
      · simp
        omega
      · rw [h n hpn]
        simp
        omega
noncomputable def cdd (p : Prop) : Bool := @decide p (Classical.propDecidable p)
theorem cdd_t {p : Prop} (h : p) : cdd p = true := @decide_eq_true p (Classical.propDecidable p) h
theorem cdd_f {p : Prop} (h : ¬ p) : cdd p = false := @decide_eq_false p (Classical.propDecidable p) h
theorem of_cdd {p : Prop} (h : cdd p = true) : p := @of_decide_eq_true p (Classical.propDecidable p) h
noncomputable def Dc (T : TX) (P : Nat → Bool) (f k : Nat) : Nat := s_cnt (fun r => cdd (Dk T P f k r)) 8
theorem Dk_8 (hT : tb T) (hf : f < 8) : ∀ k r, Dk T P f k r → Dk T P f 8 r := by
  have key : ∀ k, (∃ j, j < k ∧ ∀ r, Dk T P f (j + 1) r → Dk T P f j r) ∨ k ≤ Dc T P f k := by
    intro k
    induction k with
    | zero => right; exact Nat.zero_le _
    | succ k ih =>
      rcases ih with ⟨j, hj, h⟩ | h
      · exact Or.inl ⟨j, by omega, h⟩
      · by_cases c : ∀ r, Dk T P f (k + 1) r → Dk T P f k r
        · exact Or.inl ⟨k, by omega, c⟩
        · right
          have ⟨r, hr⟩ := Classical.not_forall.mp c
          have ⟨h1, h2⟩ := Classical.not_imp.mp hr
          have : Dc T P f k < Dc T P f (k + 1) := s_cnt_lt 8 r (Dk_lt hT hf _ _ h1) (fun j hj => by
            have := of_cdd hj
            exact cdd_t (Or.inl this)) (cdd_f h2) (cdd_t h1)
          omega
  intro k r h
  rcases key 9 with ⟨j, hj, hs⟩ | hc
  · by_cases c : k ≤ j
    · exact Dk_le h (by omega)
    · have := Dk_st hs (k - j) r (by rw [show j + (k - j) = k by omega]; exact h)
      exact Dk_le this (by omega)
  · have : Dc T P f 9 ≤ 8 := s_cnt_le _ _
    omega
theorem ds_ex (r : Nat) : ∃ o, dsR T P f r o := by
  by_cases h : ∃ k, Dk T P f k r
  · obtain ⟨k, h1, h2⟩ := pk_least (fun k => Dk T P f k r) h
    exact ⟨some k, h1, h2⟩
  · exact ⟨none, fun k hk => h ⟨k, hk⟩⟩
theorem ds_le {r k : Nat} (hT : tb T) (hf : f < 8) (h : dsR T P f r (some k)) : k ≤ 8 := by
  rcases Nat.lt_or_ge 8 k with q | q
  · exact absurd (Dk_8 hT hf k r h.1) (h.2 8 q)
  · exact q
end DK
def oC : Option Nat → Int32
  | none => 1000
  | some k => nI k
theorem bitM3 : ∀ c < 256, ∀ o < 8, ((nI c >>> (nI o &&& 31)) &&& (1 : Int32)) = if c.testBit o then 1 else 0 := by decide +kernel
/-- the class's numbers are sound, and complete up to n -/
def SV (T : TX) (P : Nat → Bool) (f : Nat) (st : Nat → Nat) : Prop := ∀ r, r < 8 → st r ≤ 1000 ∧ (st r < 1000 → Dk T P f (st r) r)
def SC (T : TX) (P : Nat → Bool) (f n : Nat) (st : Nat → Nat) : Prop := ∀ r, r < 8 → ∀ k, k ≤ n → Dk T P f k r → st r ≤ k
theorem SV_fin {T : TX} {P : Nat → Bool} {f : Nat} {st : Nat → Nat} (hT : tb T) (hf : f < 8) (h1 : SV T P f st) (h2 : SC T P f 8 st) {r : Nat} (hr : r < 8) : ∀ o, dsR T P f r o → nI (st r) = oC o := by
  intro o ho
  have g := h1 r hr
  cases o with
  | none =>
    have : ¬ st r < 1000 := fun q => ho _ (g.2 q)
    have e : st r = 1000 := by omega
    rw [e]
    rfl
  | some k =>
    have hk := ds_le hT hf ho
    have a := h2 r hr k hk ho.1
    have b := g.2 (by omega)
    have c : ¬ st r < k := fun q => ho.2 _ q b
    have e : st r = k := by omega
    rw [e]
    rfl
section CS
variable {kt s : Nat} {A : AB} {S M : St}
theorem C_doorEnd (hT : tC kt S (aT A)) {d : Nat} (hd : d < tn (aT A) 1) : f_X4_doorEnd kt S (nI d) (0 : Int32) = some (nI (tf (aT A) 0 d)) ∧ f_X4_doorEnd kt S (nI d) (1 : Int32) = some (nI (tf (aT A) 1 d)) := by
  have h1 := hT.1.2.1
  have e2 : nI d * (2 : Int32) = nI (d * 2) := pk_mul d 2
  have e0 : nI (d * 2) + (0 : Int32) = nI (d * 2) := Int32.add_zero _
  have e1 : nI (d * 2) + (1 : Int32) = nI (d * 2 + 1) := nI_1 _
  unfold f_X4_doorEnd
  rw [e2, e0, e1, at_nI (lnC (kt_cl hT) (by decide) (n := 24) rfl) (by omega) (by decide), bnd, at_nI (lnC (kt_cl hT) (by decide) (n := 24) rfl) (by omega) (by decide), bnd, (hT.2.2.2.1 d hd).1, (hT.2.2.2.1 d hd).2]
  exact ⟨rfl, rfl⟩
theorem C_steps (hC : RC kt A S) {f c : Nat} (hf : f < 8) (hc : c < 256) : ∃ S', f_X5_countSteps S (nI f) (nI c) = some S' ∧ on (fun q => q = ky 0 13) S S' ∧ ∀ r, r < 8 → ∀ o, dsR (aT A) (fun i => c.testBit i) f r o → st_A S' (ky 0 13) r = oC o := by
  have L13 : wk_n wd_C (ky 0 13) = 8 := lnC (show cl_C 0 = 5 from rfl) (by decide) rfl
  have k13 : ∀ {Z Z' : St}, on (fun q => q = ky 0 13) Z Z' → on (kS kt) Z Z' := fun o => on_mono (fun q e => Or.inr (Or.inr (Or.inl e))) o
  have hT := hC.1.1
  have h0 := hT.1
  obtain ⟨S1, w1, o1, z1⟩ := loop_P (step := f_X5_countSteps_L2 (nI f) (nI c)) S 8 (fun z => z) (fun i z => on (fun q => q = ky 0 13) S z ∧ ∀ r, r < i → st_A z (ky 0 13) r = nI (if r = f ∧ c.testBit r = true then 0 else 1000)) (by decide) ⟨on_refl _ _, fun r hr => absurd hr (Nat.not_lt_zero _)⟩ (fun i z hi hz => by
    have J : ∀ (y : Nat), f_X5_countSteps_J33 z (nI f) (nI c) (nI i) (nI y) (nI i) = some (.inl (nI (i + 1), up_A z (ky 0 13) (upd (st_A z (ky 0 13)) i (nI y)))) := by
      intro y
      unfold f_X5_countSteps_J33
      rw [put_nI L13 hi (by decide), bnd, ← nI_succ]
    refine ⟨up_A z (ky 0 13) (upd (st_A z (ky 0 13)) i (nI (if i = f ∧ c.testBit i = true then 0 else 1000))), ?_, on_trans hz.1 (on_A _ _ _ rfl), fun r hr => ?_⟩
    · unfold f_X5_countSteps_L2 f_X5_countSteps_J30
      rw [if_neg (show ¬ (8 : Int32) ≤ nI i from nI_ge (b := 8) hi (by decide))]
      by_cases d : i = f
      · rw [if_pos (by rw [d]), has_nI (by omega) (by omega), bnd]
        by_cases e : c.testBit i = true
        · rw [if_pos e, if_neg ne10, if_pos ⟨d, e⟩]
          exact J 0
        · rw [if_neg e, if_pos rfl, if_neg (fun q => e q.2)]
          exact J 1000
      · rw [if_neg (fun q => d ((nI_eq (by omega) (by omega)).mp q)), if_neg (fun q => d q.1)]
        exact J 1000
    · rw [gAs, upd_e]
      by_cases e : r = i
      · rw [if_pos e, e]
      · rw [if_neg e]
        exact hz.2 r (by omega)) (fun z hz => by
    unfold f_X5_countSteps_L2
    rw [if_pos (show (8 : Int32) ≤ nI 8 from nI_le (Nat.le_refl 8) (by decide))])
  obtain ⟨S2, w2, o2, st, hst, hV, hK⟩ := loop_P (step := f_X5_countSteps_L44 (nI c)) S1 8 (fun z => z) (fun n z => on (fun q => q = ky 0 13) S z ∧ ∃ st : Nat → Nat, (∀ r, r < 8 → st_A z (ky 0 13) r = nI (st r)) ∧ SV (aT A) (fun i => c.testBit i) f st ∧ SC (aT A) (fun i => c.testBit i) f n st) (by decide) ⟨o1, fun r => if r = f ∧ c.testBit r = true then 0 else 1000, z1, fun r hr => by
      dsimp only
      by_cases e : r = f ∧ c.testBit r = true
      · rw [if_pos e]
        exact ⟨by omega, fun _ => e⟩
      · rw [if_neg e]
        exact ⟨by omega, fun q => absurd q (by omega)⟩, fun r hr k hk hd => by
      have e : k = 0 := by omega
      subst e
      show (if r = f ∧ c.testBit r = true then 0 else 1000) ≤ 0
      rw [if_pos (show r = f ∧ c.testBit r = true from hd)]
      exact Nat.le_refl _⟩ (fun n z hn hz => by
    obtain ⟨zo, st, hst, hV, hK⟩ := hz
    have zR := RC_on hC (k13 zo)
    obtain ⟨z2, v2, p2, st2, hst2, hV2, hD, hE⟩ := loop_P (step := f_X5_countSteps_L53 (nI c) (nI n)) z (tn (aT A) 1) (fun z => z) (fun j y => on (fun q => q = ky 0 13) S y ∧ ∃ s2 : Nat → Nat, (∀ r, r < 8 → st_A y (ky 0 13) r = nI (s2 r)) ∧ SV (aT A) (fun i => c.testBit i) f s2 ∧ (∀ r, r < 8 → s2 r ≤ st r) ∧ ∀ d, d < j → c.testBit (tf (aT A) 0 d) = true → c.testBit (tf (aT A) 1 d) = true → s2 (tf (aT A) 0 d) ≤ st (tf (aT A) 1 d) + 1 ∧ s2 (tf (aT A) 1 d) ≤ st (tf (aT A) 0 d) + 1) (by have := hT.2.1; omega) ⟨zo, st, hst, hV, fun r hr => Nat.le_refl _, fun d hd => absurd hd (Nat.not_lt_zero _)⟩ (fun j y hj hy => by
      obtain ⟨yo, s2, hs2, hV2, hD, hE⟩ := hy
      have yR := RC_on hC (k13 yo)
      have hd := hT.2.2.2.2.2.2.1 j hj
      have h1 := hT.2.1
      have de := C_doorEnd yR.1 hj
      have ha : tf (aT A) 0 j < 8 := by omega
      have hb : tf (aT A) 1 j < 8 := by omega
      have step0 : f_X5_countSteps_L53 (nI c) (nI n) (nI j, y) = if c.testBit (tf (aT A) 0 j) = true ∧ c.testBit (tf (aT A) 1 j) = true then some (.inl (nI (j + 1), up_A y (ky 0 13) (upd (upd (st_A y (ky 0 13)) (tf (aT A) 0 j) (nI (min (s2 (tf (aT A) 0 j)) (s2 (tf (aT A) 1 j) + 1)))) (tf (aT A) 1 j) (nI (min (s2 (tf (aT A) 1 j)) (min (s2 (tf (aT A) 0 j)) (s2 (tf (aT A) 1 j) + 1) + 1)))))) else some (.inl (nI (j + 1), y)) := by
        have va := (hV2 _ ha).1
        have vb := (hV2 _ hb).1
        unfold f_X5_countSteps_L53
        rw [chk_t (RC_T yR), yR.2.2.1.1, yR.1.2.2.1 1 (by decide), if_neg (show ¬ nI (tn (aT A) 1) ≤ nI j from nI_ge hj (by omega)), chk_t yR.1.2.1, de.1, bnd, chk_t yR.1.2.1, de.2, bnd, has_nI (by omega) (by omega), bnd, ← nI_succ]
        by_cases e1 : c.testBit (tf (aT A) 0 j) = true
        · rw [if_pos e1, if_neg ne10, has_nI (by omega) (by omega), bnd]
          by_cases e2 : c.testBit (tf (aT A) 1 j) = true
          · rw [if_pos e2, if_neg ne10, if_pos ⟨e1, e2⟩, at_nI L13 ha (by decide), bnd, at_nI L13 hb (by decide), bnd, hs2 _ ha, hs2 _ hb, ← nI_succ, min_nI (by omega) (by omega), put_nI L13 ha (by decide), bnd, at_nI L13 hb (by decide), bnd, gAs, upd_n (fun q => hd.2.2 q.symm), hs2 _ hb, at_nI L13 ha (by decide), bnd, gAs, upd_s, ← nI_succ, min_nI (by omega) (by omega), put_nI L13 hb (by decide), bnd, upA_upA, gAs]
          · rw [if_neg e2, if_pos rfl, if_neg (fun q => e2 q.2)]
        · rw [if_neg e1, if_pos rfl, if_neg (fun q => e1 q.1)]
      by_cases e : c.testBit (tf (aT A) 0 j) = true ∧ c.testBit (tf (aT A) 1 j) = true
      · rw [if_pos e] at step0
        refine ⟨_, step0, on_trans yo (on_A _ _ _ rfl), fun r => if r = tf (aT A) 1 j then min (s2 (tf (aT A) 1 j)) (min (s2 (tf (aT A) 0 j)) (s2 (tf (aT A) 1 j) + 1) + 1) else if r = tf (aT A) 0 j then min (s2 (tf (aT A) 0 j)) (s2 (tf (aT A) 1 j) + 1) else s2 r, fun r hr => ?_, fun r hr => ?_, fun r hr => ?_, fun d hdj p1 p2 => ?_⟩
        · rw [gAs, upd_e, upd_e]
          dsimp only
          by_cases q1 : r = tf (aT A) 1 j
          · rw [if_pos q1, if_pos q1]
          · rw [if_neg q1, if_neg q1]
            by_cases q2 : r = tf (aT A) 0 j
            · rw [if_pos q2, if_pos q2]
            · rw [if_neg q2, if_neg q2]
              exact hs2 r hr
        · have va := hV2 _ ha
          have vb := hV2 _ hb
          have n1 : min (s2 (tf (aT A) 0 j)) (s2 (tf (aT A) 1 j) + 1) < 1000 → Dk (aT A) (fun i => c.testBit i) f (min (s2 (tf (aT A) 0 j)) (s2 (tf (aT A) 1 j) + 1)) (tf (aT A) 0 j) := by
            intro hlt
            by_cases q : s2 (tf (aT A) 0 j) ≤ s2 (tf (aT A) 1 j) + 1
            · rw [Nat.min_eq_left q] at hlt ⊢
              exact va.2 hlt
            · rw [Nat.min_eq_right (by omega)] at hlt ⊢
              exact Or.inr ⟨e.1, j, hj, Or.inl ⟨rfl, vb.2 (by omega)⟩⟩
          show (if _ then _ else _) ≤ 1000 ∧ ((if _ then _ else _) < 1000 → Dk _ _ _ (if _ then _ else _) r)
          by_cases q1 : r = tf (aT A) 1 j
          · rw [if_pos q1, q1]
            refine ⟨by omega, fun hlt => ?_⟩
            by_cases q : s2 (tf (aT A) 1 j) ≤ min (s2 (tf (aT A) 0 j)) (s2 (tf (aT A) 1 j) + 1) + 1
            · rw [Nat.min_eq_left q] at hlt ⊢
              exact vb.2 hlt
            · rw [Nat.min_eq_right (by omega)] at hlt ⊢
              exact Or.inr ⟨e.2, j, hj, Or.inr ⟨rfl, n1 (by omega)⟩⟩
          · rw [if_neg q1]
            by_cases q2 : r = tf (aT A) 0 j
            · rw [if_pos q2, q2]
              exact ⟨by omega, n1⟩
            · rw [if_neg q2]
              exact hV2 r hr
        · have h3 := hD _ ha
          have h4 := hD _ hb
          show (if _ then _ else _) ≤ st r
          by_cases q1 : r = tf (aT A) 1 j
          · rw [if_pos q1, q1]
            omega
          · rw [if_neg q1]
            by_cases q2 : r = tf (aT A) 0 j
            · rw [if_pos q2, q2]
              omega
            · rw [if_neg q2]
              exact hD r hr
        · have mono : ∀ r, r < 8 → (if r = tf (aT A) 1 j then min (s2 (tf (aT A) 1 j)) (min (s2 (tf (aT A) 0 j)) (s2 (tf (aT A) 1 j) + 1) + 1) else if r = tf (aT A) 0 j then min (s2 (tf (aT A) 0 j)) (s2 (tf (aT A) 1 j) + 1) else s2 r) ≤ s2 r := by
            intro r hr
            by_cases q1 : r = tf (aT A) 1 j
            · rw [if_pos q1, q1]
              omega
            · rw [if_neg q1]
              by_cases q2 : r = tf (aT A) 0 j
              · rw [if_pos q2, q2]
                omega
              · rw [if_neg q2]
                exact Nat.le_refl _
          by_cases q : d = j
          · subst q
            have h3 := hD _ ha
            have h4 := hD _ hb
            show (if _ then _ else _) ≤ _ ∧ (if _ then _ else _) ≤ _
            rw [if_neg hd.2.2, if_pos rfl, if_pos rfl]
            omega
          · have g := hE d (by omega) p1 p2
            have hdd := hT.2.2.2.2.2.2.1 d (by omega)
            have m1 := mono (tf (aT A) 0 d) (by omega)
            have m2 := mono (tf (aT A) 1 d) (by omega)
            exact ⟨Nat.le_trans m1 g.1, Nat.le_trans m2 g.2⟩
      · rw [if_neg e] at step0
        refine ⟨_, step0, yo, s2, hs2, hV2, hD, fun d hdj p1 p2 => ?_⟩
        by_cases q : d = j
        · subst q
          exact absurd ⟨p1, p2⟩ e
        · exact hE d (by omega) p1 p2) (fun y hy => by
      have yR := RC_on hC (k13 hy.1)
      have h1 := hT.2.1
      unfold f_X5_countSteps_L53
      rw [chk_t (RC_T yR), yR.2.2.1.1, yR.1.2.2.1 1 (by decide), if_pos (show nI (tn (aT A) 1) ≤ nI (tn (aT A) 1) from nI_le (Nat.le_refl _) (by omega))])
    refine ⟨z2, ?_, p2, st2, hst2, hV2, fun r hr k hk hd => ?_⟩
    · unfold f_X5_countSteps_L44
      rw [if_neg (show ¬ (8 : Int32) ≤ nI n from nI_ge (b := 8) hn (by decide)), v2, bnd, ← nI_succ]
    · by_cases q : k ≤ n
      · exact Nat.le_trans (hD r hr) (hK r hr k q hd)
      · have e : k = n + 1 := by omega
        subst e
        rcases hd with hd | ⟨hp, d, hdd, ⟨q1, q2⟩ | ⟨q1, q2⟩⟩
        · have := hK r hr n (Nat.le_refl _) hd
          have := hD r hr
          omega
        · have hx := hT.2.2.2.2.2.2.1 d hdd
          have h5 := hK _ (show tf (aT A) 1 d < 8 by omega) n (Nat.le_refl _) q2
          have h6 := hE d hdd (by rw [q1]; exact hp) (Dk_P _ _ q2)
          rw [q1] at h6
          omega
        · have hx := hT.2.2.2.2.2.2.1 d hdd
          have h5 := hK _ (show tf (aT A) 0 d < 8 by omega) n (Nat.le_refl _) q2
          have h6 := hE d hdd (Dk_P _ _ q2) (by rw [q1]; exact hp)
          rw [q1] at h6
          omega) (fun z hz => by
    unfold f_X5_countSteps_L44
    rw [if_pos (show (8 : Int32) ≤ nI 8 from nI_le (Nat.le_refl 8) (by decide))])
  refine ⟨S2, ?_, o2, fun r hr o ho => ?_⟩
  · unfold f_X5_countSteps
    rw [w1, bnd, w2]
  · rw [hst r hr]
    exact SV_fin hT hf hV hK hr o ho
end CS
