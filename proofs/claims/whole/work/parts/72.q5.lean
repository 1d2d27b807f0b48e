/-! QUESTIONS: facing, rank for, jolt. -/
def s_fac (X : CT) (a b : Nat) : Nat → Option Nat
  | 0 => s_show X a (cn X)
  | n + 1 => (s_fac X a b n).bind (fun v => if (n + 1) % 2 = 1 then s_in X a v b else s_in X b v a)
theorem s_fac_le {T : TX} {X : CT} (h : cb T X) {a b : Nat} (ha : a < tn T 3) (hb : b < tn T 3) : ∀ n v, s_fac X a b n = some v → v ≤ cn X := by
  intro n
  induction n with
  | zero => intro v e; exact s_show_le h ha e
  | succ n ih =>
    intro v e
    rw [s_fac] at e
    cases hs : s_fac X a b n with
    | none => rw [hs] at e; cases e
    | some w =>
      rw [hs] at e
      change (if (n + 1) % 2 = 1 then s_in X a w b else s_in X b w a) = some v at e
      have := ih w hs
      split at e
      · exact Nat.le_trans (s_in_le h hb e) this
      · exact Nat.le_trans (s_in_le h ha e) this
theorem s_fac_none {X : CT} {a b : Nat} {k : Nat} (h : s_fac X a b k = none) : ∀ j, s_fac X a b (k + j) = none := by
  intro j
  induction j with
  | zero => exact h
  | succ j ih =>
    show s_fac X a b (k + j + 1) = none
    rw [s_fac, ih]
    rfl
section QE
variable {k kt s : Nat} {A : AB} {S M M' : St} {T : TX} {X : CT}
theorem C_facM (hC : RC kt A S) {a b : Nat} (ha : a < tn (aT A) 3) (hb : b < tn (aT A) 3) {n : Nat} (hn : n < 20) : f_X5_facingMinute S (nI a) (nI b) (nI n) = some (oI (s_fac (aX A) a b n)) := by
  have h1 := hC.2.1.1.1
  unfold f_X5_facingMinute
  rw [hC.2.1.2.2.2.1, C_showing hC.1 hC.2.1 ha (Nat.le_refl _) trivial, bnd]
  refine iter_FU (step := f_X5_facingMinute_L20 S (nI a) (nI b) (nI n)) (fun i => (oI (s_fac (aX A) a b i), nI (i + 1))) n (by omega) (fun i hi => ?_) ?_
  · have hle := s_fac_le hC.2.1.1 ha hb i
    unfold f_X5_facingMinute_L20
    rw [if_neg (show ¬ nI n < nI (i + 1) from nI_nlt (by omega) (by omega)), and_1 _ (by omega)]
    unfold f_X5_facingMinute_J39 f_X5_facingMinute_J55 f_X5_facingMinute_J67
    rw [s_fac]
    by_cases c : (i + 1) % 2 = 1
    · rw [if_pos (show nI ((i + 1) % 2) = (1 : Int32) by rw [c]; rfl), if_neg ne10, if_neg ne10, C_seenO hC.1 hC.2.1 ha hb _ hle, bnd, ← nI_succ]
      have e : (fun v => if (i + 1) % 2 = 1 then s_in (aX A) a v b else s_in (aX A) b v a) = fun v => s_in (aX A) a v b := by
        funext v
        rw [if_pos c]
      rw [e]
    · rw [if_neg (show ¬ nI ((i + 1) % 2) = (1 : Int32) from fun q => c ((nI_eq (b := 1) (by omega) (by decide)).mp q)), if_pos rfl, if_pos rfl, C_seenO hC.1 hC.2.1 hb ha _ hle, bnd, ← nI_succ]
      have e : (fun v => if (i + 1) % 2 = 1 then s_in (aX A) a v b else s_in (aX A) b v a) = fun v => s_in (aX A) b v a := by
        funext v
        rw [if_neg c]
      rw [e]
  · unfold f_X5_facingMinute_L20
    rw [if_pos (show nI n < nI (n + 1) from nI_lt (by omega) (by omega))]
theorem rem2 (n : Nat) (h : n < 2 ^ 31) : i_rem (nI n) (2 : Int32) = nI (n % 2) := pk_rem (d := 2) h (by decide) (by decide)
theorem two_nz : (2 : Int32) ≠ 0 := by decide
theorem M_facL (hT : tM s M T) (h : cM 56 57 58 59 M T X) {a b : Nat} (ha : a < tn T 3) (hb : b < tn T 3) (x : Int32) : iter (f_X6_facing_L46 M (nI a) (nI b) x) FU ((0 : Int32), oI (s_show X a (cn X))) = some (match s_fst (fun n => !(s_fac X a b n).isSome || decide (nI n = x)) 20 with
    | none => .inl 20
    | some i => if (s_fac X a b i).isSome then .inr (oI (s_fac X a b i), M) else .inl (nI i)) := by
  have h1 := h.1.1
  refine up_find (step := f_X6_facing_L46 M (nI a) (nI b) x) (fun i => (nI i, oI (s_fac X a b i))) (fun n => !(s_fac X a b n).isSome || decide (nI n = x)) (fun i => if (s_fac X a b i).isSome then .inr (oI (s_fac X a b i), M) else .inl (nI i)) (.inl 20) 20 (by decide) (fun i hi _ => ?_) (fun _ => ?_)
  · have hle := s_fac_le h.1 ha hb i
    unfold f_X6_facing_L46
    rw [if_neg (show ¬ (20 : Int32) ≤ nI i from nI_ge (b := 20) hi (by decide))]
    cases e : s_fac X a b i with
    | none =>
      rw [if_pos (show oI none < 0 by decide)]
      rfl
    | some v =>
      have hv := hle v e
      rw [if_neg (show ¬ oI (some v) < 0 from nI_pos (by omega))]
      by_cases c : nI i = x
      · rw [if_pos c]
        simp [c]
      · rw [if_neg c, chk_t two_nz, ← nI_succ, rem2 _ (by omega)]
        have hx : (!(some v).isSome || decide (nI i = x)) = false := by simp [c]
        rw [hx, if_neg Bool.false_ne_true, s_fac, e]
        have hvv : ∀ w, some v = some w → w ≤ cn X := fun w q => by cases q; exact hv
        by_cases d : (i + 1) % 2 = 1
        · rw [if_pos (show nI ((i + 1) % 2) = (1 : Int32) by rw [d]; rfl), M_seenO hT h ha hb _ hvv, bnd]
          show _ = some (Sum.inl (nI (i + 1), oI (if (i + 1) % 2 = 1 then s_in X a v b else s_in X b v a)))
          rw [if_pos d]
          rfl
        · rw [if_neg (show ¬ nI ((i + 1) % 2) = (1 : Int32) from fun q => d ((nI_eq (b := 1) (by omega) (by decide)).mp q)), M_seenO hT h hb ha _ hvv, bnd]
          show _ = some (Sum.inl (nI (i + 1), oI (if (i + 1) % 2 = 1 then s_in X a v b else s_in X b v a)))
          rw [if_neg d]
          rfl
  · unfold f_X6_facing_L46
    rw [if_pos (show (20 : Int32) ≤ nI 20 from nI_le (Nat.le_refl 20) (by decide))]
    rfl
theorem Q_facing (hA : RA A) (hC : RC kt A S) (hM : RM s A M) (x y z : Int32) : ans S M (pu S (f_X5_facing S x y z)) (f_X6_facing M x y z) := by
  have b3 := hC.1.1.2.2.2.1
  have hn := hC.2.1.1.1
  unfold f_X5_facing f_X6_facing
  rcases vld x (n := tn (aT A) 3) (by omega) with ⟨a, ha, rfl⟩ | hx
  · rw [C_mirI hC ha, M_mirI hM ha, bnd, bnd, if_neg ne10, if_neg ne10]
    rcases vld y (n := tn (aT A) 3) (by omega) with ⟨b, hb, rfl⟩ | hy
    · rw [C_mirI hC hb, M_mirI hM hb, bnd, bnd, if_neg ne10, if_neg ne10]
      by_cases c : nI a = nI b
      · rw [if_pos c, if_pos c]
        exact ans_ps hA hC hM (-1) rfl rfl
      · rw [if_neg c, if_neg c]
        obtain ⟨M1, v, t1, c1, i1, hM1, o1⟩ := M_cop hM
        have hM0 := M_facL t1 c1 ha hb z
        by_cases d : z = -1
        · rw [if_pos d, if_pos (show (-1 : Int32) ≤ z by rw [d]; decide), v, bnd, c1.2.1, M_shows t1 c1 ha (Nat.le_refl _) trivial, bnd, hM0, bnd]
          have e : s_fst (fun n => !(s_fac (aX A) a b n).isSome || decide (nI n = z)) 20 = s_fst (fun n => !(s_fac (aX A) a b n).isSome) 20 := s_fst_cg _ (fun i hi => by
            have : ¬ nI i = z := by
              rw [d]
              exact nI_m1 (by omega)
            simp [this])
          rw [e]
          have l1 := up_find (step := f_X5_facingTimes_L2 S (nI a) (nI b)) (fun i => nI i) (fun n => !(s_fac (aX A) a b n).isSome) (fun i => nI i) 20 20 (by decide) (fun i hi _ => by
            have hle := s_fac_le hC.2.1.1 ha hb i
            unfold f_X5_facingTimes_L2
            rw [if_neg (show ¬ (20 : Int32) ≤ nI i from nI_ge (b := 20) hi (by decide)), C_facM hC ha hb hi, bnd]
            cases e : s_fac (aX A) a b i with
            | none => rfl
            | some v =>
              have := hle v e
              rw [if_pos (show (0 : Int32) ≤ oI (some v) from nI_pos' (by omega)), ← nI_succ]
              rfl) (fun _ => by
            unfold f_X5_facingTimes_L2
            rw [if_pos (show (20 : Int32) ≤ nI 20 from nI_le (Nat.le_refl 20) (by decide))])
          have l1' : f_X5_facingTimes S (nI a) (nI b) = _ := l1
          rw [l1', bnd]
          unfold f_X6_facing_J102
          cases hf : s_fst (fun n => !(s_fac (aX A) a b n).isSome) 20 with
          | none => exact ans_ps hA hC hM1 20 rfl (if_pos d)
          | some i =>
            have hi := (s_fst_lt hf).2
            have hi2 : (s_fac (aX A) a b i).isSome = false := by
              cases hq : (s_fac (aX A) a b i).isSome
              · rfl
              · rw [hq] at hi; cases hi
            refine ans_ps hA hC hM1 (nI i) rfl ?_
            simp only [hi2]
            exact if_pos d
        · rw [if_neg d]
          rcases vld z (n := 20) (by decide) with ⟨i, hi, rfl⟩ | hz
          · have hle := s_fac_le hC.2.1.1 ha hb i
            rw [C_wIl (n := 20) (m := 20) rfl hi (by decide), bnd, if_neg ne10, C_facM hC ha hb hi, bnd, if_pos (show (-1 : Int32) ≤ nI i from Int32.le_of_lt (Int32.lt_of_lt_of_le (by decide) (nI_pos' (by omega)))), v, bnd, c1.2.1, M_shows t1 c1 ha (Nat.le_refl _) trivial, bnd, hM0, bnd]
            have hp : (fun n => !(s_fac (aX A) a b n).isSome || decide (nI n = nI i)) i = true := by simp
            cases hf : s_fst (fun n => !(s_fac (aX A) a b n).isSome || decide (nI n = nI i)) 20 with
            | none =>
              have := s_fst_none hf i hi
              exact absurd (this.symm.trans hp) Bool.false_ne_true
            | some j =>
              have hj := s_fst_lt hf
              have hji : j ≤ i := by
                rcases Nat.lt_or_ge i j with q | q
                · have h2 : ∀ n, s_fst (fun n => !(s_fac (aX A) a b n).isSome || decide (nI n = nI i)) n = some j → ∀ k, k < j → (fun n => !(s_fac (aX A) a b n).isSome || decide (nI n = nI i)) k = false := by
                    intro n
                    induction n with
                    | zero => intro h; cases h
                    | succ n ih =>
                      intro h k hk
                      cases hn : s_fst (fun n => !(s_fac (aX A) a b n).isSome || decide (nI n = nI i)) n with
                      | some j' =>
                        rw [s_fst_stay hn] at h
                        cases h
                        exact ih hn k hk
                      | none =>
                        rw [s_fst_succ hn] at h
                        split at h
                        · cases h
                          exact s_fst_none hn k hk
                        · cases h
                  have := h2 20 hf i q
                  rw [hp] at this
                  cases this
                · exact q
              cases e : s_fac (aX A) a b i with
              | none =>
                have hz : (s_fac (aX A) a b j).isSome = false := by
                  cases hq : s_fac (aX A) a b j with
                  | none => rfl
                  | some w =>
                    have h2 := hj.2
                    rw [hq] at h2
                    have h3 : nI j = nI i := by simpa using h2
                    have h4 := (nI_eq (by omega) (by omega)).mp h3
                    rw [h4, e] at hq
                    cases hq
                refine ans_ps hA hC hM1 (-1) rfl ?_
                simp only [hz]
                show f_X6_facing_J102 M1 (nI i) (nI j) = _
                unfold f_X6_facing_J102
                rw [if_neg (nI_m1 (by omega))]
              | some w =>
                have hw := hle w e
                have h4 : j = i := by
                  cases hq : s_fac (aX A) a b j with
                  | none =>
                    have := s_fac_none hq (i - j)
                    rw [show j + (i - j) = i by omega, e] at this
                    cases this
                  | some w' =>
                    have h2 := hj.2
                    rw [hq] at h2
                    have h3 : nI j = nI i := by simpa using h2
                    exact (nI_eq (by omega) (by omega)).mp h3
                subst h4
                rw [if_pos (show (0 : Int32) ≤ oI (some w) from nI_pos' (by omega))]
                refine ans_ps hA hC hM1 (nI w) rfl ?_
                simp only [e]
                rfl
          · rw [C_wOl (n := 20) (m := 20) rfl hz, bnd, if_pos rfl]
            by_cases q : (-1 : Int32) ≤ z
            · rw [if_pos q, v, bnd, c1.2.1, M_shows t1 c1 ha (Nat.le_refl _) trivial, bnd, hM0, bnd]
              have e : s_fst (fun n => !(s_fac (aX A) a b n).isSome || decide (nI n = z)) 20 = s_fst (fun n => !(s_fac (aX A) a b n).isSome) 20 := s_fst_cg _ (fun i hi => by
                have : ¬ nI i = z := by
                  rintro rfl
                  rcases hz with h | h
                  · exact nI_pos (by omega) h
                  · exact nI_ge hi (by decide) h
                simp [this])
              rw [e]
              unfold f_X6_facing_J102
              cases hf : s_fst (fun n => !(s_fac (aX A) a b n).isSome) 20 with
              | none => exact ans_ps hA hC hM1 (-1) rfl (if_neg d)
              | some i =>
                have hi := (s_fst_lt hf).2
                have hi2 : (s_fac (aX A) a b i).isSome = false := by
                  cases hq : (s_fac (aX A) a b i).isSome
                  · rfl
                  · rw [hq] at hi; cases hi
                refine ans_ps hA hC hM1 (-1) rfl ?_
                simp only [hi2]
                exact if_neg d
            · rw [if_neg q]
              exact ans_ps hA hC hM (-1) rfl rfl
    · rw [C_mirO hC hy, M_mirO hM hy, bnd, bnd, if_pos rfl, if_pos rfl]
      exact ans_ps hA hC hM (-1) rfl rfl
  · rw [C_mirO hC hx, M_mirO hM hx, bnd, bnd, if_pos rfl, if_pos rfl]
    exact ans_ps hA hC hM (-1) rfl rfl
end QE
