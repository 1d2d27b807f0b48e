/-! WHERE A MAN GOES. -/
def s_to (T : TX) (r k : Nat) : Nat → Nat
  | 0 => r
  | n + 1 => if (tf T 0 n = r ∨ tf T 1 n = r) ∧ s_wayN T r n + 1 = k then s_end T r n else s_to T r k n
theorem s_to_ex {T : TX} {r k : Nat} (h1 : 1 ≤ k) : ∀ n, k ≤ s_wayN T r n → ∃ d, d < n ∧ s_hit T r k d ∧ s_to T r k n = s_end T r d := by
  intro n
  induction n with
  | zero =>
    intro h
    have : s_wayN T r 0 = 0 := rfl
    omega
  | succ n ih =>
    intro h
    by_cases c : (tf T 0 n = r ∨ tf T 1 n = r) ∧ s_wayN T r n + 1 = k
    · exact ⟨n, Nat.lt_succ_self n, c, if_pos c⟩
    · have h3 : k ≤ s_wayN T r n := by
        rw [s_wayN] at h
        by_cases c1 : tf T 0 n = r ∨ tf T 1 n = r
        · rw [if_pos c1] at h
          have : ¬ s_wayN T r n + 1 = k := fun e => c ⟨c1, e⟩
          omega
        · rw [if_neg c1] at h
          omega
      obtain ⟨d, hd, hh, he⟩ := ih h3
      refine ⟨d, by omega, hh, ?_⟩
      rw [s_to, if_neg c]
      exact he
theorem s_to_thr {T : TX} {r k : Nat} (h1 : 1 ≤ k) (h2 : k ≤ s_ways T r) : s_thr T r k (some (s_to T r k (tn T 1))) := by
  obtain ⟨d, a, b, c⟩ := s_to_ex h1 (tn T 1) h2
  exact ⟨d, a, b, c⟩
/-- his law's value now -/
def s_want (T : TX) (X : CT) (a : Nat) : Int32 := tg T a (vv (nI (cn X)) (nI (cf X 0 (cn X) a)) (nI (cf X 1 (cn X) a)) (nI a) (nI (s_ways T (cf X 0 (cn X) a))) (nI (pop (s_men T X (cf X 0 (cn X) a) (cn X))) - 1))
def s_step (T : TX) (r : Nat) (v : Int32) : Nat := if v < 0 then r else if v.toNatClampNeg % (s_ways T r + 1) = 0 then r else s_to T r (v.toNatClampNeg % (s_ways T r + 1)) (tn T 1)
def s_next (T : TX) (X : CT) (a : Nat) : Nat := s_step T (cf X 0 (cn X) a) (s_want T X a)
theorem s_step_lt {T : TX} (hb : tb T) {r : Nat} (hr : r < tn T 0) (v : Int32) : s_step T r v < tn T 0 := by
  unfold s_step
  split
  · exact hr
  · split
    · exact hr
    · rename_i h
      have : v.toNatClampNeg % (s_ways T r + 1) < s_ways T r + 1 := Nat.mod_lt _ (Nat.succ_pos _)
      obtain ⟨d, h1, h2, h3⟩ := s_to_ex (T := T) (r := r) (k := v.toNatClampNeg % (s_ways T r + 1)) (by omega) (tn T 1) (by
        have e : s_wayN T r (tn T 1) = s_ways T r := rfl
        omega)
      rw [h3]
      exact s_end_lt hb h1
theorem rem_neg {v : Int32} (hv : v < 0) {d : Nat} (h0 : 0 < d) (hd : d < 2 ^ 31) : i_rem v (nI d) ≤ 0 := by
  apply Int32.le_iff_toInt_le.mpr
  have ha := Int32.lt_iff_toInt_lt.mp hv
  have hl := Int32.le_toInt v
  have z : (0 : Int32).toInt = 0 := rfl
  rw [z] at ha ⊢
  show (v - v / nI d * nI d).toInt ≤ 0
  have hq : v.toInt.tdiv d * d + v.toInt.tmod d = v.toInt := Int.tdiv_mul_add_tmod _ _
  have h1 : v.toInt.tmod d ≤ 0 := by
    have := Int.tmod_nonneg (a := -v.toInt) (d : Int) (by omega)
    rw [Int.neg_tmod] at this
    omega
  have h2 : v.toInt ≤ v.toInt.tmod d := by
    have := Int.tdiv_nonneg (a := -v.toInt) (b := (d : Int)) (by omega) (by omega)
    rw [Int.neg_tdiv] at this
    have h3 : v.toInt.tdiv d * d ≤ 0 := Int.mul_nonpos_of_nonpos_of_nonneg (by omega) (by omega)
    omega
  rw [Int32.toInt_sub, Int32.toInt_mul, Int32.toInt_div, nI_toInt hd, Int.bmod_mul_bmod, Int.sub_bmod_bmod]
  have e : v.toInt - v.toInt.tdiv d * d = v.toInt.tmod d := by omega
  rw [e, Int.bmod_eq_of_le (by omega) (by omega)]
  exact h1
