/-! HELD, RESTORED, TOLD. -/
def aSl (A : AB) (sl : Nat → Option CT) : AB := (aT A, aX A, au A, aH A, sl, A.2.2.2.2.2)
def aTl (A : AB) (k : Nat) (L : Nat → Nat × Nat × Nat × Bool) : AB := (aT A, aX A, au A, aH A, aS A, k, L, A.2.2.2.2.2.2.2)
def sl_add (sl : Nat → Option CT) (i : Nat) (X : CT) : Nat → Option CT := fun j => if j = i then some X else sl j
theorem tellM_i : vp_nar .boolean (1 : Int32) = 1 := by decide +kernel
theorem tellM_0 : vp_nar .boolean (0 : Int32) = 0 := by decide +kernel
theorem sl_bits (sl : Nat → Option CT) (i : Nat) (X : CT) (hi : i < 3) : bs 3 (fun j => (sl j).isSome) ||| 2 ^ i = bs 3 (fun j => (sl_add sl i X j).isSome) := by
  apply Nat.eq_of_testBit_eq
  intro j
  rw [Nat.testBit_or, bs_bit, bs_bit]
  unfold sl_add
  by_cases hj : j < 3
  · rw [pow_t i (by omega) j (by omega)]
    by_cases c : j = i
    · simp [c, hi]
    · simp [c, hj]
  · have hz : (2 ^ i : Nat).testBit j = false := by
      apply Nat.testBit_lt_two_pow
      exact Nat.pow_lt_pow_right (by decide) (by omega)
    rw [hz]
    simp [hj]
section HR
variable {kt s : Nat} {A : AB} {S M : St}
theorem C_hold (hC : RC kt A S) {i : Nat} (hi : i < 3) : ∃ S', f_X5_hold S (nI i) = some (1, S') ∧ RC kt (aSl A (sl_add (aS A) i (aX A))) S' := by
  have hkt := hC.1.2.1
  obtain ⟨c1, c2, c3, c4, c5, c6, c7, c8, c9⟩ := hC
  have hcl : cl_C (12 + i) = 0 := by rcases (show i = 0 ∨ i = 1 ∨ i = 2 by omega) with rfl | rfl | rfl <;> rfl
  obtain ⟨S1, w1, d1, o1⟩ := C_copyOf (k := 12 + i) (k1 := 10) (by omega) hcl c1 c2
  have o1' : on (fun q => kF (12 + i) q ∨ q = ky 0 10) S S1 := on_mono (fun _ => Or.inl) o1
  have n0 : ∀ c f, f < 100 → c ≠ 12 + i → (c = 0 → f ≠ 10) → ¬ (kF (12 + i) (ky c f) ∨ ky c f = ky 0 10) := by
    rintro c f hf h1 h2 (⟨g, hg, e⟩ | e)
    · exact h1 ((ky_iff hf (by omega)).mp e).1
    · have := (ky_iff hf (by decide)).mp e
      exact h2 this.1 this.2
  have e10 : st_I S1 (ky 0 10) = nI (bs 3 (fun j => (aS A j).isSome)) := by
    rw [(o1 _ (fun q => by
      obtain ⟨g, hg, e⟩ := q
      have := (ky_iff (by decide) (by omega)).mp e
      omega)).1]
    exact c5.1
  have o2 : on (fun q => kF (12 + i) q ∨ q = ky 0 10) S1 (up_I S1 (ky 0 10) (nI (bs 3 (fun j => (sl_add (aS A) i (aX A) j).isSome)))) := on_I _ _ _ (Or.inr rfl)
  have o := on_trans o1' o2
  have x3 : ∀ (x : Int32), f_X5_within x 3 = f_X5_within x (nI 3) := fun x => rfl
  refine ⟨up_I S1 (ky 0 10) (nI (bs 3 (fun j => (sl_add (aS A) i (aX A) j).isSome))), ?_, tC_on c1 o (fun f hf => n0 _ _ (by omega) (by omega) (fun e => by omega)) (fun f hf => n0 _ _ (by omega) (by omega) (fun e => by omega)), cC_on c2 o (fun f hf => n0 _ _ (by omega) (by omega) (fun e => by omega)), ?_, hC_on c4 o (fun f hf => n0 _ _ (by omega) (by omega) (fun e => by omega)), ⟨gIs .., fun j hj Y hY => ?_⟩, tellC_on c6 o (n0 _ _ (by decide) (by omega) (fun _ => by decide)) (n0 _ _ (by decide) (by omega) (fun _ => by decide)), ?_, ?_, ?_⟩
  · unfold f_X5_hold
    rw [x3, C_wi hi (by decide), bnd, if_neg ne10, chk_t (ib_nI hi (by decide)), chk_t (ib_nI hi (by decide)), nI_clamp (by omega), w1, bnd, e10, shl_b i (by omega), nI_oN, sl_bits _ _ (aX A) hi, lt_e]
  · rw [(o _ (n0 0 4 (by decide) (by omega) (fun _ => by decide))).2.2.2.2, (o _ (n0 0 5 (by decide) (by omega) (fun _ => by decide))).2.2.2.2]
    exact c3
  · by_cases c : j = i
    · rw [c]
      change (if j = i then some (aX A) else aS A j) = some Y at hY
      rw [if_pos c] at hY
      cases hY
      exact cC_on d1 (K := fun q => q = ky 0 10) (on_I _ _ _ rfl) (fun f hf => ky_ne (by omega) (by decide) (by omega))
    · change (if j = i then some (aX A) else aS A j) = some Y at hY
      rw [if_neg c] at hY
      exact cC_on (c5.2 j hj Y hY) o (fun f hf => n0 _ _ (by omega) (by omega) (fun e => by omega))
  · rw [(o _ (n0 0 1 (by decide) (by omega) (fun _ => by decide))).1, (o _ (n0 0 0 (by decide) (by omega) (fun _ => by decide))).2.1]
    exact c7
  · rw [(o _ (n0 0 2 (by decide) (by omega) (fun _ => by decide))).1]
    exact c8
  · rw [(o _ (n0 1 0 (by decide) (by omega) (fun e => by omega))).2.2.2.1]
    exact c9
theorem M_hold (hM : RM s A M) {i : Nat} (hi : i < 3) : ∃ M', f_X6_hold M (nI i) = some (1, M') ∧ RM s (aSl A (sl_add (aS A) i (aX A))) M' := by
  obtain ⟨c1, c2, c3, c4, c5, c6, c7, c8⟩ := hM
  have h1 := c2.1.1
  have h8 := c1.1.2.2.2.1
  have e17 : (17 : Int32) * nI i = nI (17 * i) := pk_mul 17 i
  have e17a : nI (17 * i) + (1 : Int32) = nI (17 * i + 1) := nI_1 _
  have e17b : nI (17 * i) + (9 : Int32) = nI (17 * i + 9) := nI_add _ 9
  have e108 : (10800 : Int32) * nI i = nI (10800 * i) := pk_mul 10800 i
  have o1 : on (kM [72, 73, 74]) M (up_A M (ky 0 72) (upd (st_A M (ky 0 72)) i 1)) := on_A _ _ _ ⟨72, by decide, rfl⟩
  have a1 : st_A (up_A M (ky 0 72) (upd (st_A M (ky 0 72)) i 1)) (ky 0 72) = upd (st_A M (ky 0 72)) i 1 := gAs ..
  have n1 : ∀ q, ¬ q = ky 0 72 → st_A (up_A M (ky 0 72) (upd (st_A M (ky 0 72)) i 1)) q = st_A M q := fun q hq => gAn _ _ hq
  have I1 : st_I (up_A M (ky 0 72) (upd (st_A M (ky 0 72)) i 1)) = st_I M := rfl
  generalize hM1 : up_A M (ky 0 72) (upd (st_A M (ky 0 72)) i 1) = M1 at o1 a1 n1 I1
  have k52 : st_A M1 (ky 0 52) = st_A M (ky 0 52) := n1 _ (ky_ne (by decide) (by decide) (by decide))
  have w2 := fill_loop (step := f_X6_hold_L20 (nI i)) M1 (ky 0 73) 0 (36 * cn (aX A) + 36) (10800 * i) (fun k => st_A M (ky 0 52) k) (fun z => z) (by omega) (by omega) (fun k F q1 q2 hF => by
    unfold f_X6_hold_L20
    rw [gI_A, I1, c2.2.1, nI36, if_neg (show ¬ nI (36 * cn (aX A) + 36) ≤ nI k from nI_ge q2 (by omega)), chk_t (ib_nI (by omega) (by decide)), e108, nI_add, chk_t (ib_nI (by omega) (by decide)), nI_clamp (by omega), nI_clamp (by omega), lt_e, upA_upA, gAs, gAn _ _ (ky_ne (by decide) (by decide) (by decide)), k52, ← nI_succ]) (fun F => by
    unfold f_X6_hold_L20
    rw [gI_A, I1, c2.2.1, nI36, if_pos (show nI (36 * cn (aX A) + 36) ≤ nI (36 * cn (aX A) + 36) from nI_le (Nat.le_refl _) (by omega))])
  have o2 : on (kM [72, 73, 74]) M1 (up_A M1 (ky 0 73) (fun j => if 10800 * i + 0 ≤ j ∧ j < 10800 * i + (36 * cn (aX A) + 36) then st_A M (ky 0 52) (j - 10800 * i) else st_A M1 (ky 0 73) j)) := on_A _ _ _ ⟨73, by decide, rfl⟩
  have a2 : ∀ j, j < 36 * cn (aX A) + 36 → st_A (up_A M1 (ky 0 73) (fun j => if 10800 * i + 0 ≤ j ∧ j < 10800 * i + (36 * cn (aX A) + 36) then st_A M (ky 0 52) (j - 10800 * i) else st_A M1 (ky 0 73) j)) (ky 0 73) (10800 * i + j) = st_A M (ky 0 52) j := fun j hj => by
    rw [gAs, if_pos (by omega), show 10800 * i + j - 10800 * i = j by omega]
  have b2 : ∀ j, j < 10800 * i ∨ 10800 * i + 10800 ≤ j → st_A (up_A M1 (ky 0 73) (fun j => if 10800 * i + 0 ≤ j ∧ j < 10800 * i + (36 * cn (aX A) + 36) then st_A M (ky 0 52) (j - 10800 * i) else st_A M1 (ky 0 73) j)) (ky 0 73) j = st_A M (ky 0 73) j := fun j hj => by
    rw [gAs, if_neg (by omega), n1 _ (ky_ne (by decide) (by decide) (by decide))]
  have n2 : ∀ q, ¬ q = ky 0 73 → st_A (up_A M1 (ky 0 73) (fun j => if 10800 * i + 0 ≤ j ∧ j < 10800 * i + (36 * cn (aX A) + 36) then st_A M (ky 0 52) (j - 10800 * i) else st_A M1 (ky 0 73) j)) q = st_A M1 q := fun q hq => gAn _ _ hq
  have I2 : st_I (up_A M1 (ky 0 73) (fun j => if 10800 * i + 0 ≤ j ∧ j < 10800 * i + (36 * cn (aX A) + 36) then st_A M (ky 0 52) (j - 10800 * i) else st_A M1 (ky 0 73) j)) = st_I M1 := rfl
  generalize up_A M1 (ky 0 73) (fun j => if 10800 * i + 0 ≤ j ∧ j < 10800 * i + (36 * cn (aX A) + 36) then st_A M (ky 0 52) (j - 10800 * i) else st_A M1 (ky 0 73) j) = M2 at w2 o2 a2 b2 n2 I2
  have o3 : on (kM [72, 73, 74]) M2 (up_A M2 (ky 0 74) (upd (st_A M2 (ky 0 74)) (17 * i) (nI (cn (aX A))))) := on_A _ _ _ ⟨74, by decide, rfl⟩
  obtain ⟨M4, w4, o4, i4, x4, y4, z4⟩ := loop_P (step := f_X6_hold_L73 (nI i)) (up_A M2 (ky 0 74) (upd (st_A M2 (ky 0 74)) (17 * i) (nI (cn (aX A))))) 8 (fun z => ((1 : Int32), z)) (fun m z => on (kM [74]) (up_A M2 (ky 0 74) (upd (st_A M2 (ky 0 74)) (17 * i) (nI (cn (aX A))))) z ∧ st_A z (ky 0 74) (17 * i) = nI (cn (aX A)) ∧ (∀ j, j < 17 * i ∨ 17 * i + 17 ≤ j → st_A z (ky 0 74) j = st_A M (ky 0 74) j) ∧ (∀ j, j < m → st_A z (ky 0 74) (17 * i + 1 + j) = st_A M (ky 0 54) j) ∧ ∀ j, j < m → st_A z (ky 0 74) (17 * i + 9 + j) = st_A M (ky 0 55) j) (by decide) ⟨on_refl _ _, by rw [gAs, upd_s], fun j hj => by rw [gAs, upd_n (by omega), n2 _ (ky_ne (by decide) (by decide) (by decide)), n1 _ (ky_ne (by decide) (by decide) (by decide))], fun a ha => absurd ha (Nat.not_lt_zero _), fun a ha => absurd ha (Nat.not_lt_zero _)⟩ (fun m z hm hz => by
    obtain ⟨zo, z0, z1, z2, z3⟩ := hz
    have zz := on_trans o1 (on_trans o2 (on_trans o3 (on_mono (fun q hq => by
      obtain ⟨f, hf, e⟩ := hq
      exact ⟨f, (by decide : ∀ f ∈ [74], f ∈ [72, 73, 74]) f hf, e⟩) zo)))
    have k54 : st_A z (ky 0 54) = st_A M (ky 0 54) := (zz _ (kM_n (by decide) (by decide) (by decide))).2.1
    have k55 : st_A z (ky 0 55) = st_A M (ky 0 55) := (zz _ (kM_n (by decide) (by decide) (by decide))).2.1
    refine ⟨up_A z (ky 0 74) (upd (upd (st_A z (ky 0 74)) (17 * i + 1 + m) (st_A M (ky 0 54) m)) (17 * i + 9 + m) (st_A M (ky 0 55) m)), ?_, on_trans zo (on_A _ _ _ ⟨74, by decide, rfl⟩), ?_, fun j hj => ?_, fun j hj => ?_, fun j hj => ?_⟩
    · unfold f_X6_hold_L73
      rw [if_neg (show ¬ (8 : Int32) ≤ nI m from nI_ge (b := 8) hm (by decide)), chk_t (ib_nI (by omega) (by decide)), e17, e17a, nI_add, chk_t (ib_nI (by omega) (by decide)), nI_clamp (by omega), nI_clamp (by omega), lt_e, chk_t (ib_nI (by omega) (by decide)), e17b, nI_add, chk_t (ib_nI (by omega) (by decide)), nI_clamp (by omega), lt_e, upA_upA, gAs, gAn _ _ (ky_ne (by decide) (by decide) (by decide)), k54, k55, ← nI_succ]
    · rw [gAs, upd_n (by omega), upd_n (by omega)]
      exact z0
    · rw [gAs, upd_n (by omega), upd_n (by omega)]
      exact z1 j hj
    · rw [gAs, upd_n (by omega), upd_e]
      by_cases c : 17 * i + 1 + j = 17 * i + 1 + m
      · rw [if_pos c, show j = m by omega]
      · rw [if_neg c]
        exact z2 j (by omega)
    · rw [gAs, upd_e]
      by_cases c : 17 * i + 9 + j = 17 * i + 9 + m
      · rw [if_pos c, show j = m by omega]
      · rw [if_neg c, upd_n (by omega)]
        exact z3 j (by omega)) (fun z hz => by
    unfold f_X6_hold_L73
    rw [if_pos (show (8 : Int32) ≤ nI 8 from nI_le (Nat.le_refl 8) (by decide))])
  have o4' : on (kM [72, 73, 74]) (up_A M2 (ky 0 74) (upd (st_A M2 (ky 0 74)) (17 * i) (nI (cn (aX A))))) M4 := on_mono (fun q hq => by
    obtain ⟨f, hf, e⟩ := hq
    exact ⟨f, (by decide : ∀ f ∈ [74], f ∈ [72, 73, 74]) f hf, e⟩) o4
  have o := on_trans o1 (on_trans o2 (on_trans o3 o4'))
  have n : ∀ f, f < 100 → f ∉ [72, 73, 74] → ¬ kM [72, 73, 74] (ky 0 f) := fun f hf hn => kM_n (by decide) hf hn
  have A72 : st_A M4 (ky 0 72) = upd (st_A M (ky 0 72)) i 1 := by
    rw [(o4 _ (kM_n (by decide) (by decide) (by decide))).2.1, gAn _ _ (ky_ne (by decide) (by decide) (by decide)), n2 _ (ky_ne (by decide) (by decide) (by decide)), a1]
  have A73 : st_A M4 (ky 0 73) = st_A M2 (ky 0 73) := by
    rw [(o4 _ (kM_n (by decide) (by decide) (by decide))).2.1, gAn _ _ (ky_ne (by decide) (by decide) (by decide))]
  refine ⟨M4, ?_, tM_on c1 o (fun f h1 h2 => n f (by omega) (fun q => by
    have := (by decide : ∀ f ∈ [72, 73, 74], 47 ≤ f) f q
    omega)), cM_on c2 o (n _ (by decide) (by decide)) (n _ (by decide) (by decide)) (n _ (by decide) (by decide)) (n _ (by decide) (by decide)), hM_on c3 o (n _ (by decide) (by decide)) (n _ (by decide) (by decide)), ⟨fun j hj => ?_, fun j hj Y hY => ?_⟩, tellM_on c5 o (n _ (by decide) (by decide)) (fun f h1 h2 => n _ (by omega) (fun q => by
    have := (by decide : ∀ f ∈ [72, 73, 74], 72 ≤ f) f q
    omega)), ?_, ?_, ?_⟩
  · unfold f_X6_hold
    rw [M_wIl (n := 3) (m := 2) (by decide) hi (by decide), bnd, if_neg ne10, chk_t (ib_nI hi (by decide)), nI_clamp (by omega), tellM_i, lt_e, hM1]
    change (iter _ FU (nI 0, M1)).bind _ = _
    rw [w2, bnd, e17, chk_t (ib_nI (by omega) (by decide)), nI_clamp (by omega), lt_e, I2, I1, c2.2.1, w4]
  · rw [A72, upd_e]
    show _ = if (if j = i then some (aX A) else aS A j).isSome then 1 else 0
    by_cases c : j = i
    · rw [if_pos c, if_pos c]
      rfl
    · rw [if_neg c, if_neg c]
      exact c4.1 j hj
  · change (if j = i then some (aX A) else aS A j) = some Y at hY
    by_cases c : j = i
    · rw [if_pos c] at hY
      cases hY
      subst c
      refine mC_cg c1.1 (mC_of c2) (fun k hk => ?_) ?_ (fun m hm => y4 m hm) (fun m hm => z4 m hm)
      · rw [A73, a2 k hk]
      · rw [i4, c2.2.1]
    · rw [if_neg c] at hY
      have g := c4.2 j hj Y hY
      have hy := g.1.1
      refine mC_cg c1.1 g (fun k hk => ?_) ?_ (fun m hm => ?_) (fun m hm => ?_)
      · rw [A73, b2 _ (by omega)]
      · rw [x4 _ (by omega)]
      · rw [x4 _ (by omega)]
      · rw [x4 _ (by omega)]
  · rw [(o _ (n 2 (by decide) (by decide))).1, (o _ (n 1 (by decide) (by decide))).2.1]
    exact c6
  · rw [(o _ (n 17 (by decide) (by decide))).1]
    exact c7
  · rw [(o _ (n 9 (by decide) (by decide))).2.2.2.1]
    exact c8
theorem Q_hold (hA : RA A) (hC : RC kt A S) (hM : RM s A M) (x : Int32) : ans S M (f_X5_hold S x) (f_X6_hold M x) := by
  rcases vld x (n := 3) (by decide) with ⟨i, hi, rfl⟩ | hx
  · obtain ⟨S', w, rc⟩ := C_hold hC hi
    obtain ⟨M', w', rm⟩ := M_hold hM hi
    refine ⟨1, S', M', w, w', aSl A (sl_add (aS A) i (aX A)), kt, s, ⟨hA.1, hA.2.1, fun j hj Y hY => ?_, hA.2.2.2⟩, rc, rm⟩
    change (if j = i then some (aX A) else aS A j) = some Y at hY
    by_cases c : j = i
    · rw [if_pos c] at hY
      cases hY
      exact hA.1
    · rw [if_neg c] at hY
      exact hA.2.2.1 j hj Y hY
  · unfold f_X5_hold f_X6_hold
    rw [C_wOl (n := 3) (m := 3) rfl hx, M_wOl (n := 3) (m := 2) (by decide) (by decide) hx, bnd, bnd, if_pos rfl, if_pos rfl]
    exact ans_no hA hC hM 0 rfl rfl
end HR
