/-! RESTORED, TOLD, a man's room and rank. -/
section HS
variable {kt s : Nat} {A : AB} {S M : St}
theorem C_restore (hC : RC kt A S) {i : Nat} (hi : i < 3) {Y : CT} (hY : aS A i = some Y) : ∃ S', f_X5_restore S (nI i) = some (1, S') ∧ RC kt (aUp A Y 0 (aH A)) S' := by
  have hh := hC
  obtain ⟨c1, c2, c3, c4, c5, c6, c7, c8, c9⟩ := hC
  have hkt := c1.2.1
  have cs := c5.2 i hi Y hY
  obtain ⟨S1, w1, d1, o1⟩ := C_copyOf (k := 10) (k1 := 12 + i) (by omega) rfl c1 cs
  have hF : ∀ q, kF 10 q → q = ky 10 0 ∨ kP q ∨ kC 10 kt q := by
    rintro q ⟨f, hf, e⟩
    by_cases f0 : f = 0
    · left
      rw [e, f0]
    · right; right; left
      exact ⟨f, hf, by omega, e⟩
  have o : on (fun q => q = ky 10 0 ∨ kP q ∨ kC 10 kt q) S (up_I S1 (ky 6 2) 0) := on_trans (on_mono hF o1) (on_I _ _ _ (Or.inr (Or.inl (Or.inr (Or.inr rfl)))))
  have n0 : ∀ c f, f < 100 → c ≠ 10 → c ≠ 6 → (c = kt + 2 → f < 5) → ¬ (ky c f = ky 10 0 ∨ kP (ky c f) ∨ kC 10 kt (ky c f)) := by
    rintro c f hf h1 h2 h3 (e | q)
    · exact h1 ((ky_iff hf (by decide)).mp e).1
    · exact kPC_n hkt hf h1 h3 h2 q
  have hbit : f_X5_has (st_I S (ky 0 10)) (nI i) = some 1 := by
    have := bs_lt (fun j => (aS A j).isSome) 3
    rw [c5.1, has_nI (by omega) (by omega), bs_bit, hY]
    simp [hi]
  refine ⟨up_I S1 (ky 6 2) 0, ?_, tC_on c1 o (fun f hf => n0 _ _ (by omega) (by omega) (by omega) (fun e => by omega)) (fun f hf => n0 _ _ (by omega) (by omega) (by omega) (fun e => by omega)), cC_on d1 (K := fun q => q = ky 6 2) (on_I _ _ _ rfl) (fun f hf => ky_ne (by omega) (by decide) (by omega)), ?_, ?_, slotC_on c5 o (n0 _ _ (by decide) (by decide) (by decide) (fun e => by omega)) (fun j f hj hf => n0 _ _ (by omega) (by omega) (by omega) (fun e => by omega)), tellC_on c6 o (n0 _ _ (by decide) (by decide) (by decide) (fun e => by omega)) (n0 _ _ (by decide) (by decide) (by decide) (fun e => by omega)), ?_, ?_, ?_⟩
  · unfold f_X5_restore f_X2_clear
    rw [C_wIl (n := 3) (m := 3) rfl hi (by decide), bnd, if_neg ne10, chk_t (ib_nI hi (by decide)), hbit, bnd, if_neg ne10, chk_t (ib_nI hi (by decide)), nI_clamp (by omega), w1, bnd, lt_e, bnd]
  · rw [(o _ (n0 0 4 (by decide) (by decide) (by decide) (fun e => by omega))).2.2.2.2, (o _ (n0 0 5 (by decide) (by decide) (by decide) (fun e => by omega))).2.2.2.2]
    exact c3
  · obtain ⟨a, fi, b, c, d, e⟩ := c4
    refine ⟨by show 0 ≤ 20; omega, fi, b, ?_, gIs .., fun j hj => absurd hj (Nat.not_lt_zero _)⟩
    rw [gIn _ _ (ky_ne (by decide) (by decide) (by decide)), (o1 _ (fun q => by
      obtain ⟨g, hg, e⟩ := q
      have := (ky_iff (by decide) (by omega)).mp e
      omega)).1]
    exact c
  · rw [(o _ (n0 0 1 (by decide) (by decide) (by decide) (fun e => by omega))).1, (o _ (n0 0 0 (by decide) (by decide) (by decide) (fun e => by omega))).2.1]
    exact c7
  · rw [(o _ (n0 0 2 (by decide) (by decide) (by decide) (fun e => by omega))).1]
    exact c8
  · rw [(o _ (n0 1 0 (by decide) (by decide) (by decide) (fun e => by omega))).2.2.2.1]
    exact c9
theorem M_restore (hM : RM s A M) {i : Nat} (hi : i < 3) {Y : CT} (hY : aS A i = some Y) : ∃ M', f_X6_restore M (nI i) = some (1, M') ∧ RM s (aUp A Y 0 (aH A)) M' := by
  have hh := hM
  obtain ⟨c1, c2, c3, c4, c5, c6, c7, c8⟩ := hM
  have g := c4.2 i hi Y hY
  have h1 := g.1.1
  have e17 : (17 : Int32) * nI i = nI (17 * i) := pk_mul 17 i
  have e17a : nI (17 * i) + (1 : Int32) = nI (17 * i + 1) := nI_1 _
  have e17b : nI (17 * i) + (9 : Int32) = nI (17 * i + 9) := nI_add _ 9
  have e108 : (10800 : Int32) * nI i = nI (10800 * i) := pk_mul 10800 i
  have o1 : on (kM [52, 53, 54, 55, 61]) M (up_I M (ky 0 53) (nI (cn Y))) := on_I _ _ _ ⟨53, by decide, rfl⟩
  have I1 : st_I (up_I M (ky 0 53) (nI (cn Y))) (ky 0 53) = nI (cn Y) := gIs ..
  have A1 : st_A (up_I M (ky 0 53) (nI (cn Y))) = st_A M := rfl
  generalize hM1 : up_I M (ky 0 53) (nI (cn Y)) = M1 at o1 I1 A1
  have w2 := fill_loop (step := f_X6_restore_L35 (nI i)) M1 (ky 0 52) 0 (36 * cn Y + 36) 0 (fun k => st_A M (ky 0 73) (10800 * i + k)) (fun z => z) (by omega) (by omega) (fun k F q1 q2 hF => by
    unfold f_X6_restore_L35
    rw [gI_A, I1, nI36, if_neg (show ¬ nI (36 * cn Y + 36) ≤ nI k from nI_ge q2 (by omega)), e108, nI_add, chk_t (ib_nI (by omega) (by decide)), chk_t (ib_nI (by omega) (by decide)), nI_clamp (by omega), nI_clamp (by omega), lt_e, upA_upA, gAs, gAn _ _ (ky_ne (by decide) (by decide) (by decide)), A1, ← nI_succ, Nat.zero_add]) (fun F => by
    unfold f_X6_restore_L35
    rw [gI_A, I1, nI36, if_pos (show nI (36 * cn Y + 36) ≤ nI (36 * cn Y + 36) from nI_le (Nat.le_refl _) (by omega))])
  have o2 : on (kM [52, 53, 54, 55, 61]) M1 (up_A M1 (ky 0 52) (fun j => if 0 + 0 ≤ j ∧ j < 0 + (36 * cn Y + 36) then st_A M (ky 0 73) (10800 * i + (j - 0)) else st_A M1 (ky 0 52) j)) := on_A _ _ _ ⟨52, by decide, rfl⟩
  have a2 : ∀ j, j < 36 * cn Y + 36 → st_A (up_A M1 (ky 0 52) (fun j => if 0 + 0 ≤ j ∧ j < 0 + (36 * cn Y + 36) then st_A M (ky 0 73) (10800 * i + (j - 0)) else st_A M1 (ky 0 52) j)) (ky 0 52) j = st_A M (ky 0 73) (10800 * i + j) := fun j hj => by
    rw [gAs, if_pos (by omega), Nat.sub_zero]
  have I2 : st_I (up_A M1 (ky 0 52) (fun j => if 0 + 0 ≤ j ∧ j < 0 + (36 * cn Y + 36) then st_A M (ky 0 73) (10800 * i + (j - 0)) else st_A M1 (ky 0 52) j)) = st_I M1 := rfl
  generalize up_A M1 (ky 0 52) (fun j => if 0 + 0 ≤ j ∧ j < 0 + (36 * cn Y + 36) then st_A M (ky 0 73) (10800 * i + (j - 0)) else st_A M1 (ky 0 52) j) = M2 at w2 o2 a2 I2
  have o12 := on_trans o1 o2
  have k74 : st_A M2 (ky 0 74) = st_A M (ky 0 74) := (o12 _ (kM_n (by decide) (by decide) (by decide))).2.1
  obtain ⟨M4, w4, o4, i4, r4, y4, z4⟩ := loop_P (step := f_X6_restore_L75 (nI i)) M2 8 (fun z => z) (fun m z => on (kM [54, 55]) M2 z ∧ st_I z = st_I M2 ∧ st_A z (ky 0 52) = st_A M2 (ky 0 52) ∧ (∀ j, j < m → st_A z (ky 0 54) j = st_A M (ky 0 74) (17 * i + 1 + j)) ∧ ∀ j, j < m → st_A z (ky 0 55) j = st_A M (ky 0 74) (17 * i + 9 + j)) (by decide) ⟨on_refl _ _, rfl, rfl, fun a ha => absurd ha (Nat.not_lt_zero _), fun a ha => absurd ha (Nat.not_lt_zero _)⟩ (fun m z hm hz => by
    obtain ⟨zo, zI, z0, z1, z2⟩ := hz
    have y74 : st_A z (ky 0 74) = st_A M (ky 0 74) := ((zo _ (kM_n (by decide) (by decide) (by decide))).2.1).trans k74
    refine ⟨up_A (up_A z (ky 0 54) (upd (st_A z (ky 0 54)) m (st_A M (ky 0 74) (17 * i + 1 + m)))) (ky 0 55) (upd (st_A z (ky 0 55)) m (st_A M (ky 0 74) (17 * i + 9 + m))), ?_, on_trans zo (on_trans (on_A _ _ _ ⟨54, by decide, rfl⟩) (on_A _ _ _ ⟨55, by decide, rfl⟩)), zI, ?_, fun j hj => ?_, fun j hj => ?_⟩
    · unfold f_X6_restore_L75
      rw [if_neg (show ¬ (8 : Int32) ≤ nI m from nI_ge (b := 8) hm (by decide)), e17, e17a, nI_add, chk_t (ib_nI (by omega) (by decide)), chk_t (ib_nI (by omega) (by decide)), nI_clamp (by omega), nI_clamp (by omega), lt_e, e17b, nI_add, chk_t (ib_nI (by omega) (by decide)), chk_t (ib_nI (by omega) (by decide)), nI_clamp (by omega), lt_e, gAn _ _ (ky_ne (by decide) (by decide) (by decide)), gAn _ _ (ky_ne (by decide) (by decide) (by decide)), y74, ← nI_succ]
    · rw [gAn _ _ (ky_ne (by decide) (by decide) (by decide)), gAn _ _ (ky_ne (by decide) (by decide) (by decide)), z0]
    · rw [gAn _ _ (ky_ne (by decide) (by decide) (by decide)), gAs, upd_e]
      by_cases c : j = m
      · rw [if_pos c, c]
      · rw [if_neg c]
        exact z1 j (by omega)
    · rw [gAs, upd_e]
      by_cases c : j = m
      · rw [if_pos c, c]
      · rw [if_neg c]
        exact z2 j (by omega)) (fun z hz => by
    unfold f_X6_restore_L75
    rw [if_pos (show (8 : Int32) ≤ nI 8 from nI_le (Nat.le_refl 8) (by decide))])
  have o5 : on (kM [52, 53, 54, 55, 61]) M4 (up_I M4 (ky 0 61) 0) := on_I _ _ _ ⟨61, by decide, rfl⟩
  have hN : ∀ q, kM [52, 53, 54, 55, 61] q → kM fsN q := by
    rintro q ⟨f, hf, e⟩
    exact ⟨f, (by decide : ∀ f ∈ [52, 53, 54, 55, 61], f ∈ fsN) f hf, e⟩
  have o : on (kM [52, 53, 54, 55, 61]) M (up_I M4 (ky 0 61) 0) := on_trans o12 (on_trans (on_mono (fun q hq => by
    obtain ⟨f, hf, e⟩ := hq
    exact ⟨f, (by decide : ∀ f ∈ [54, 55], f ∈ [52, 53, 54, 55, 61]) f hf, e⟩) o4) o5)
  refine ⟨up_I M4 (ky 0 61) 0, ?_, RM_new hh (on_mono hN o) (tM_fs (by decide) c1 o) (mC_cg c1.1 g (fun k hk => ?_) ?_ (fun m hm => y4 m hm) (fun m hm => z4 m hm)) ⟨by omega, gIs .., fun j hj => absurd hj (Nat.not_lt_zero _)⟩⟩
  · unfold f_X6_restore
    have hne : ¬ (if (aS A i).isSome = true then (1 : Int32) else 0) = 0 := by
      rw [hY]
      exact ne10
    rw [M_wIl (n := 3) (m := 2) (by decide) hi (by decide), bnd, if_neg ne10, chk_t (ib_nI hi (by decide)), nI_clamp (by omega), c4.1 i hi, if_neg hne, e17, chk_t (ib_nI (by omega) (by decide)), nI_clamp (by omega), g.2.1, lt_e, hM1]
    change (iter _ FU (nI 0, M1)).bind _ = _
    rw [w2, bnd, w4, bnd, lt_e]
  · rw [gA_I, r4, a2 k hk]
  · rw [gIn _ _ (ky_ne (by decide) (by decide) (by decide)), i4, I2, I1, g.2.1]
theorem Q_restore (hA : RA A) (hC : RC kt A S) (hM : RM s A M) (x : Int32) : ans S M (f_X5_restore S x) (f_X6_restore M x) := by
  rcases vld x (n := 3) (by decide) with ⟨i, hi, rfl⟩ | hx
  · cases hY : aS A i with
    | some Y =>
      obtain ⟨S', w, rc⟩ := C_restore hC hi hY
      obtain ⟨M', w', rm⟩ := M_restore hM hi hY
      exact ⟨1, S', M', w, w', aUp A Y 0 (aH A), kt, s, ⟨hA.2.2.1 i hi Y hY, ⟨fun j hj => absurd hj (Nat.not_lt_zero _), fun j hj => absurd hj (Nat.not_lt_zero _), fun h => absurd h (Nat.not_lt_zero _)⟩, hA.2.2⟩, rc, rm⟩
    | none =>
      have hbit : f_X5_has (st_I S (ky 0 10)) (nI i) = some 0 := by
        have := bs_lt (fun j => (aS A j).isSome) 3
        rw [hC.2.2.2.2.1.1, has_nI (by omega) (by omega), bs_bit, hY]
        simp
      have hz : (if (aS A i).isSome = true then (1 : Int32) else 0) = 0 := by
        rw [hY]
        decide
      unfold f_X5_restore f_X6_restore
      rw [C_wIl (n := 3) (m := 3) rfl hi (by decide), M_wIl (n := 3) (m := 2) (by decide) hi (by decide), bnd, bnd, if_neg ne10, if_neg ne10, chk_t (ib_nI hi (by decide)), hbit, bnd, if_pos rfl, chk_t (ib_nI hi (by decide)), nI_clamp (by omega), hM.2.2.2.1.1 i hi, if_pos hz]
      exact ans_no hA hC hM 0 rfl rfl
  · unfold f_X5_restore f_X6_restore
    rw [C_wOl (n := 3) (m := 3) rfl hx, M_wOl (n := 3) (m := 2) (by decide) (by decide) hx, bnd, bnd, if_pos rfl, if_pos rfl]
    exact ans_no hA hC hM 0 rfl rfl
def kT : Nat → Prop := fun q => q = ky 0 11 ∨ q = ky 0 12
theorem RC_tell (h : RC kt A S) {S' : St} (o : on kT S S') {k : Nat} {L : Nat → Nat × Nat × Nat × Bool} (t : tellC k L S') : RC kt (aTl A k L) S' := by
  obtain ⟨c1, c2, c3, c4, c5, c6, c7, c8, c9⟩ := h
  have n0 : ∀ c f, f < 100 → (c = 0 → f < 11) → ¬ kT (ky c f) := by
    intro c f hf hc q
    rcases q with e | e
    · have := (ky_iff hf (by decide)).mp e
      have := hc this.1
      omega
    · have := (ky_iff hf (by decide)).mp e
      have := hc this.1
      omega
  have hkt := c1.2.1
  refine ⟨tC_on c1 o (fun f hf => n0 _ _ (by omega) (fun e => by omega)) (fun f hf => n0 _ _ (by omega) (fun e => by omega)), cC_on c2 o (fun f hf => n0 _ _ (by omega) (fun e => by omega)), ?_, hC_on c4 o (fun f hf => n0 _ _ (by omega) (fun e => by omega)), slotC_on c5 o (n0 _ _ (by decide) (fun _ => by decide)) (fun j f hj hf => n0 _ _ (by omega) (fun e => by omega)), t, ?_, ?_, ?_⟩
  · rw [(o _ (n0 0 4 (by decide) (fun _ => by decide))).2.2.2.2, (o _ (n0 0 5 (by decide) (fun _ => by decide))).2.2.2.2]
    exact c3
  · rw [(o _ (n0 0 1 (by decide) (fun _ => by decide))).1, (o _ (n0 0 0 (by decide) (fun _ => by decide))).2.1]
    exact c7
  · rw [(o _ (n0 0 2 (by decide) (fun _ => by decide))).1]
    exact c8
  · rw [(o _ (n0 1 0 (by decide) (fun e => by omega))).2.2.2.1]
    exact c9
abbrev fsT : List Nat := [67, 68, 69, 70, 71]
theorem RM_tell (h : RM s A M) {M' : St} (o : on (kM fsT) M M') {k : Nat} {L : Nat → Nat × Nat × Nat × Bool} (t : tellM k L M') : RM s (aTl A k L) M' := by
  obtain ⟨c1, c2, c3, c4, c5, c6, c7, c8⟩ := h
  have n : ∀ f, f < 100 → f ∉ fsT → ¬ kM fsT (ky 0 f) := fun f hf hn => kM_n (by decide) hf hn
  refine ⟨tM_fs (by decide) c1 o, cM_on c2 o (n _ (by decide) (by decide)) (n _ (by decide) (by decide)) (n _ (by decide) (by decide)) (n _ (by decide) (by decide)), hM_on c3 o (n _ (by decide) (by decide)) (n _ (by decide) (by decide)), slotM_on c4 o (n _ (by decide) (by decide)) (n _ (by decide) (by decide)) (n _ (by decide) (by decide)), t, ?_, ?_, ?_⟩
  · rw [(o _ (n 2 (by decide) (by decide))).1, (o _ (n 1 (by decide) (by decide))).2.1]
    exact c6
  · rw [(o _ (n 17 (by decide) (by decide))).1]
    exact c7
  · rw [(o _ (n 9 (by decide) (by decide))).2.2.2.1]
    exact c8
theorem Q_forget (hA : RA A) (hC : RC kt A S) (hM : RM s A M) : ans S M (f_X5_forget S) (f_X6_forget M) := by
  unfold f_X5_forget f_X6_forget
  rw [hC.2.2.2.2.2.1.1, hM.2.2.2.2.1.1, lt_e, lt_e]
  exact ⟨_, _, _, rfl, rfl, aTl A 0 (aL A), kt, s, ⟨hA.1, hA.2.1, hA.2.2.1, by show 0 ≤ 20; omega, fun j hj => absurd hj (Nat.not_lt_zero _), hA.2.2.2.2.2⟩, RC_tell hC (on_I _ _ _ (Or.inr rfl)) ⟨gIs .., fun j hj => absurd hj (Nat.not_lt_zero _)⟩, RM_tell hM (on_I _ _ _ ⟨67, by decide, rfl⟩) ⟨gIs .., fun j hj => absurd hj (Nat.not_lt_zero _)⟩⟩
theorem Q_tell (hA : RA A) (hC : RC kt A S) (hM : RM s A M) (x y z : Int32) (b : Bool) : ans S M (f_X5_tell S x y z (if b then 1 else 0)) (f_X6_tell M x y z (if b then 1 else 0)) := by
  have b2 := hC.1.1.2.2.1
  have b3 := hC.1.1.2.2.2.1
  have hk := hA.2.2.2.1
  have tc := hC.2.2.2.2.2.1
  have tm := hM.2.2.2.2.1
  have L11 : wk_n wd_C (ky 0 11) = 80 := lnC (show cl_C 0 = 5 from rfl) (by decide) rfl
  unfold f_X5_tell f_X6_tell
  rw [tc.1, tm.1]
  by_cases c : aK A = 20
  · rw [if_neg (show ¬ nI (aK A) < (20 : Int32) from nI_nlt (b := 20) (by omega) (by omega)), if_pos (show nI (aK A) = (20 : Int32) by rw [c]; rfl)]
    unfold f_X5_tell_J14
    rw [if_neg ne10]
    exact ans_no hA hC hM (-1) rfl rfl
  · rw [if_pos (show nI (aK A) < (20 : Int32) from nI_lt (b := 20) (by omega) (by decide)), if_neg (show ¬ nI (aK A) = (20 : Int32) from fun e => c ((nI_eq (b := 20) (by omega) (by decide)).mp e))]
    unfold f_X5_tell_J14
    rw [if_pos rfl]
    rcases vld x (n := tn (aT A) 3) (by omega) with ⟨m, hm, rfl⟩ | hx
    · rw [C_mirI hC hm, M_mirI hM hm, bnd, bnd, if_neg ne10, if_neg ne10]
      rcases vld y (n := 100) (by decide) with ⟨t, ht, rfl⟩ | hy
      · rw [C_wIl (n := 100) (m := 100) rfl ht (by decide), M_wIl (n := 100) (m := 99) (by decide) ht (by decide), bnd, bnd, if_neg ne10, if_neg ne10]
        rcases vld z (n := tn (aT A) 2) (by omega) with ⟨a, ha, rfl⟩ | hz
        · rw [C_manI hC ha, M_manI hM ha, bnd, bnd, if_neg ne10, if_neg ne10, tc.1]
          have e4 : nI (aK A) * (4 : Int32) = nI (aK A * 4) := pk_mul _ 4
          have e41 : nI (aK A * 4) + (1 : Int32) = nI (aK A * 4 + 1) := nI_1 _
          have e42 : nI (aK A * 4) + (2 : Int32) = nI (aK A * 4 + 2) := nI_add _ 2
          have e43 : nI (aK A * 4) + (3 : Int32) = nI (aK A * 4 + 3) := nI_add _ 3
          let L : Nat → Nat × Nat × Nat × Bool := fun j => if j = aK A then (m, t, a, b) else aL A j
          have hLn : L (aK A) = (m, t, a, b) := if_pos rfl
          have hLo : ∀ j, j < aK A → L j = aL A j := fun j hj => if_neg (by omega)
          have hLc : ∀ j, j < aK A + 1 → j ≠ aK A → j < aK A := fun j _ _ => by omega
          have hJ : ∀ (Z : St) (y0 : Int32), st_I Z (ky 0 12) = nI (aK A) → f_X5_tell_J108 Z y0 (nI (aK A * 4 + 3)) = some (nI (aK A), up_I (up_A Z (ky 0 11) (upd (st_A Z (ky 0 11)) (aK A * 4 + 3) y0)) (ky 0 12) (nI (aK A + 1))) := by
            intro Z y0 hZ
            unfold f_X5_tell_J108
            rw [put_nI L11 (by omega) (by decide), bnd, gI_A, hZ, nI_1, lt_e, gIs, nI_pred]
          have hfin : (if (if b = true then (1 : Int32) else 0) = 0 then f_X5_tell_J108 (up_A S (ky 0 11) (upd (upd (upd (st_A S (ky 0 11)) (aK A * 4) (nI m)) (aK A * 4 + 1) (nI t)) (aK A * 4 + 2) (nI a))) 0 (nI (aK A * 4 + 3)) else f_X5_tell_J108 (up_A S (ky 0 11) (upd (upd (upd (st_A S (ky 0 11)) (aK A * 4) (nI m)) (aK A * 4 + 1) (nI t)) (aK A * 4 + 2) (nI a))) 1 (nI (aK A * 4 + 3))) = some (nI (aK A), up_I (up_A S (ky 0 11) (upd (upd (upd (upd (st_A S (ky 0 11)) (aK A * 4) (nI m)) (aK A * 4 + 1) (nI t)) (aK A * 4 + 2) (nI a)) (aK A * 4 + 3) (if b then 1 else 0))) (ky 0 12) (nI (aK A + 1))) := by
            cases b
            · rw [if_pos (by rfl), hJ (up_A S (ky 0 11) _) _ tc.1, upA_upA, gAs]
              rfl
            · rw [if_neg (by decide), hJ (up_A S (ky 0 11) _) _ tc.1, upA_upA, gAs]
              rfl
          refine ⟨nI (aK A), up_I (up_A S (ky 0 11) (upd (upd (upd (upd (st_A S (ky 0 11)) (aK A * 4) (nI m)) (aK A * 4 + 1) (nI t)) (aK A * 4 + 2) (nI a)) (aK A * 4 + 3) (if b then 1 else 0))) (ky 0 12) (nI (aK A + 1)), up_I (up_A (up_A (up_A (up_A M (ky 0 68) (upd (st_A M (ky 0 68)) (aK A) (nI m))) (ky 0 69) (upd (st_A M (ky 0 69)) (aK A) (nI t))) (ky 0 70) (upd (st_A M (ky 0 70)) (aK A) (nI a))) (ky 0 71) (upd (st_A M (ky 0 71)) (aK A) (if b then 1 else 0))) (ky 0 67) (nI (aK A + 1)), ?_, ?_, aTl A (aK A + 1) L, kt, s, ⟨hA.1, hA.2.1, hA.2.2.1, by show aK A + 1 ≤ 20; omega, fun j (hj : j < aK A + 1) => ?_, hA.2.2.2.2.2⟩, RC_tell hC (on_trans (on_A _ _ _ (Or.inl rfl)) (on_I _ _ _ (Or.inr rfl))) ⟨gIs .., fun j hj => ?_⟩, RM_tell hM (on_trans (on_A _ _ _ ⟨68, by decide, rfl⟩) (on_trans (on_A _ _ _ ⟨69, by decide, rfl⟩) (on_trans (on_A _ _ _ ⟨70, by decide, rfl⟩) (on_trans (on_A _ _ _ ⟨71, by decide, rfl⟩) (on_I _ _ _ ⟨67, by decide, rfl⟩))))) ⟨gIs .., fun j hj => ?_⟩⟩
          · rw [e4, put_nI L11 (by omega) (by decide), bnd, e41, put_nI L11 (by omega) (by decide), bnd, upA_upA, gAs, e42, put_nI L11 (by omega) (by decide), bnd, upA_upA, gAs, e43]
            exact hfin
          · have hv : vp_nar .boolean (if b = true then (1 : Int32) else 0) = if b = true then 1 else 0 := by
              cases b
              · exact tellM_0
              · exact tellM_i
            rw [chk_t (ib_nI (by omega) (by decide)), nI_clamp (by omega), lt_e, gI_A, tm.1, chk_t (ib_nI (by omega) (by decide)), nI_clamp (by omega), lt_e, gI_A, gI_A, tm.1, chk_t (ib_nI (by omega) (by decide)), nI_clamp (by omega), lt_e, gI_A, gI_A, gI_A, tm.1, chk_t (ib_nI (by omega) (by decide)), nI_clamp (by omega), lt_e, gI_A, gI_A, gI_A, gI_A, tm.1, nI_1, lt_e, gIs, nI_pred, hv, gAn _ _ (ky_ne (by decide) (by decide) (by decide)), gAn _ _ (ky_ne (by decide) (by decide) (by decide)), gAn _ _ (ky_ne (by decide) (by decide) (by decide)), gAn _ _ (ky_ne (by decide) (by decide) (by decide)), gAn _ _ (ky_ne (by decide) (by decide) (by decide)), gAn _ _ (ky_ne (by decide) (by decide) (by decide))]
          · by_cases d : j = aK A
            · rw [d]
              change (L (aK A)).1 < _ ∧ (L (aK A)).2.1 < _ ∧ (L (aK A)).2.2.1 < _
              rw [hLn]
              exact ⟨hm, ht, ha⟩
            · change (L j).1 < _ ∧ (L j).2.1 < _ ∧ (L j).2.2.1 < _
              rw [hLo j (by omega)]
              exact hA.2.2.2.2.1 j (by omega)
          · rw [gA_I, gAs]
            by_cases d : j = aK A
            · subst d
              rw [hLn]
              refine ⟨?_, ?_, ?_, ?_⟩
              · rw [upd_n (by omega), upd_n (by omega), upd_n (by omega), show 4 * aK A = aK A * 4 by omega, upd_s]
              · rw [upd_n (by omega), upd_n (by omega), show 4 * aK A + 1 = aK A * 4 + 1 by omega, upd_s]
              · rw [upd_n (by omega), show 4 * aK A + 2 = aK A * 4 + 2 by omega, upd_s]
              · rw [show 4 * aK A + 3 = aK A * 4 + 3 by omega, upd_s]
            · rw [hLo j (by omega), upd_n (by omega), upd_n (by omega), upd_n (by omega), upd_n (by omega), upd_n (by omega), upd_n (by omega), upd_n (by omega), upd_n (by omega), upd_n (by omega), upd_n (by omega), upd_n (by omega), upd_n (by omega), upd_n (by omega), upd_n (by omega), upd_n (by omega), upd_n (by omega)]
              exact tc.2 j (by omega)
          · have f1 : ∀ (v w x y : Nat → Int32), st_A (up_I (up_A (up_A (up_A (up_A M (ky 0 68) v) (ky 0 69) w) (ky 0 70) x) (ky 0 71) y) (ky 0 67) (nI (aK A + 1))) (ky 0 68) = v ∧ st_A (up_I (up_A (up_A (up_A (up_A M (ky 0 68) v) (ky 0 69) w) (ky 0 70) x) (ky 0 71) y) (ky 0 67) (nI (aK A + 1))) (ky 0 69) = w ∧ st_A (up_I (up_A (up_A (up_A (up_A M (ky 0 68) v) (ky 0 69) w) (ky 0 70) x) (ky 0 71) y) (ky 0 67) (nI (aK A + 1))) (ky 0 70) = x ∧ st_A (up_I (up_A (up_A (up_A (up_A M (ky 0 68) v) (ky 0 69) w) (ky 0 70) x) (ky 0 71) y) (ky 0 67) (nI (aK A + 1))) (ky 0 71) = y := by
              intro v w x y
              refine ⟨?_, ?_, ?_, ?_⟩
              · rw [gA_I, gAn _ _ (ky_ne (by decide) (by decide) (by decide)), gAn _ _ (ky_ne (by decide) (by decide) (by decide)), gAn _ _ (ky_ne (by decide) (by decide) (by decide)), gAs]
              · rw [gA_I, gAn _ _ (ky_ne (by decide) (by decide) (by decide)), gAn _ _ (ky_ne (by decide) (by decide) (by decide)), gAs]
              · rw [gA_I, gAn _ _ (ky_ne (by decide) (by decide) (by decide)), gAs]
              · rw [gA_I, gAs]
            rw [(f1 _ _ _ _).1, (f1 _ _ _ _).2.1, (f1 _ _ _ _).2.2.1, (f1 _ _ _ _).2.2.2]
            by_cases d : j = aK A
            · subst d
              rw [hLn, upd_s, upd_s, upd_s, upd_s]
              exact ⟨rfl, rfl, rfl, rfl⟩
            · rw [hLo j (by omega), upd_n d, upd_n d, upd_n d, upd_n d]
              exact tm.2 j (by omega)
        · rw [C_manO hC hz, M_manO hM hz, bnd, bnd, if_pos rfl, if_pos rfl]
          exact ans_no hA hC hM (-1) rfl rfl
      · rw [C_wOl (n := 100) (m := 100) rfl hy, M_wOl (n := 100) (m := 99) (by decide) (by decide) hy, bnd, bnd, if_pos rfl, if_pos rfl]
        exact ans_no hA hC hM (-1) rfl rfl
    · rw [C_mirO hC hx, M_mirO hM hx, bnd, bnd, if_pos rfl, if_pos rfl]
      exact ans_no hA hC hM (-1) rfl rfl
end HS
