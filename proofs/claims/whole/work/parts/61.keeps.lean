/-! WHAT CAN BE UNDONE: the reference's. -/
def hE_M (A : Nat → Int32) (b : Nat) (T : TX) (Y : CT) : Prop := A b = nI (cn Y) ∧ (∀ a, a < tn T 2 → A (b + 1 + a) = nI (cf Y 0 (cn Y) a) ∧ A (b + 7 + a) = nI (cf Y 1 (cn Y) a)) ∧ (∀ m, m < tn T 3 → A (b + 13 + m) = nI (cf Y 2 (cn Y) m) ∧ A (b + 21 + m) = (if cw Y (cn Y) m then 1 else 0) ∧ A (b + 29 + m) = nI (cf Y 3 (cn Y) m)) ∧ ∀ m, m < tn T 3 → A (b + 37 + m) = bkM (ck Y m) ∧ (ck Y m ≠ none → A (b + 45 + m) = oI (cz Y m))
theorem hE_M_cg {A A' : Nat → Int32} {b b' : Nat} {T : TX} {Y : CT} (hT : tb T) (h : hE_M A b T Y) (e : ∀ j, j < 53 → A' (b' + j) = A (b + j)) : hE_M A' b' T Y := by
  have h6 := hT.2.2.1
  have h8 := hT.2.2.2.1
  have e' : ∀ i j, i + j < 53 → A' (b' + i + j) = A (b + i + j) := fun i j hij => by rw [Nat.add_assoc, e _ hij, Nat.add_assoc]
  refine ⟨?_, fun a ha => ?_, fun m hm => ?_, fun m hm => ?_⟩
  · have := e 0 (by decide)
    rw [Nat.add_zero, Nat.add_zero] at this
    rw [this]; exact h.1
  · rw [e' _ _ (by omega), e' _ _ (by omega)]; exact h.2.1 a ha
  · rw [e' _ _ (by omega), e' _ _ (by omega), e' _ _ (by omega)]; exact h.2.2.1 m hm
  · rw [e' _ _ (by omega), e' _ _ (by omega)]; exact h.2.2.2 m hm
def hM (u : Nat) (H : Nat → CT) (S : St) (T : TX) : Prop := u ≤ 20 ∧ st_I S (ky 0 61) = nI u ∧ ∀ j, j < u → hE_M (st_A S (ky 0 62)) (53 * j) T (H j)
abbrev fsH : List Nat := [61, 62]
theorem M_keepsJ {s u : Nat} {H : Nat → CT} {S : St} {T : TX} {X X' : CT} (hT : tM s S T) (h0 : cM 52 53 54 55 S T X) (h : cM 56 57 58 59 S T X') (hp : pre T X X') (hu : u < 20) (hI : st_I S (ky 0 61) = nI u) (hr : ∀ j, j < u → hE_M (st_A S (ky 0 62)) (53 * j) T (H j)) : ∃ S', f_X6_keeps_J49 S = some S' ∧ tM s S' T ∧ cM 52 53 54 55 S' T X' ∧ hM (u + 1) (fun j => if j = u then X else H j) S' T ∧ on (kM [52, 53, 54, 55, 61, 62]) S S' := by
  have h1 := h0.1.1
  have h6 := hT.1.2.2.1
  have h8 := hT.1.2.2.2.1
  have e53 : (53 : Int32) * nI u = nI (53 * u) := pk_mul 53 u
  have e1 : nI (53 * u) + (1 : Int32) = nI (53 * u + 1) := nI_1 _
  have e37 : nI (53 * u) + (37 : Int32) = nI (53 * u + 37) := nI_add _ 37
  have e45 : nI (53 * u) + (45 : Int32) = nI (53 * u + 45) := nI_add _ 45
  have e36 : (36 : Int32) * nI (cn X) = nI (36 * cn X) := pk_mul 36 _
  have o1 : on (kM fsH) S (up_A S (ky 0 62) (upd (st_A S (ky 0 62)) (53 * u) (nI (cn X)))) := on_A S _ _ ⟨62, by decide, rfl⟩
  have a1 : st_A (up_A S (ky 0 62) (upd (st_A S (ky 0 62)) (53 * u) (nI (cn X)))) (ky 0 62) = upd (st_A S (ky 0 62)) (53 * u) (nI (cn X)) := gAs ..
  have I1 : st_I (up_A S (ky 0 62) (upd (st_A S (ky 0 62)) (53 * u) (nI (cn X)))) = st_I S := rfl
  generalize hS1 : up_A S (ky 0 62) (upd (st_A S (ky 0 62)) (53 * u) (nI (cn X))) = S1 at o1 a1 I1
  have k52 : st_A S1 (ky 0 52) = st_A S (ky 0 52) := (o1 _ (kM_n (by decide) (by decide) (by decide))).2.1
  have w2 := fill_loop (step := f_X6_keeps_L69 (nI (53 * u))) S1 (ky 0 62) 0 36 (53 * u + 1) (fun i => st_A S (ky 0 52) (36 * cn X + i)) (fun z => z) (by decide) (by decide) (fun i A q1 q2 hA => by
    unfold f_X6_keeps_L69
    rw [if_neg (show ¬ (36 : Int32) ≤ nI i from nI_ge (b := 36) q2 (by decide)), gI_A, I1, h0.2.1, e36, nI_add, chk_t (ib_nI (by omega) (by decide)), e1, nI_add, chk_t (ib_nI (by omega) (by decide)), nI_clamp (by omega), nI_clamp (by omega), lt_e, upA_upA, gAs, gAn _ _ (ky_ne (by decide) (by decide) (by decide)), k52, ← nI_succ]) (fun A => by
    unfold f_X6_keeps_L69
    rw [if_pos (show (36 : Int32) ≤ nI 36 from nI_le (Nat.le_refl 36) (by decide))])
  have o2 : on (kM fsH) S1 (up_A S1 (ky 0 62) (fun j => if 53 * u + 1 + 0 ≤ j ∧ j < 53 * u + 1 + 36 then st_A S (ky 0 52) (36 * cn X + (j - (53 * u + 1))) else st_A S1 (ky 0 62) j)) := on_A S1 _ _ ⟨62, by decide, rfl⟩
  have a2 : ∀ j, j < 36 → st_A (up_A S1 (ky 0 62) (fun j => if 53 * u + 1 + 0 ≤ j ∧ j < 53 * u + 1 + 36 then st_A S (ky 0 52) (36 * cn X + (j - (53 * u + 1))) else st_A S1 (ky 0 62) j)) (ky 0 62) (53 * u + 1 + j) = st_A S (ky 0 52) (36 * cn X + j) := fun j hj => by
    rw [gAs, if_pos (by omega), show 53 * u + 1 + j - (53 * u + 1) = j by omega]
  have b2 : st_A (up_A S1 (ky 0 62) (fun j => if 53 * u + 1 + 0 ≤ j ∧ j < 53 * u + 1 + 36 then st_A S (ky 0 52) (36 * cn X + (j - (53 * u + 1))) else st_A S1 (ky 0 62) j)) (ky 0 62) (53 * u) = nI (cn X) := by
    rw [gAs, if_neg (by omega), a1, upd_s]
  have d2 : ∀ j, j < 53 * u → st_A (up_A S1 (ky 0 62) (fun j => if 53 * u + 1 + 0 ≤ j ∧ j < 53 * u + 1 + 36 then st_A S (ky 0 52) (36 * cn X + (j - (53 * u + 1))) else st_A S1 (ky 0 62) j)) (ky 0 62) j = st_A S (ky 0 62) j := fun j hj => by
    rw [gAs, if_neg (by omega), a1, upd_n (by omega)]
  have I2 : st_I (up_A S1 (ky 0 62) (fun j => if 53 * u + 1 + 0 ≤ j ∧ j < 53 * u + 1 + 36 then st_A S (ky 0 52) (36 * cn X + (j - (53 * u + 1))) else st_A S1 (ky 0 62) j)) = st_I S1 := rfl
  generalize up_A S1 (ky 0 62) (fun j => if 53 * u + 1 + 0 ≤ j ∧ j < 53 * u + 1 + 36 then st_A S (ky 0 52) (36 * cn X + (j - (53 * u + 1))) else st_A S1 (ky 0 62) j) = S2 at w2 o2 a2 b2 d2 I2
  have o12 := on_trans o1 o2
  obtain ⟨S3, w3, o3, I3, l3, b3, c3⟩ := loop_P (step := f_X6_keeps_L107 (nI (53 * u))) S2 8 (fun z => z) (fun i z => on (kM fsH) S2 z ∧ st_I z = st_I S2 ∧ (∀ j, j < 53 * u + 37 → st_A z (ky 0 62) j = st_A S2 (ky 0 62) j) ∧ (∀ m, m < i → st_A z (ky 0 62) (53 * u + 37 + m) = st_A S (ky 0 54) m) ∧ ∀ m, m < i → st_A z (ky 0 62) (53 * u + 45 + m) = st_A S (ky 0 55) m) (by decide) ⟨on_refl _ _, rfl, fun _ _ => rfl, fun a ha => absurd ha (Nat.not_lt_zero _), fun a ha => absurd ha (Nat.not_lt_zero _)⟩ (fun i z hi hz => by
    obtain ⟨zo, zI, z0, z1, z2⟩ := hz
    have k54 : st_A z (ky 0 54) = st_A S (ky 0 54) := ((on_trans o12 zo) _ (kM_n (by decide) (by decide) (by decide))).2.1
    have k55 : st_A z (ky 0 55) = st_A S (ky 0 55) := ((on_trans o12 zo) _ (kM_n (by decide) (by decide) (by decide))).2.1
    refine ⟨up_A z (ky 0 62) (upd (upd (st_A z (ky 0 62)) (53 * u + 37 + i) (st_A S (ky 0 54) i)) (53 * u + 45 + i) (st_A S (ky 0 55) i)), ?_, on_trans zo (on_A _ _ _ ⟨62, by decide, rfl⟩), zI, fun j hj => ?_, fun m hm => ?_, fun m hm => ?_⟩
    · unfold f_X6_keeps_L107
      rw [if_neg (show ¬ (8 : Int32) ≤ nI i from nI_ge (b := 8) hi (by decide)), chk_t (ib_nI (by omega) (by decide)), e37, nI_add, chk_t (ib_nI (by omega) (by decide)), nI_clamp (by omega), nI_clamp (by omega), lt_e, chk_t (ib_nI (by omega) (by decide)), e45, nI_add, chk_t (ib_nI (by omega) (by decide)), nI_clamp (by omega), lt_e, upA_upA, gAs, gAn _ _ (ky_ne (by decide) (by decide) (by decide)), k54, k55, ← nI_succ]
    · rw [gAs, upd_n (by omega), upd_n (by omega)]
      exact z0 j hj
    · rw [gAs, upd_n (by omega), upd_e]
      by_cases c : 53 * u + 37 + m = 53 * u + 37 + i
      · rw [if_pos c, show m = i by omega]
      · rw [if_neg c]
        exact z1 m (by omega)
    · rw [gAs, upd_e]
      by_cases c : 53 * u + 45 + m = 53 * u + 45 + i
      · rw [if_pos c, show m = i by omega]
      · rw [if_neg c, upd_n (by omega)]
        exact z2 m (by omega)) (fun z hz => by
    unfold f_X6_keeps_L107
    rw [if_pos (show (8 : Int32) ≤ nI 8 from nI_le (Nat.le_refl 8) (by decide))])
  have o4 := on_I (K := kM fsH) S3 (ky 0 61) (nI (u + 1)) ⟨61, by decide, rfl⟩
  have oA : on (kM fsH) S (up_I S3 (ky 0 61) (nI (u + 1))) := on_trans o12 (on_trans o3 o4)
  have T4 := tM_fs (by decide) hT oA
  have C4 := cM_on h oA (kM_n (by decide) (by decide) (by decide)) (kM_n (by decide) (by decide) (by decide)) (kM_n (by decide) (by decide) (by decide)) (kM_n (by decide) (by decide) (by decide))
  have C0 := cM_on h0 oA (kM_n (by decide) (by decide) (by decide)) (kM_n (by decide) (by decide) (by decide)) (kM_n (by decide) (by decide) (by decide)) (kM_n (by decide) (by decide) (by decide))
  obtain ⟨S5, w5, T5, C5, o5⟩ := M_keepsRows2 T4 C0 C4 hp
  have A5 : st_A S5 (ky 0 62) = st_A S3 (ky 0 62) := (o5 _ (kM_n (by decide) (by decide) (by decide))).2.1
  have m1 : ∀ q, kM fsH q → kM [52, 53, 54, 55, 61, 62] q := by
    rintro q ⟨f, hf, e⟩
    exact ⟨f, (by decide : ∀ f ∈ fsH, f ∈ [52, 53, 54, 55, 61, 62]) f hf, e⟩
  have m2 : ∀ q, kM fsK q → kM [52, 53, 54, 55, 61, 62] q := by
    rintro q ⟨f, hf, e⟩
    exact ⟨f, (by decide : ∀ f ∈ fsK, f ∈ [52, 53, 54, 55, 61, 62]) f hf, e⟩
  refine ⟨S5, ?_, T5, C5, ⟨by omega, ?_, fun j hj => ?_⟩, on_trans (on_mono m1 oA) (on_mono m2 o5)⟩
  · unfold f_X6_keeps_J49
    rw [hI, e53, chk_t (ib_nI (by omega) (by decide)), nI_clamp (by omega), lt_e, h0.2.1, hS1]
    change (iter _ FU (nI 0, S1)).bind _ = _
    rw [w2, bnd, w3, bnd, I3, I2, I1, hI, lt_e, nI_1, C0.2.1, w5, bnd]
  · rw [(o5 _ (kM_n (by decide) (by decide) (by decide))).1, gIs]
  · rw [A5]
    show hE_M _ _ T (if j = u then X else H j)
    by_cases c : j = u
    · rw [if_pos c, c]
      have g := h0.2.2.1 (cn X) (Nat.le_refl _)
      have q0 : ∀ i, i < 36 → st_A S3 (ky 0 62) (53 * u + 1 + i) = st_A S (ky 0 52) (36 * cn X + i) := fun i hi => by rw [l3 _ (by omega), a2 i hi]
      refine ⟨?_, fun a ha => ⟨?_, ?_⟩, fun m hm => ⟨?_, ?_, ?_⟩, fun m hm => ?_⟩
      · rw [l3 _ (by omega), b2]
      · rw [q0 a (by omega)]
        exact (g.1 a ha).1
      · rw [show 53 * u + 7 + a = 53 * u + 1 + (6 + a) by omega, q0 _ (by omega), show 36 * cn X + (6 + a) = 36 * cn X + 6 + a by omega]
        exact (g.1 a ha).2
      · rw [show 53 * u + 13 + m = 53 * u + 1 + (12 + m) by omega, q0 _ (by omega), show 36 * cn X + (12 + m) = 36 * cn X + 12 + m by omega]
        exact (g.2 m hm).1
      · rw [show 53 * u + 21 + m = 53 * u + 1 + (20 + m) by omega, q0 _ (by omega), show 36 * cn X + (20 + m) = 36 * cn X + 20 + m by omega]
        exact (g.2 m hm).2.1
      · rw [show 53 * u + 29 + m = 53 * u + 1 + (28 + m) by omega, q0 _ (by omega), show 36 * cn X + (28 + m) = 36 * cn X + 28 + m by omega]
        exact (g.2 m hm).2.2 trivial
      · rw [b3 m (by omega), c3 m (by omega)]
        exact h0.2.2.2 m hm
    · rw [if_neg c]
      refine hE_M_cg hT.1 (hr j (by omega)) (fun i hi => ?_)
      rw [l3 _ (by omega), d2 _ (by omega)]
theorem M_keeps {s u : Nat} {H : Nat → CT} {S : St} {T : TX} {X X' : CT} (hT : tM s S T) (h0 : cM 52 53 54 55 S T X) (h : cM 56 57 58 59 S T X') (hp : pre T X X') (hh : hM u H S T) : ∃ S', f_X6_keeps S = some S' ∧ tM s S' T ∧ cM 52 53 54 55 S' T X' ∧ hM (h_u u) (h_add u H X) S' T ∧ on (kM [52, 53, 54, 55, 61, 62]) S S' := by
  obtain ⟨hu, hI, hr⟩ := hh
  unfold f_X6_keeps
  rw [hI]
  by_cases c : u = 20
  · subst c
    rw [if_pos (show nI 20 = (20 : Int32) from rfl)]
    have w1 := fill_loop (step := f_X6_keeps_L11) S (ky 0 62) 0 1007 0 (fun i => st_A S (ky 0 62) (i + 53)) (fun z => z) (by decide) (by decide) (fun i A q1 q2 hA => by
      have ei : nI i + (53 : Int32) = nI (i + 53) := nI_add i 53
      unfold f_X6_keeps_L11
      rw [if_neg (show ¬ (1007 : Int32) ≤ nI i from nI_ge (b := 1007) q2 (by decide)), ei, chk_t (ib_nI (by omega) (by decide)), chk_t (ib_nI (by omega) (by decide)), nI_clamp (by omega), nI_clamp (by omega), lt_e, upA_upA, gAs, hA _ (by omega), ← nI_succ, Nat.zero_add]) (fun A => by
      unfold f_X6_keeps_L11
      rw [if_pos (show (1007 : Int32) ≤ nI 1007 from nI_le (Nat.le_refl 1007) (by decide))])
    have o1 : on (kM fsH) S (up_A S (ky 0 62) (fun j => if 0 + 0 ≤ j ∧ j < 0 + 1007 then st_A S (ky 0 62) (j - 0 + 53) else st_A S (ky 0 62) j)) := on_A S _ _ ⟨62, by decide, rfl⟩
    have a1 : ∀ j, j < 1007 → st_A (up_A S (ky 0 62) (fun j => if 0 + 0 ≤ j ∧ j < 0 + 1007 then st_A S (ky 0 62) (j - 0 + 53) else st_A S (ky 0 62) j)) (ky 0 62) j = st_A S (ky 0 62) (j + 53) := fun j hj => by
      rw [gAs, if_pos (by omega), Nat.sub_zero]
    have I1 : st_I (up_A S (ky 0 62) (fun j => if 0 + 0 ≤ j ∧ j < 0 + 1007 then st_A S (ky 0 62) (j - 0 + 53) else st_A S (ky 0 62) j)) = st_I S := rfl
    generalize up_A S (ky 0 62) (fun j => if 0 + 0 ≤ j ∧ j < 0 + 1007 then st_A S (ky 0 62) (j - 0 + 53) else st_A S (ky 0 62) j) = S1 at w1 o1 a1 I1
    have o2 := on_I (K := kM fsH) S1 (ky 0 61) (nI 19) ⟨61, by decide, rfl⟩
    have o12 := on_trans o1 o2
    have m1 : ∀ q, kM fsH q → kM [52, 53, 54, 55, 61, 62] q := by
      rintro q ⟨f, hf, e⟩
      exact ⟨f, (by decide : ∀ f ∈ fsH, f ∈ [52, 53, 54, 55, 61, 62]) f hf, e⟩
    obtain ⟨S3, w3, T3, C3, H3, o3⟩ := M_keepsJ (u := 19) (H := fun j => H (j + 1)) (tM_fs (by decide) hT o12) (cM_on h0 o12 (kM_n (by decide) (by decide) (by decide)) (kM_n (by decide) (by decide) (by decide)) (kM_n (by decide) (by decide) (by decide)) (kM_n (by decide) (by decide) (by decide))) (cM_on h o12 (kM_n (by decide) (by decide) (by decide)) (kM_n (by decide) (by decide) (by decide)) (kM_n (by decide) (by decide) (by decide)) (kM_n (by decide) (by decide) (by decide))) hp (by decide) (gIs ..) (fun j hj => by
      refine hE_M_cg hT.1 (hr (j + 1) (by omega)) (fun i hi => ?_)
      rw [gA_I, a1 _ (by omega), show 53 * j + i + 53 = 53 * (j + 1) + i by omega])
    refine ⟨S3, ?_, T3, C3, H3, on_trans (on_mono m1 o12) o3⟩
    have eb : nI 20 - (1 : Int32) = nI 19 := by decide
    change (iter _ FU (nI 0, S)).bind _ = _
    rw [w1, bnd, I1, hI, eb, lt_e, w3]
  · have hne : ¬ nI u = (20 : Int32) := fun q => c ((nI_eq (b := 20) (by omega) (by decide)).mp q)
    rw [if_neg hne]
    obtain ⟨S', w, t', c', q, o'⟩ := M_keepsJ hT h0 h hp (by omega) hI hr
    refine ⟨S', w, t', c', ?_, o'⟩
    unfold h_u h_add
    rw [if_neg c, if_neg c]
    exact q
theorem M_undo0 {u : Nat} {H : Nat → CT} {S : St} {T : TX} (hh : hM u H S T) (hu : u = 0) : f_X6_undo S = some (0, S) := by
  unfold f_X6_undo
  rw [hh.2.1, hu, if_pos (show nI 0 = (0 : Int32) from rfl)]
theorem M_undo {s u : Nat} {H : Nat → CT} {S : St} {T : TX} {X : CT} (hT : tM s S T) (h : cM 52 53 54 55 S T X) (hh : hM (u + 1) H S T) (hx : hX (u + 1) H T X) : ∃ S', f_X6_undo S = some (1, S') ∧ tM s S' T ∧ cM 52 53 54 55 S' T (H u) ∧ hM u H S' T ∧ on (kM [52, 53, 54, 55, 61]) S S' := by
  obtain ⟨hu, hI, hr⟩ := hh
  have h6 := hT.1.2.2.1
  have h8 := hT.1.2.2.2.1
  have hY := (hx.1 u (by omega)).1
  have hy := hY.1
  have hp := hx.2.2 (by omega)
  rw [show u + 1 - 1 = u by omega] at hp
  have he := hr u (by omega)
  have ed : nI (u + 1) - (1 : Int32) = nI u := nI_pred u
  have e53 : (53 : Int32) * nI u = nI (53 * u) := pk_mul 53 u
  have e1 : nI (53 * u) + (1 : Int32) = nI (53 * u + 1) := nI_1 _
  have e37 : nI (53 * u) + (37 : Int32) = nI (53 * u + 37) := nI_add _ 37
  have e45 : nI (53 * u) + (45 : Int32) = nI (53 * u + 45) := nI_add _ 45
  have e36 : (36 : Int32) * nI (cn (H u)) = nI (36 * cn (H u)) := pk_mul 36 _
  have o1 : on (kM [52, 53, 54, 55, 61]) S (up_I (up_I S (ky 0 61) (nI u)) (ky 0 53) (nI (cn (H u)))) := on_trans (on_I _ _ _ ⟨61, by decide, rfl⟩) (on_I _ _ _ ⟨53, by decide, rfl⟩)
  have A1 : st_A (up_I (up_I S (ky 0 61) (nI u)) (ky 0 53) (nI (cn (H u)))) = st_A S := rfl
  have I1 : st_I (up_I (up_I S (ky 0 61) (nI u)) (ky 0 53) (nI (cn (H u)))) (ky 0 53) = nI (cn (H u)) := gIs ..
  have J1 : st_I (up_I (up_I S (ky 0 61) (nI u)) (ky 0 53) (nI (cn (H u)))) (ky 0 61) = nI u := by rw [gIn _ _ (ky_ne (by decide) (by decide) (by decide)), gIs]
  generalize hS1 : up_I (up_I S (ky 0 61) (nI u)) (ky 0 53) (nI (cn (H u))) = S1 at o1 A1 I1 J1
  have w2 := fill_loop (step := f_X6_undo_L39 (nI (53 * u))) S1 (ky 0 52) 0 36 (36 * cn (H u)) (fun i => st_A S (ky 0 62) (53 * u + 1 + i)) (fun z => z) (by decide) (by decide) (fun i A q1 q2 hA => by
    unfold f_X6_undo_L39
    rw [if_neg (show ¬ (36 : Int32) ≤ nI i from nI_ge (b := 36) q2 (by decide)), e1, nI_add, chk_t (ib_nI (by omega) (by decide)), gI_A, I1, e36, nI_add, chk_t (ib_nI (by omega) (by decide)), nI_clamp (by omega), nI_clamp (by omega), lt_e, upA_upA, gAs, gAn _ _ (ky_ne (by decide) (by decide) (by decide)), A1, ← nI_succ]) (fun A => by
    unfold f_X6_undo_L39
    rw [if_pos (show (36 : Int32) ≤ nI 36 from nI_le (Nat.le_refl 36) (by decide))])
  have o2 : on (kM [52, 53, 54, 55, 61]) S1 (up_A S1 (ky 0 52) (fun j => if 36 * cn (H u) + 0 ≤ j ∧ j < 36 * cn (H u) + 36 then st_A S (ky 0 62) (53 * u + 1 + (j - 36 * cn (H u))) else st_A S1 (ky 0 52) j)) := on_A S1 _ _ ⟨52, by decide, rfl⟩
  have a2 : ∀ j, j < 36 → st_A (up_A S1 (ky 0 52) (fun j => if 36 * cn (H u) + 0 ≤ j ∧ j < 36 * cn (H u) + 36 then st_A S (ky 0 62) (53 * u + 1 + (j - 36 * cn (H u))) else st_A S1 (ky 0 52) j)) (ky 0 52) (36 * cn (H u) + j) = st_A S (ky 0 62) (53 * u + 1 + j) := fun j hj => by
    rw [gAs, if_pos (by omega), show 36 * cn (H u) + j - 36 * cn (H u) = j by omega]
  have d2 : ∀ j, j < 36 * cn (H u) → st_A (up_A S1 (ky 0 52) (fun j => if 36 * cn (H u) + 0 ≤ j ∧ j < 36 * cn (H u) + 36 then st_A S (ky 0 62) (53 * u + 1 + (j - 36 * cn (H u))) else st_A S1 (ky 0 52) j)) (ky 0 52) j = st_A S (ky 0 52) j := fun j hj => by
    rw [gAs, if_neg (by omega), A1]
  have I2 : st_I (up_A S1 (ky 0 52) (fun j => if 36 * cn (H u) + 0 ≤ j ∧ j < 36 * cn (H u) + 36 then st_A S (ky 0 62) (53 * u + 1 + (j - 36 * cn (H u))) else st_A S1 (ky 0 52) j)) = st_I S1 := rfl
  generalize up_A S1 (ky 0 52) (fun j => if 36 * cn (H u) + 0 ≤ j ∧ j < 36 * cn (H u) + 36 then st_A S (ky 0 62) (53 * u + 1 + (j - 36 * cn (H u))) else st_A S1 (ky 0 52) j) = S2 at w2 o2 a2 d2 I2
  have o12 := on_trans o1 o2
  have k62 : st_A S2 (ky 0 62) = st_A S (ky 0 62) := (o12 _ (kM_n (by decide) (by decide) (by decide))).2.1
  obtain ⟨S3, w3, o3, I3, l3, b3, c3⟩ := loop_P (step := f_X6_undo_L77 (nI (53 * u))) S2 8 (fun z => ((1 : Int32), z)) (fun i z => on (kM [54, 55]) S2 z ∧ st_I z = st_I S2 ∧ st_A z (ky 0 52) = st_A S2 (ky 0 52) ∧ (∀ m, m < i → st_A z (ky 0 54) m = st_A S (ky 0 62) (53 * u + 37 + m)) ∧ ∀ m, m < i → st_A z (ky 0 55) m = st_A S (ky 0 62) (53 * u + 45 + m)) (by decide) ⟨on_refl _ _, rfl, rfl, fun a ha => absurd ha (Nat.not_lt_zero _), fun a ha => absurd ha (Nat.not_lt_zero _)⟩ (fun i z hi hz => by
    obtain ⟨zo, zI, z0, z1, z2⟩ := hz
    have y62 : st_A z (ky 0 62) = st_A S (ky 0 62) := ((zo _ (kM_n (by decide) (by decide) (by decide))).2.1).trans k62
    refine ⟨up_A (up_A z (ky 0 54) (upd (st_A z (ky 0 54)) i (st_A S (ky 0 62) (53 * u + 37 + i)))) (ky 0 55) (upd (st_A z (ky 0 55)) i (st_A S (ky 0 62) (53 * u + 45 + i))), ?_, on_trans zo (on_trans (on_A _ _ _ ⟨54, by decide, rfl⟩) (on_A _ _ _ ⟨55, by decide, rfl⟩)), zI, ?_, fun m hm => ?_, fun m hm => ?_⟩
    · unfold f_X6_undo_L77
      rw [if_neg (show ¬ (8 : Int32) ≤ nI i from nI_ge (b := 8) hi (by decide)), e37, nI_add, chk_t (ib_nI (by omega) (by decide)), chk_t (ib_nI (by omega) (by decide)), nI_clamp (by omega), nI_clamp (by omega), lt_e, e45, nI_add, chk_t (ib_nI (by omega) (by decide)), chk_t (ib_nI (by omega) (by decide)), nI_clamp (by omega), lt_e, gAn _ _ (ky_ne (by decide) (by decide) (by decide)), gAn _ _ (ky_ne (by decide) (by decide) (by decide)), y62, ← nI_succ]
    · rw [gAn _ _ (ky_ne (by decide) (by decide) (by decide)), gAn _ _ (ky_ne (by decide) (by decide) (by decide)), z0]
    · rw [gAn _ _ (ky_ne (by decide) (by decide) (by decide)), gAs, upd_e]
      by_cases c : m = i
      · rw [if_pos c, c]
      · rw [if_neg c]
        exact z1 m (by omega)
    · rw [gAs, upd_e]
      by_cases c : m = i
      · rw [if_pos c, c]
      · rw [if_neg c]
        exact z2 m (by omega)) (fun z hz => by
    unfold f_X6_undo_L77
    rw [if_pos (show (8 : Int32) ≤ nI 8 from nI_le (Nat.le_refl 8) (by decide))])
  have oA : on (kM [52, 53, 54, 55, 61]) S S3 := on_trans o12 (on_mono (fun q hq => by
    obtain ⟨f, hf, e⟩ := hq
    exact ⟨f, (by decide : ∀ f ∈ [54, 55], f ∈ [52, 53, 54, 55, 61]) f hf, e⟩) o3)
  refine ⟨S3, ?_, tM_fs (by decide) hT oA, ⟨hY, by rw [I3, I2, I1], fun t ht => ?_, fun m hm => ?_⟩, ⟨by omega, by rw [I3, I2, J1], fun j hj => ?_⟩, oA⟩
  · unfold f_X6_undo
    rw [hI, if_neg (nI_nz (by omega) (by omega)), ed, lt_e, gIs, e53, chk_t (ib_nI (by omega) (by decide)), nI_clamp (by omega), gA_I, he.1, lt_e, hS1]
    change (iter _ FU (nI 0, S1)).bind _ = _
    rw [w2, bnd, w3]
  · rw [l3]
    by_cases c : t = cn (H u)
    · subst c
      refine ⟨fun a ha => ⟨?_, ?_⟩, fun m hm => ⟨?_, ?_, fun _ => ?_⟩⟩
      · rw [a2 a (by omega)]
        exact (he.2.1 a ha).1
      · rw [Nat.add_assoc, a2 _ (by omega), show 53 * u + 1 + (6 + a) = 53 * u + 7 + a by omega]
        exact (he.2.1 a ha).2
      · rw [Nat.add_assoc, a2 _ (by omega), show 53 * u + 1 + (12 + m) = 53 * u + 13 + m by omega]
        exact (he.2.2.1 m hm).1
      · rw [Nat.add_assoc, a2 _ (by omega), show 53 * u + 1 + (20 + m) = 53 * u + 21 + m by omega]
        exact (he.2.2.1 m hm).2.1
      · rw [Nat.add_assoc, a2 _ (by omega), show 53 * u + 1 + (28 + m) = 53 * u + 29 + m by omega]
        exact (he.2.2.1 m hm).2.2
    · have ht2 : t < cn (H u) := by omega
      have g := h.2.2.1 t (by have := hp.1; omega)
      have q := hp.2.1 t ht2
      refine ⟨fun i hi => ?_, fun m hm => ?_⟩
      · rw [d2 _ (by omega), d2 _ (by omega), ← (q.1 i hi).1, ← (q.1 i hi).2]
        exact g.1 i hi
      · rw [d2 _ (by omega), d2 _ (by omega), d2 _ (by omega), ← (q.2 m hm).1, ← (q.2 m hm).2.1, ← (q.2 m hm).2.2]
        exact g.2 m hm
  · rw [b3 m (by omega), c3 m (by omega)]
    exact he.2.2.2 m hm
  · rw [(oA _ (kM_n (by decide) (by decide) (by decide))).2.1]
    exact hr j (by omega)
