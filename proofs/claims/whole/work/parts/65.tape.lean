/-! THE TAPE, both sides. -/
def byt (x : Int32) (i : Nat) : Nat := x.toBitVec.toNat / 2 ^ (24 - 8 * i) % 256
theorem sx_8 : ∀ n < 256, (Int8.ofNat n).toInt32 = sxB n := by decide +kernel
theorem sx_b (x s : Int32) (k : Nat) (hk : k ≤ 24) (hs : (s.toBitVec.smod 32).toNat = k) : (x >>> s).toInt8.toInt32 = sxB (x.toBitVec.toNat / 2 ^ k % 256) := by
  have e : (x >>> s).toInt8 = Int8.ofNat (x.toBitVec.toNat / 2 ^ k % 256) := by
    apply Int8.toBitVec_inj.mp
    apply BitVec.eq_of_toNat_eq
    have r : (Int8.ofNat (x.toBitVec.toNat / 2 ^ k % 256)).toBitVec.toNat = x.toBitVec.toNat / 2 ^ k % 256 := by
      show (BitVec.ofNat 8 _).toNat = _
      rw [BitVec.toNat_ofNat]
      omega
    rw [r, Int32.toBitVec_toInt8, Int32.toBitVec_shiftRight, BitVec.signExtend_eq_setWidth_of_le _ (by decide), BitVec.toNat_setWidth, BitVec.sshiftRight_eq', hs]
    apply Nat.eq_of_testBit_eq
    intro i
    rw [show (256 : Nat) = 2 ^ 8 from rfl, Nat.testBit_mod_two_pow, Nat.testBit_mod_two_pow, Nat.testBit_div_two_pow, BitVec.testBit_toNat, BitVec.testBit_toNat, BitVec.getLsbD_sshiftRight]
    by_cases hi : i < 8
    · rw [if_pos (by omega)]
      have : ¬ 32 ≤ i := by omega
      simp [hi, this, Nat.add_comm]
    · simp [hi]
  rw [e, sx_8 _ (Nat.mod_lt _ (by decide))]
def shI (i : Nat) : Int32 := if i = 0 then 24 else if i = 1 then 16 else if i = 2 then 8 else if i = 3 then 0 else -8
theorem sh_1 : ∀ i < 4, ¬ shI i < 0 ∧ shI i + (-8) = shI (i + 1) ∧ (((shI i).toUInt32 &&& Int32.toUInt32 31).toBitVec % 32).toNat = 24 - 8 * i ∧ ((shI i &&& 31).toBitVec.smod 32).toNat = 24 - 8 * i := by decide +kernel
theorem byt_C (x : Int32) (i : Nat) (hi : i < 4) : i_ushr x (shI i) &&& (255 : Int32) = nI (byt x i) := by
  rw [pk_and _ 8 (by decide)]
  have := pk_ushr x (shI i) (24 - 8 * i) (sh_1 i hi).2.2.1
  rw [this]
  rfl
theorem byt_M (x : Int32) (i : Nat) (hi : i < 4) : vp_nar .byte ((x >>> (shI i &&& 31)).toInt8.toInt32) = sxB (byt x i) := by
  rw [pk_vb, sx_b x (shI i &&& 31) (24 - 8 * i) (by omega) (sh_1 i hi).2.2.2]
  rfl
theorem byt_lt (x : Int32) (i : Nat) : byt x i < 256 := Nat.mod_lt _ (by decide)
def k01 : Nat → Prop := fun q => q = ky 0 0 ∨ q = ky 0 1
def k12 : Nat → Prop := fun q => q = ky 0 1 ∨ q = ky 0 2
theorem C_addB {S : St} {n : Nat} {B : Nat → Nat} (x : Int32) (hn : n + 4 ≤ 2000) (h1 : st_I S (ky 0 1) = nI n) (h0 : ∀ j, j < n → st_A S (ky 0 0) j = nI (B j)) (hb : ∀ i, i < 4 → byt x i = B (n + i)) : ∃ S', f_X5_addBytes S x = some S' ∧ st_I S' (ky 0 1) = nI (n + 4) ∧ (∀ j, j < n + 4 → st_A S' (ky 0 0) j = nI (B j)) ∧ on k01 S S' := by
  have L0 : wk_n wd_C (ky 0 0) = 2000 := lnC (show cl_C 0 = 5 from rfl) (by decide) rfl
  have hi := iter_invF (step := f_X5_addBytes_L3 x) (x := ((24 : Int32), S)) (fun i z => z.1 = shI i ∧ st_I z.2 (ky 0 1) = nI (n + i) ∧ (∀ j, j < n + i → st_A z.2 (ky 0 0) j = nI (B j)) ∧ on k01 S z.2) (fun S' => st_I S' (ky 0 1) = nI (n + 4) ∧ (∀ j, j < n + 4 → st_A S' (ky 0 0) j = nI (B j)) ∧ on k01 S S') 4 (by decide) ⟨rfl, h1, h0, on_refl _ _⟩ ?_ ?_
  · exact hi
  · rintro i ⟨j, z⟩ hlt ⟨rfl, z1, z0, zo⟩
    have g := sh_1 i hlt
    left
    change st_I z (ky 0 1) = nI (n + i) at z1
    refine ⟨(shI (i + 1), up_I (up_A z (ky 0 0) (upd (st_A z (ky 0 0)) (n + i) (nI (byt x i)))) (ky 0 1) (nI (n + i + 1))), ?_, rfl, gIs .., fun j hj => ?_, on_trans zo (on_trans (on_A _ _ _ (Or.inl rfl)) (on_I _ _ _ (Or.inr rfl)))⟩
    · show f_X5_addBytes_L3 x (shI i, z) = _
      unfold f_X5_addBytes_L3
      rw [if_neg g.1, byt_C x i hlt, z1, put_nI L0 (by omega) (by decide), bnd, lt_e, gI_A, z1, nI_1, g.2.1]
    · show st_A (up_I (up_A z (ky 0 0) _) (ky 0 1) _) (ky 0 0) j = _
      rw [gA_I, gAs, upd_e]
      by_cases c : j = n + i
      · rw [if_pos c, c, hb i hlt]
      · rw [if_neg c]
        exact z0 j (by omega)
  · rintro ⟨j, z⟩ ⟨rfl, z1, z0, zo⟩
    refine ⟨z, ?_, z1, z0, zo⟩
    unfold f_X5_addBytes_L3
    rw [if_pos (show shI 4 < 0 by decide)]
theorem M_addB {S : St} {n : Nat} {B : Nat → Nat} (x : Int32) (hn : n + 4 ≤ 2000) (h1 : st_I S (ky 0 2) = nI n) (h0 : ∀ j, j < n → st_A S (ky 0 1) j = sxB (B j)) (hb : ∀ i, i < 4 → byt x i = B (n + i)) : ∃ S', f_X6_put S x = some S' ∧ st_I S' (ky 0 2) = nI (n + 4) ∧ (∀ j, j < n + 4 → st_A S' (ky 0 1) j = sxB (B j)) ∧ on k12 S S' := by
  have hi := iter_invF (step := f_X6_put_L3 x) (x := ((24 : Int32), S)) (fun i z => z.1 = shI i ∧ st_I z.2 (ky 0 2) = nI (n + i) ∧ (∀ j, j < n + i → st_A z.2 (ky 0 1) j = sxB (B j)) ∧ on k12 S z.2) (fun S' => st_I S' (ky 0 2) = nI (n + 4) ∧ (∀ j, j < n + 4 → st_A S' (ky 0 1) j = sxB (B j)) ∧ on k12 S S') 4 (by decide) ⟨rfl, h1, h0, on_refl _ _⟩ ?_ ?_
  · exact hi
  · rintro i ⟨j, z⟩ hlt ⟨rfl, z1, z0, zo⟩
    have g := sh_1 i hlt
    left
    change st_I z (ky 0 2) = nI (n + i) at z1
    refine ⟨(shI (i + 1), up_I (up_A z (ky 0 1) (upd (st_A z (ky 0 1)) (n + i) (sxB (byt x i)))) (ky 0 2) (nI (n + i + 1))), ?_, rfl, gIs .., fun j hj => ?_, on_trans zo (on_trans (on_A _ _ _ (Or.inl rfl)) (on_I _ _ _ (Or.inr rfl)))⟩
    · show f_X6_put_L3 x (shI i, z) = _
      unfold f_X6_put_L3
      rw [if_neg g.1, byt_M x i hlt, z1, chk_t (ib_nI (by omega) (by decide)), nI_clamp (by omega), lt_e, gI_A, z1, nI_1, lt_e, g.2.1]
    · show st_A (up_I (up_A z (ky 0 1) _) (ky 0 2) _) (ky 0 1) j = _
      rw [gA_I, gAs, upd_e]
      by_cases c : j = n + i
      · rw [if_pos c, c, hb i hlt]
      · rw [if_neg c]
        exact z0 j (by omega)
  · rintro ⟨j, z⟩ ⟨rfl, z1, z0, zo⟩
    refine ⟨z, ?_, z1, z0, zo⟩
    unfold f_X6_put_L3
    rw [if_pos (show shI 4 < 0 by decide)]
/-! parts of what is kept, apart -/
theorem hC_on {K : Nat → Prop} {u : Nat} {H : Nat → CT} {S S' : St} {T : TX} (h : hC u H S T) (o : on K S S') (n : ∀ f, f < 3 → ¬ K (ky 6 f)) : hC u H S' T := by
  obtain ⟨a, fi, b, c, d, e⟩ := h
  exact ⟨a, fi, b, by rw [(o _ (n 1 (by decide))).1]; exact c, by rw [(o _ (n 2 (by decide))).1]; exact d, by rw [(o _ (n 0 (by decide))).2.1]; exact e⟩
theorem slotC_on {K : Nat → Prop} {kt : Nat} {sl : Nat → Option CT} {S S' : St} {T : TX} (h : slotC kt sl S T) (o : on K S S') (n0 : ¬ K (ky 0 10)) (n : ∀ j f, j < 3 → f < 9 → ¬ K (ky (12 + j) f)) : slotC kt sl S' T := ⟨by rw [(o _ n0).1]; exact h.1, fun j hj Y hY => cC_on (h.2 j hj Y hY) o (fun f hf => n j f hj hf)⟩
theorem tellC_on {K : Nat → Prop} {k : Nat} {L : Nat → Nat × Nat × Nat × Bool} {S S' : St} (h : tellC k L S) (o : on K S S') (n1 : ¬ K (ky 0 11)) (n2 : ¬ K (ky 0 12)) : tellC k L S' := ⟨by rw [(o _ n2).1]; exact h.1, by rw [(o _ n1).2.1]; exact h.2⟩
theorem slotM_on {K : Nat → Prop} {sl : Nat → Option CT} {S S' : St} {T : TX} (h : slotM sl S T) (o : on K S S') (n1 : ¬ K (ky 0 72)) (n2 : ¬ K (ky 0 73)) (n3 : ¬ K (ky 0 74)) : slotM sl S' T := ⟨by rw [(o _ n1).2.1]; exact h.1, by rw [(o _ n2).2.1, (o _ n3).2.1]; exact h.2⟩
theorem tellM_on {K : Nat → Prop} {k : Nat} {L : Nat → Nat × Nat × Nat × Bool} {S S' : St} (h : tellM k L S) (o : on K S S') (n1 : ¬ K (ky 0 67)) (n2 : ∀ f, 68 ≤ f → f < 72 → ¬ K (ky 0 f)) : tellM k L S' := ⟨by rw [(o _ n1).1]; exact h.1, by rw [(o _ (n2 68 (by decide) (by decide))).2.1, (o _ (n2 69 (by decide) (by decide))).2.1, (o _ (n2 70 (by decide) (by decide))).2.1, (o _ (n2 71 (by decide) (by decide))).2.1]; exact h.2⟩
def aTp (A : AB) (n : Nat) (B : Nat → Nat) : AB := (aT A, aX A, au A, aH A, aS A, aK A, aL A, n, B, ap A)
theorem RC_tape {kt n : Nat} {B : Nat → Nat} {A : AB} {S S' : St} (h : RC kt A S) (o : on k01 S S') (h1 : st_I S' (ky 0 1) = nI n) (h0 : ∀ j, j < n → st_A S' (ky 0 0) j = nI (B j)) : RC kt (aTp A n B) S' := by
  obtain ⟨c1, c2, c3, c4, c5, c6, c7, c8, c9⟩ := h
  have hkt := c1.2.1
  have n0 : ∀ c f, f < 100 → (c = 0 → 2 ≤ f) → ¬ k01 (ky c f) := by
    intro c f hf hc q
    rcases q with e | e
    · have := (ky_iff hf (by decide)).mp e
      have := hc this.1
      omega
    · have := (ky_iff hf (by decide)).mp e
      have := hc this.1
      omega
  refine ⟨tC_on c1 o (fun f hf => n0 _ _ (by omega) (fun e => by omega)) (fun f hf => n0 _ _ (by omega) (fun e => by omega)), cC_on c2 o (fun f hf => n0 _ _ (by omega) (fun e => by omega)), ?_, hC_on c4 o (fun f hf => n0 _ _ (by omega) (fun e => by omega)), slotC_on c5 o (n0 _ _ (by decide) (fun _ => by decide)) (fun j f hj hf => n0 _ _ (by omega) (fun e => by omega)), tellC_on c6 o (n0 _ _ (by decide) (fun _ => by decide)) (n0 _ _ (by decide) (fun _ => by decide)), ⟨h1, h0⟩, ?_, ?_⟩
  · rw [(o _ (n0 0 4 (by decide) (fun _ => by decide))).2.2.2.2, (o _ (n0 0 5 (by decide) (fun _ => by decide))).2.2.2.2]
    exact c3
  · rw [(o _ (n0 0 2 (by decide) (fun _ => by decide))).1]
    exact c8
  · rw [(o _ (n0 1 0 (by decide) (fun e => by omega))).2.2.2.1]
    exact c9
theorem RM_tape {s n : Nat} {B : Nat → Nat} {A : AB} {S S' : St} (h : RM s A S) (o : on k12 S S') (h1 : st_I S' (ky 0 2) = nI n) (h0 : ∀ j, j < n → st_A S' (ky 0 1) j = sxB (B j)) : RM s (aTp A n B) S' := by
  obtain ⟨c1, c2, c3, c4, c5, c6, c7, c8⟩ := h
  have n0 : ∀ f, f < 100 → 3 ≤ f → ¬ k12 (ky 0 f) := by
    intro f hf h3 q
    rcases q with e | e
    · have := (ky_iff hf (by decide)).mp e
      omega
    · have := (ky_iff hf (by decide)).mp e
      omega
  refine ⟨tM_on c1 o (fun f h1 h2 => n0 f (by omega) (by omega)), cM_on c2 o (n0 _ (by decide) (by decide)) (n0 _ (by decide) (by decide)) (n0 _ (by decide) (by decide)) (n0 _ (by decide) (by decide)), hM_on c3 o (n0 _ (by decide) (by decide)) (n0 _ (by decide) (by decide)), slotM_on c4 o (n0 _ (by decide) (by decide)) (n0 _ (by decide) (by decide)) (n0 _ (by decide) (by decide)), tellM_on c5 o (n0 _ (by decide) (by decide)) (fun f h1 h2 => n0 f (by omega) (by omega)), ⟨h1, h0⟩, ?_, ?_⟩
  · rw [(o _ (n0 17 (by decide) (by decide))).1]
    exact c7
  · rw [(o _ (n0 9 (by decide) (by decide))).2.2.2.1]
    exact c8
section TP
variable {kt s : Nat} {A : AB} {S M : St}
theorem Q_feed (hA : RA A) (hC : RC kt A S) (hM : RM s A M) (x1 x2 x3 x4 x5 : Int32) : ans S M (f_X5_feed S x1 x2 x3 x4 x5) (f_X6_feed M x1 x2 x3 x4 x5) := by
  have hn := hA.2.2.2.2.2.1
  unfold f_X5_feed f_X6_feed
  rw [hC.2.2.2.2.2.2.1.1, hM.2.2.2.2.2.1.1]
  have e20 : nI (an A) + (20 : Int32) = nI (an A + 20) := nI_add (an A) 20
  rw [e20]
  by_cases c : an A ≤ 1980
  · rw [if_pos (show nI (an A) ≤ (1980 : Int32) from nI_le (b := 1980) c (by decide)), if_pos (show nI (an A + 20) ≤ (2000 : Int32) from nI_le (b := 2000) (by omega) (by decide))]
    let w : Nat → Int32 := fun k => if k = 0 then x1 else if k = 1 then x2 else if k = 2 then x3 else if k = 3 then x4 else x5
    let B : Nat → Nat := fun j => if j < an A then aB A j else byt (w ((j - an A) / 4)) ((j - an A) % 4)
    have hB : ∀ k i, i < 4 → byt (w k) i = B (an A + 4 * k + i) := by
      intro k i hi
      show _ = if an A + 4 * k + i < an A then _ else _
      rw [if_neg (by omega), show (an A + 4 * k + i - an A) / 4 = k by omega, show (an A + 4 * k + i - an A) % 4 = i by omega]
    have hB0 : ∀ j, j < an A → B j = aB A j := fun j hj => if_pos hj
    have hBl : ∀ j, j < an A + 20 → B j < 256 := by
      intro j hj
      show (if j < an A then aB A j else _) < 256
      by_cases d : j < an A
      · rw [if_pos d]
        exact hA.2.2.2.2.2.2 j d
      · rw [if_neg d]
        exact byt_lt ..
    have c7 := hC.2.2.2.2.2.2.1
    have m6 := hM.2.2.2.2.2.1
    obtain ⟨S1, w1, i1, a1, o1⟩ := C_addB (B := B) x1 (by omega) c7.1 (fun j hj => by rw [hB0 j hj]; exact c7.2 j hj) (hB 0)
    obtain ⟨S2, w2, i2, a2, o2⟩ := C_addB (B := B) x2 (by omega) i1 a1 (hB 1)
    obtain ⟨S3, w3, i3, a3, o3⟩ := C_addB (B := B) x3 (by omega) i2 a2 (hB 2)
    obtain ⟨S4, w4, i4, a4, o4⟩ := C_addB (B := B) x4 (by omega) i3 a3 (hB 3)
    obtain ⟨S5, w5, i5, a5, o5⟩ := C_addB (B := B) x5 (by omega) i4 a4 (hB 4)
    obtain ⟨M1, v1, j1, b1, p1⟩ := M_addB (B := B) x1 (by omega) m6.1 (fun j hj => by rw [hB0 j hj]; exact m6.2 j hj) (hB 0)
    obtain ⟨M2, v2, j2, b2, p2⟩ := M_addB (B := B) x2 (by omega) j1 b1 (hB 1)
    obtain ⟨M3, v3, j3, b3, p3⟩ := M_addB (B := B) x3 (by omega) j2 b2 (hB 2)
    obtain ⟨M4, v4, j4, b4, p4⟩ := M_addB (B := B) x4 (by omega) j3 b3 (hB 3)
    obtain ⟨M5, v5, j5, b5, p5⟩ := M_addB (B := B) x5 (by omega) j4 b4 (hB 4)
    have rc := RC_tape hC (on_trans o1 (on_trans o2 (on_trans o3 (on_trans o4 o5)))) i5 a5
    have rm := RM_tape hM (on_trans p1 (on_trans p2 (on_trans p3 (on_trans p4 p5)))) j5 b5
    refine ⟨nI (an A + 20), S5, M5, ?_, ?_, aTp A (an A + 20) B, kt, s, ⟨hA.1, hA.2.1, hA.2.2.1, hA.2.2.2.1, hA.2.2.2.2.1, by show an A + 20 ≤ 2000; omega, hBl⟩, rc, rm⟩
    · rw [w1, bnd, w2, bnd, w3, bnd, w4, bnd, w5, bnd, i5]
    · rw [v1, bnd, v2, bnd, v3, bnd, v4, bnd, v5, bnd, j5]
  · rw [if_neg (show ¬ nI (an A) ≤ (1980 : Int32) from nI_ge (a := 1980) (by omega) (by omega)), if_neg (show ¬ nI (an A + 20) ≤ (2000 : Int32) from nI_ge (a := 2000) (by omega) (by omega))]
    exact ans_no hA hC hM (-1) rfl rfl
theorem Q_back (hA : RA A) (hC : RC kt A S) (hM : RM s A M) (x : Int32) : ans S M (f_X5_back S x) (f_X6_back M x) := by
  have hn := hA.2.2.2.2.2.1
  unfold f_X5_back f_X6_back
  rw [hC.2.2.2.2.2.2.1.1, hM.2.2.2.2.2.1.1]
  by_cases c : x < 0
  · rw [if_pos c, if_pos c]
    exact ans_no hA hC hM (-1) rfl rfl
  · rw [if_neg c, if_neg c]
    obtain ⟨k, hk, rfl⟩ := nI_of c
    by_cases d : k ≤ an A
    · rw [if_pos (nI_le d (by omega)), if_pos (nI_le d (by omega)), lt_e, lt_e, pk_sub d, gIs, gIs]
      refine ⟨_, _, _, rfl, rfl, aTp A (an A - k) (aB A), kt, s, ⟨hA.1, hA.2.1, hA.2.2.1, hA.2.2.2.1, hA.2.2.2.2.1, by show an A - k ≤ 2000; omega, fun j (hj : j < an A - k) => hA.2.2.2.2.2.2 j (by omega)⟩, RC_tape hC (on_I _ _ _ (Or.inr rfl)) (gIs ..) (fun j hj => hC.2.2.2.2.2.2.1.2 j (by omega)), RM_tape hM (on_I _ _ _ (Or.inr rfl)) (gIs ..) (fun j hj => hM.2.2.2.2.2.1.2 j (by omega))⟩
    · rw [if_neg (nI_ge (by omega) hk), if_neg (nI_ge (by omega) hk)]
      exact ans_no hA hC hM (-1) rfl rfl
theorem Q_place (hC : RC kt A S) (hM : RM s A M) : f_X5_place S = some (ap A) ∧ f_X6_place M = some (ap A) := by
  unfold f_X5_place f_X6_place
  rw [hC.2.2.2.2.2.2.2.1, hM.2.2.2.2.2.2.1]
  exact ⟨rfl, rfl⟩
end TP
