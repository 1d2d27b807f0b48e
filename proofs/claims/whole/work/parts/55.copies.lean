/-! COPIES: the reference's rows worked on, and kept. -/
theorem gAs (S : St) (k : Nat) (v : Nat → Int32) : st_A (up_A S k v) k = v := (gA_A ..).trans (if_pos rfl)
theorem gAn (S : St) {k j : Nat} (v : Nat → Int32) (h : ¬ j = k) : st_A (up_A S k v) j = st_A S j := (gA_A ..).trans (if_neg h)
theorem gIs (S : St) (k : Nat) (v : Int32) : st_I (up_I S k v) k = v := (gI_I ..).trans (if_pos rfl)
theorem gIn (S : St) {k j : Nat} (v : Int32) (h : ¬ j = k) : st_I (up_I S k v) j = st_I S j := (gI_I ..).trans (if_neg h)
theorem gPs (S : St) (k : Nat) (v : Nat) : st_P (up_P S k v) k = v := (gP_P ..).trans (if_pos rfl)
theorem gPn (S : St) {k j : Nat} (v : Nat) (h : ¬ j = k) : st_P (up_P S k v) j = st_P S j := (gP_P ..).trans (if_neg h)
theorem nI36 (n : Nat) : (36 : Int32) * nI n + 36 = nI (36 * n + 36) := by
  rw [show (36 : Int32) = nI 36 from rfl, pk_mul, nI_add]
abbrev fsW : List Nat := [56, 57, 58, 59, 60]
abbrev fsK : List Nat := [52, 53, 54, 55]
/-- the reference's text rows are not among what a court writes -/
theorem tM_fs {fs : List Nat} {s : Nat} {S S' : St} {T : TX} (hf : ∀ f ∈ fs, 47 ≤ f ∧ f < 100) (h : tM s S T) (o : on (kM fs) S S') : tM s S' T := tM_on h o (fun f h1 h2 => kM_n (fun f hf' => (hf f hf').2) (by omega) (fun q => by
  have := (hf f q).1
  omega))
theorem M_copies {p : Nat → Nat → Prop} {s : Nat} {S : St} {T : TX} {X : CT} (hT : tM s S T) (h : cMp p 52 53 54 55 S T X) : ∃ S', f_X6_copies S = some S' ∧ tM s S' T ∧ cMp p 56 57 58 59 S' T X ∧ st_I S' (ky 0 60) = nI (tn T 5) ∧ on (kM fsW) S S' := by
  have h1 := h.1.1
  have w1 := fill_loop (step := f_X6_copies_L2) S (ky 0 56) 0 (36 * cn X + 36) 0 (fun i => st_A S (ky 0 52) i) (fun z => z) (Nat.zero_le _) (by omega) (fun i A q1 q2 hA => by
    unfold f_X6_copies_L2
    rw [gI_A, h.2.1, nI36, if_neg (show ¬ nI (36 * cn X + 36) ≤ nI i from nI_ge q2 (by omega)), chk_t (ib_nI (by omega) (by decide)), chk_t (ib_nI (by omega) (by decide)), nI_clamp (by omega), lt_e, upA_upA, gAs, gAn _ _ (ky_ne (by decide) (by decide) (by decide)), ← nI_succ, Nat.zero_add]) (fun A => by
    unfold f_X6_copies_L2
    rw [gI_A, h.2.1, nI36, if_pos (show nI (36 * cn X + 36) ≤ nI (36 * cn X + 36) from nI_le (Nat.le_refl _) (by omega))])
  have o1 : on (kM fsW) S (up_A S (ky 0 56) (fun j => if 0 + 0 ≤ j ∧ j < 0 + (36 * cn X + 36) then st_A S (ky 0 52) (j - 0) else st_A S (ky 0 56) j)) := on_A S _ _ ⟨56, by decide, rfl⟩
  have a1 : ∀ j, j < 36 * cn X + 36 → st_A (up_A S (ky 0 56) (fun j => if 0 + 0 ≤ j ∧ j < 0 + (36 * cn X + 36) then st_A S (ky 0 52) (j - 0) else st_A S (ky 0 56) j)) (ky 0 56) j = st_A S (ky 0 52) j := fun j hj => by
    rw [gAs, if_pos (by omega), Nat.sub_zero]
  generalize up_A S (ky 0 56) (fun j => if 0 + 0 ≤ j ∧ j < 0 + (36 * cn X + 36) then st_A S (ky 0 52) (j - 0) else st_A S (ky 0 56) j) = S1 at w1 o1 a1
  have o2 := on_I (K := kM fsW) S1 (ky 0 57) (st_I S1 (ky 0 53)) ⟨57, by decide, rfl⟩
  have e53 : st_I S1 (ky 0 53) = nI (cn X) := ((o1 _ (kM_n (by decide) (by decide) (by decide))).1).trans h.2.1
  have e54 := (o1 _ (kM_n (fs := fsW) (g := 54) (by decide) (by decide) (by decide))).2.1
  have e55 := (o1 _ (kM_n (fs := fsW) (g := 55) (by decide) (by decide) (by decide))).2.1
  rw [e53] at o2
  obtain ⟨S3, w3, o3, n3, r3, b3, c3⟩ := loop_P (step := f_X6_copies_L44) (up_I S1 (ky 0 57) (nI (cn X))) 8 (fun z => z) (fun i z => on (kM fsW) (up_I S1 (ky 0 57) (nI (cn X))) z ∧ st_I z (ky 0 57) = nI (cn X) ∧ st_A z (ky 0 56) = st_A S1 (ky 0 56) ∧ (∀ j, j < i → st_A z (ky 0 58) j = st_A S (ky 0 54) j) ∧ ∀ j, j < i → st_A z (ky 0 59) j = st_A S (ky 0 55) j) (by decide) ⟨on_refl _ _, gIs .., rfl, fun j hj => absurd hj (Nat.not_lt_zero _), fun j hj => absurd hj (Nat.not_lt_zero _)⟩ (fun i z hi hz => by
    obtain ⟨zo, zn, zr, zb, zc⟩ := hz
    have y54 : st_A z (ky 0 54) = st_A S (ky 0 54) := ((zo _ (kM_n (by decide) (by decide) (by decide))).2.1).trans e54
    have y55 : st_A z (ky 0 55) = st_A S (ky 0 55) := ((zo _ (kM_n (by decide) (by decide) (by decide))).2.1).trans e55
    refine ⟨up_A (up_A z (ky 0 58) (upd (st_A z (ky 0 58)) i (st_A z (ky 0 54) i))) (ky 0 59) (upd (st_A z (ky 0 59)) i (st_A z (ky 0 55) i)), ?_, on_trans zo (on_trans (on_A _ _ _ ⟨58, by decide, rfl⟩) (on_A _ _ _ ⟨59, by decide, rfl⟩)), zn, ?_, fun j hj => ?_, fun j hj => ?_⟩
    · unfold f_X6_copies_L44
      rw [if_neg (show ¬ (8 : Int32) ≤ nI i from nI_ge (b := 8) hi (by decide)), chk_t (ib_nI (by omega) (by decide)), chk_t (ib_nI (by omega) (by decide)), nI_clamp (by omega), lt_e, chk_t (ib_nI (by omega) (by decide)), chk_t (ib_nI (by omega) (by decide)), lt_e, gAn _ _ (ky_ne (by decide) (by decide) (by decide)), gAn _ _ (ky_ne (by decide) (by decide) (by decide)), ← nI_succ]
    · rw [gAn _ _ (ky_ne (by decide) (by decide) (by decide)), gAn _ _ (ky_ne (by decide) (by decide) (by decide)), zr]
    · rw [gAn _ _ (ky_ne (by decide) (by decide) (by decide)), gAs, upd_e]
      by_cases c : j = i
      · rw [if_pos c, y54, c]
      · rw [if_neg c]
        exact zb j (by omega)
    · rw [gAs, upd_e]
      by_cases c : j = i
      · rw [if_pos c, y55, c]
      · rw [if_neg c]
        exact zc j (by omega)) (fun z hz => by
    unfold f_X6_copies_L44
    rw [if_pos (show (8 : Int32) ≤ nI 8 from nI_le (Nat.le_refl 8) (by decide))])
  have o4 := on_I (K := kM fsW) S3 (ky 0 60) (nI (tn T 5)) ⟨60, by decide, rfl⟩
  have T3 := tM_fs (by decide) hT (on_trans o1 (on_trans o2 o3))
  obtain ⟨l1, l2⟩ := tM_live T3
  refine ⟨up_I S3 (ky 0 60) (nI (tn T 5)), ?_, tM_fs (by decide) T3 o4, ?_, gIs .., on_trans o1 (on_trans o2 (on_trans o3 o4))⟩
  · unfold f_X6_copies
    change (iter f_X6_copies_L2 FU (nI 0, S)).bind _ = _
    rw [w1, bnd, lt_e, e53, w3, bnd, chk_t l1, l2, lt_e, T3.2.2.2.1.2.2.2.2.2]
  · refine mC_cg hT.1 (mC_of h) (fun j hj => ?_) ?_ (fun m hm => ?_) (fun m hm => ?_)
    · rw [gA_I, r3, a1 j hj]
    · rw [gIn _ _ (ky_ne (by decide) (by decide) (by decide)), n3, h.2.1]
    · rw [gA_I, b3 m hm]
    · rw [gA_I, c3 m hm]
theorem M_keepsRaw {S : St} {n f : Nat} (hn : n ≤ 299) (h57 : st_I S (ky 0 57) = nI n) (hf : f ≤ n) : ∃ S', f_X6_keepsRows S (nI f) = some S' ∧ on (kM fsK) S S' ∧ st_I S' (ky 0 53) = nI n ∧ (∀ j, 36 * f ≤ j → j < 36 * n + 36 → st_A S' (ky 0 52) j = st_A S (ky 0 56) j) ∧ (∀ j, j < 36 * f → st_A S' (ky 0 52) j = st_A S (ky 0 52) j) ∧ (∀ m, m < 8 → st_A S' (ky 0 54) m = st_A S (ky 0 58) m) ∧ ∀ m, m < 8 → st_A S' (ky 0 55) m = st_A S (ky 0 59) m := by
  have e36 : (36 : Int32) * nI f = nI (36 * f) := pk_mul 36 f
  have w1 := fill_loop (step := f_X6_keepsRows_L5) S (ky 0 52) (36 * f) (36 * n + 36) 0 (fun i => st_A S (ky 0 56) i) (fun z => z) (by omega) (by omega) (fun i A q1 q2 hA => by
    unfold f_X6_keepsRows_L5
    rw [gI_A, h57, nI36, if_neg (show ¬ nI (36 * n + 36) ≤ nI i from nI_ge q2 (by omega)), chk_t (ib_nI (by omega) (by decide)), chk_t (ib_nI (by omega) (by decide)), nI_clamp (by omega), lt_e, upA_upA, gAs, gAn _ _ (ky_ne (by decide) (by decide) (by decide)), ← nI_succ, Nat.zero_add]) (fun A => by
    unfold f_X6_keepsRows_L5
    rw [gI_A, h57, nI36, if_pos (show nI (36 * n + 36) ≤ nI (36 * n + 36) from nI_le (Nat.le_refl _) (by omega))])
  have o1 : on (kM fsK) S (up_A S (ky 0 52) (fun j => if 0 + 36 * f ≤ j ∧ j < 0 + (36 * n + 36) then st_A S (ky 0 56) (j - 0) else st_A S (ky 0 52) j)) := on_A S _ _ ⟨52, by decide, rfl⟩
  have a1 : ∀ j, 36 * f ≤ j → j < 36 * n + 36 → st_A (up_A S (ky 0 52) (fun j => if 0 + 36 * f ≤ j ∧ j < 0 + (36 * n + 36) then st_A S (ky 0 56) (j - 0) else st_A S (ky 0 52) j)) (ky 0 52) j = st_A S (ky 0 56) j := fun j h1 hj => by
    rw [gAs, if_pos (by omega), Nat.sub_zero]
  have a2 : ∀ j, j < 36 * f → st_A (up_A S (ky 0 52) (fun j => if 0 + 36 * f ≤ j ∧ j < 0 + (36 * n + 36) then st_A S (ky 0 56) (j - 0) else st_A S (ky 0 52) j)) (ky 0 52) j = st_A S (ky 0 52) j := fun j h1 => by
    rw [gAs, if_neg (by omega)]
  generalize up_A S (ky 0 52) (fun j => if 0 + 36 * f ≤ j ∧ j < 0 + (36 * n + 36) then st_A S (ky 0 56) (j - 0) else st_A S (ky 0 52) j) = S1 at w1 o1 a1 a2
  have o2 := on_I (K := kM fsK) S1 (ky 0 53) (st_I S1 (ky 0 57)) ⟨53, by decide, rfl⟩
  have e57 : st_I S1 (ky 0 57) = nI n := ((o1 _ (kM_n (by decide) (by decide) (by decide))).1).trans h57
  have e58 := (o1 _ (kM_n (fs := fsK) (g := 58) (by decide) (by decide) (by decide))).2.1
  have e59 := (o1 _ (kM_n (fs := fsK) (g := 59) (by decide) (by decide) (by decide))).2.1
  rw [e57] at o2
  obtain ⟨S3, w3, o3, n3, r3, b3, c3⟩ := loop_P (step := f_X6_keepsRows_L47) (up_I S1 (ky 0 53) (nI n)) 8 (fun z => z) (fun i z => on (kM fsK) (up_I S1 (ky 0 53) (nI n)) z ∧ st_I z (ky 0 53) = nI n ∧ st_A z (ky 0 52) = st_A S1 (ky 0 52) ∧ (∀ j, j < i → st_A z (ky 0 54) j = st_A S (ky 0 58) j) ∧ ∀ j, j < i → st_A z (ky 0 55) j = st_A S (ky 0 59) j) (by decide) ⟨on_refl _ _, gIs .., rfl, fun j hj => absurd hj (Nat.not_lt_zero _), fun j hj => absurd hj (Nat.not_lt_zero _)⟩ (fun i z hi hz => by
    obtain ⟨zo, zn, zr, zb, zc⟩ := hz
    have y58 : st_A z (ky 0 58) = st_A S (ky 0 58) := ((zo _ (kM_n (by decide) (by decide) (by decide))).2.1).trans e58
    have y59 : st_A z (ky 0 59) = st_A S (ky 0 59) := ((zo _ (kM_n (by decide) (by decide) (by decide))).2.1).trans e59
    refine ⟨up_A (up_A z (ky 0 54) (upd (st_A z (ky 0 54)) i (st_A z (ky 0 58) i))) (ky 0 55) (upd (st_A z (ky 0 55)) i (st_A z (ky 0 59) i)), ?_, on_trans zo (on_trans (on_A _ _ _ ⟨54, by decide, rfl⟩) (on_A _ _ _ ⟨55, by decide, rfl⟩)), zn, ?_, fun j hj => ?_, fun j hj => ?_⟩
    · unfold f_X6_keepsRows_L47
      rw [if_neg (show ¬ (8 : Int32) ≤ nI i from nI_ge (b := 8) hi (by decide)), chk_t (ib_nI (by omega) (by decide)), chk_t (ib_nI (by omega) (by decide)), nI_clamp (by omega), lt_e, chk_t (ib_nI (by omega) (by decide)), chk_t (ib_nI (by omega) (by decide)), lt_e, gAn _ _ (ky_ne (by decide) (by decide) (by decide)), gAn _ _ (ky_ne (by decide) (by decide) (by decide)), ← nI_succ]
    · rw [gAn _ _ (ky_ne (by decide) (by decide) (by decide)), gAn _ _ (ky_ne (by decide) (by decide) (by decide)), zr]
    · rw [gAn _ _ (ky_ne (by decide) (by decide) (by decide)), gAs, upd_e]
      by_cases c : j = i
      · rw [if_pos c, y58, c]
      · rw [if_neg c]
        exact zb j (by omega)
    · rw [gAs, upd_e]
      by_cases c : j = i
      · rw [if_pos c, y59, c]
      · rw [if_neg c]
        exact zc j (by omega)) (fun z hz => by
    unfold f_X6_keepsRows_L47
    rw [if_pos (show (8 : Int32) ≤ nI 8 from nI_le (Nat.le_refl 8) (by decide))])
  refine ⟨S3, ?_, on_trans o1 (on_trans o2 o3), n3, fun j h1 h2 => by rw [r3, a1 j h1 h2], fun j h1 => by rw [r3, a2 j h1], b3, c3⟩
  unfold f_X6_keepsRows
  rw [e36, w1, bnd, lt_e, e57, w3]
theorem M_keepsRows {s : Nat} {S : St} {T : TX} {X : CT} (hT : tM s S T) (h : cM 56 57 58 59 S T X) : ∃ S', f_X6_keepsRows S (nI 0) = some S' ∧ tM s S' T ∧ cM 52 53 54 55 S' T X ∧ on (kM fsK) S S' := by
  obtain ⟨S3, w, o, n3, r3, _, b3, c3⟩ := M_keepsRaw (f := 0) h.1.1 h.2.1 (Nat.zero_le _)
  refine ⟨S3, w, tM_fs (by decide) hT o, mC_cg hT.1 (mC_of h) (fun j hj => r3 j (by omega) hj) (n3.trans h.2.1.symm) b3 c3, o⟩
/-- what was before: X follows on Y -/
def pre (T : TX) (Y X : CT) : Prop := cn Y ≤ cn X ∧ (∀ t, t < cn Y → (∀ a, a < tn T 2 → cf X 0 t a = cf Y 0 t a ∧ cf X 1 t a = cf Y 1 t a) ∧ ∀ m, m < tn T 3 → cf X 2 t m = cf Y 2 t m ∧ cf X 3 t m = cf Y 3 t m ∧ cw X t m = cw Y t m) ∧ ∀ m, m < tn T 3 → ck Y m ≠ none → ck X m = ck Y m ∧ cz X m = cz Y m
theorem M_keepsRows2 {s : Nat} {S : St} {T : TX} {X X' : CT} (hT : tM s S T) (h0 : cM 52 53 54 55 S T X) (h : cM 56 57 58 59 S T X') (hp : pre T X X') : ∃ S', f_X6_keepsRows S (nI (cn X)) = some S' ∧ tM s S' T ∧ cM 52 53 54 55 S' T X' ∧ on (kM fsK) S S' := by
  have h6 := hT.1.2.2.1
  have h8 := hT.1.2.2.2.1
  obtain ⟨S3, w, o, n3, r3, r4, b3, c3⟩ := M_keepsRaw (f := cn X) h.1.1 h.2.1 hp.1
  refine ⟨S3, w, tM_fs (by decide) hT o, ⟨h.1, n3, fun t ht => ?_, fun m hm => ?_⟩, o⟩
  · by_cases c : t < cn X
    · have g := h0.2.2.1 t (by omega)
      have q := hp.2.1 t c
      refine ⟨fun i hi => ?_, fun m hm => ?_⟩
      · rw [r4 _ (by omega), r4 _ (by omega), (q.1 i hi).1, (q.1 i hi).2]
        exact g.1 i hi
      · rw [r4 _ (by omega), r4 _ (by omega), r4 _ (by omega), (q.2 m hm).1, (q.2 m hm).2.1, (q.2 m hm).2.2]
        exact g.2 m hm
    · have g := h.2.2.1 t ht
      refine ⟨fun i hi => ?_, fun m hm => ?_⟩
      · rw [r3 _ (by omega) (by omega), r3 _ (by omega) (by omega)]
        exact g.1 i hi
      · rw [r3 _ (by omega) (by omega), r3 _ (by omega) (by omega), r3 _ (by omega) (by omega)]
        exact g.2 m hm
  · rw [b3 m (by omega), c3 m (by omega)]
    exact h.2.2.2 m hm
