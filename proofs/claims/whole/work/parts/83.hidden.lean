/-! QUESTIONS: hidden ways, numbers. -/
theorem dk_b : ∀ w < 256, ∀ q < 8, (255 ^^^ w) &&& (255 ^^^ 2 ^ q) = 255 ^^^ (w ||| 2 ^ q) := by decide +kernel
theorem dk_n : ∀ w < 256, (255 : Int32) &&& (nI w ^^^ (-1 : Int32)) = nI (255 ^^^ w) := by decide +kernel
theorem s_or_lt8 {f : Nat → Nat} : ∀ n, (∀ i, i < n → f i < 256) → s_or f n < 256 := by
  intro n
  induction n with
  | zero => intro _; exact (by decide : 0 < 256)
  | succ n ih => intro h; exact Nat.or_lt_two_pow (n := 8) (ih (fun i hi => h i (by omega))) (h n (by omega))
section QN
variable {kt s : Nat} {A : AB} {S M M' : St} {T : TX} {X : CT}
def s_wat (X : CT) (m : Nat) : Bool := !cw X (cn X) m && !s_brk X m (cn X)
def s_wb (X : CT) (m : Nat) : Nat := if s_wat X m then 2 ^ cf X 2 (cn X) m else 0
theorem s_wb_lt {T : TX} {X : CT} (hT : tb T) (h : cb T X) {m : Nat} (hm : m < tn T 3) : s_wb X m < 256 := by
  have h0 := hT.1
  have h1 := ((h.2.1 _ (Nat.le_refl (cn X))).2 m hm).1
  unfold s_wb
  split
  · exact (show 2 ^ cf X 2 (cn X) m < 2 ^ 8 from Nat.pow_lt_pow_right (by decide) (by omega))
  · decide
def s_dark (T : TX) (X : CT) : Nat := 255 ^^^ s_or (s_wb X) (tn T 3)
theorem xor_lt (w : Nat) (h : w < 256) : 255 ^^^ w < 256 := Nat.xor_lt_two_pow (n := 8) (by decide) h
theorem C_dark (hC : RC kt A S) : f_X0_darkRooms 10 S = some (nI (s_dark (aT A) (aX A))) := by
  have b0 := hC.1.1.1
  have b3 := hC.1.1.2.2.2.1
  have e0 : nI (255 ^^^ s_or (s_wb (aX A)) 0) = (255 : Int32) := by
    show nI (255 ^^^ 0) = 255
    decide
  have l := iter_FU (step := f_X0_darkRooms_L6 10 S) (r := nI (255 ^^^ s_or (s_wb (aX A)) (tn (aT A) 3))) (fun i => (nI (255 ^^^ s_or (s_wb (aX A)) i), nI i)) (tn (aT A) 3) (by omega) (fun i hi => ?_) ?_
  · skip
    rw [e0] at l
    exact l
  · have hh := ((hC.2.1.1.2.1 _ (Nat.le_refl (cn (aX A)))).2 i hi).1
    have hw := s_or_lt8 (f := s_wb (aX A)) i (fun j hj => s_wb_lt hC.1.1 hC.2.1.1 (by omega))
    unfold f_X0_darkRooms_L6
    rw [chk_t (cC_T hC.1 hC.2.1), hC.2.1.2.2.1, hC.1.2.2.1 3 (by decide), if_neg (show ¬ nI (tn (aT A) 3) ≤ nI i from nI_ge hi (by omega)), hC.2.1.2.2.2.1, C_turned hC.1 hC.2.1 hi (Nat.le_refl _), bnd, s_or]
    by_cases c : cw (aX A) (cn (aX A)) i = true
    · have hz : s_wb (aX A) i = 0 := by unfold s_wb s_wat; simp [c]
      rw [if_pos c, if_neg ne10, hz, Nat.or_zero, ← nI_succ]
    · rw [if_neg c, if_pos rfl, C_broken hC.1 hC.2.1 hi (Nat.le_refl _), bnd]
      by_cases d : s_brk (aX A) i (cn (aX A)) = true
      · have hz : s_wb (aX A) i = 0 := by unfold s_wb s_wat; simp [d]
        rw [if_pos d, if_neg ne10, hz, Nat.or_zero, ← nI_succ]
      · have hz : s_wb (aX A) i = 2 ^ cf (aX A) 2 (cn (aX A)) i := by unfold s_wb s_wat; simp [c, d]
        rw [if_neg d, if_pos rfl, C_hang hC.1 hC.2.1 hi (Nat.le_refl _), bnd, wall_b _ (by omega) _ (xor_lt _ hw), dk_b _ hw _ (by omega), lt_e, hz, ← nI_succ]
  · unfold f_X0_darkRooms_L6
    rw [chk_t (cC_T hC.1 hC.2.1), hC.2.1.2.2.1, hC.1.2.2.1 3 (by decide), if_pos (show nI (tn (aT A) 3) ≤ nI (tn (aT A) 3) from nI_le (Nat.le_refl _) (by omega))]
theorem M_watched (hT : tM s M T) (h : cM 56 57 58 59 M T X) : f_X6_watched M = some (nI (s_or (s_wb X) (tn T 3))) := by
  have b0 := hT.1.1
  have b3 := hT.1.2.2.2.1
  obtain ⟨l1, l2⟩ := tM_live hT
  unfold f_X6_watched
  refine iter_FU (step := f_X6_watched_L4 M) (fun i => (nI (s_or (s_wb X) i), nI i)) (tn T 3) (by omega) (fun i hi => ?_) ?_
  · have hh := ((h.1.2.1 _ (Nat.le_refl (cn X))).2 i hi).1
    have hb := bkM_none h.1 hi
    unfold f_X6_watched_L4
    rw [chk_t l1, l2, hT.2.2.2.1.2.2.2.1, if_neg (show ¬ nI (tn T 3) ≤ nI i from nI_ge hi (by omega)), h.2.1, M_turned hT h hi (Nat.le_refl _), bnd, s_or]
    by_cases c : cw X (cn X) i = true
    · have hz : s_wb X i = 0 := by unfold s_wb s_wat; simp [c]
      rw [if_pos c, if_neg ne10, hz, Nat.or_zero, ← nI_succ]
    · rw [if_neg c, if_pos rfl, chk_t (ib_nI (by omega) (by decide)), nI_clamp (by omega), (h.2.2.2 i hi).1]
      by_cases d : s_brk X i (cn X) = true
      · have hz : s_wb X i = 0 := by unfold s_wb s_wat; simp [d]
        rw [if_neg (fun e => hb.mp e d), hz, Nat.or_zero, ← nI_succ]
      · have hz : s_wb X i = 2 ^ cf X 2 (cn X) i := by unfold s_wb s_wat; simp [c, d]
        rw [if_pos (hb.mpr d), M_hung hT h hi (Nat.le_refl _), bnd, shl_b _ (by omega), nI_oN, hz, ← nI_succ]
  · unfold f_X6_watched_L4
    rw [chk_t l1, l2, hT.2.2.2.1.2.2.2.1, if_pos (show nI (tn T 3) ≤ nI (tn T 3) from nI_le (Nat.le_refl _) (by omega))]
/-- the door by which it goes on -/
noncomputable def s_nx (T : TX) (P : Nat → Bool) (f r k i : Nat) : Bool := decide (i + 1 ≤ s_ways T r) && decide (dO T P f (s_to T r (i + 1) (tn T 1)) = some k)
theorem s_nx_ex {P : Nat → Bool} {f r k : Nat} (hT : tb T) (hd : dsR T P f r (some (k + 1))) : ∃ i, i < s_ways T r ∧ s_nx T P f r k i = true := by
  rcases hd.1 with h | ⟨hp, d, hdd, h⟩
  · exact absurd h (hd.2 k (by omega))
  · have hit : s_hit T r (s_wayN T r d + 1) d := ⟨by rcases h with h | h; exact Or.inl h.1; exact Or.inr h.1, rfl⟩
    have hl := s_hit_lt hdd hit
    have hx := hT.2.2.2.2.2.2.1 d hdd
    refine ⟨s_wayN T r d, by omega, ?_⟩
    have e1 : s_to T r (s_wayN T r d + 1) (tn T 1) = s_end T r d := Option.some.inj (s_thr_fun (s_to_thr (T := T) (r := r) hl.1 hl.2) (show s_thr T r (s_wayN T r d + 1) (some (s_end T r d)) from ⟨d, hdd, hit, rfl⟩))
    have hk : Dk T P f k (s_end T r d) ∧ (∀ j, Dk T P f j (s_end T r d) → Dk T P f (j + 1) r) := by
      unfold s_end
      rcases h with h | h
      · rw [if_pos h.1]
        exact ⟨h.2, fun j hj => Or.inr ⟨hp, d, hdd, Or.inl ⟨h.1, hj⟩⟩⟩
      · rw [if_neg (fun q => hx.2.2 (q.trans h.1.symm))]
        exact ⟨h.2, fun j hj => Or.inr ⟨hp, d, hdd, Or.inr ⟨h.1, hj⟩⟩⟩
    have hds : dsR T P f (s_end T r d) (some k) := ⟨hk.1, fun j hj hdj => hd.2 (j + 1) (by omega) (hk.2 j hdj)⟩
    have e2 : dO T P f (s_end T r d) = some k := ds_un (dO_s T P f (s_end T r d)) hds
    unfold s_nx
    rw [e1, e2]
    simp
    omega
theorem s_fst_some {p : Nat → Bool} {n i : Nat} (hi : i < n) (hp : p i = true) : ∃ j, s_fst p n = some j := by
  cases e : s_fst p n with
  | some j => exact ⟨j, rfl⟩
  | none =>
    have := s_fst_none e i hi
    rw [hp] at this
    cases this
theorem C_next (hC : RC kt A S) {P : Nat → Bool} {f r k : Nat} (hf : f < 8) (hr : r < tn (aT A) 0) (hk : k ≤ 8) (hP : ∀ r, r < 8 → ∀ o, dsR (aT A) P f r o → st_A S (ky 0 13) r = oC o) {j : Nat} (hj : s_fst (s_nx (aT A) P f r k) (s_ways (aT A) r) = some j) : f_X5_nextRoom S (nI r) (nI k) = some (nI (s_to (aT A) r (j + 1) (tn (aT A) 1))) := by
  have b0 := hC.1.1.1
  have hw := s_ways_lt hC.1.1 r
  have L13 : wk_n wd_C (ky 0 13) = 8 := lnC (show cl_C 0 = 5 from rfl) (by decide) rfl
  have g := up_find (step := f_X5_nextRoom_L2 S (nI r) (nI k)) (fun i => nI (i + 1)) (s_nx (aT A) P f r k) (fun i => nI (s_to (aT A) r (i + 1) (tn (aT A) 1))) (-2) 12 (by decide) (fun i hi _ => by
    unfold f_X5_nextRoom_L2
    rw [if_neg (show ¬ (12 : Int32) < nI (i + 1) from nI_nlt (a := 12) (by omega) (by decide)), chk_t (RC_T hC), hC.2.2.1.1]
    unfold s_nx
    by_cases c : i + 1 ≤ s_ways (aT A) r
    · have ho := s_to_thr (T := aT A) (r := r) (k := i + 1) (by omega) c
      have hto : s_to (aT A) r (i + 1) (tn (aT A) 1) < tn (aT A) 0 := by
        obtain ⟨d, hd, hh, e⟩ := ho
        rw [e]
        exact s_end_lt hC.1.1 hd
      have hwt := C_wayTo hC.1 (r := r) (by omega) (x := nI (i + 1)) (o := some (s_to (aT A) r (i + 1) (tn (aT A) 1))) (fun k' hk' ek => by
        have := (nI_eq (by omega) hk').mp ek
        rw [← this]
        exact ho) (fun q => absurd q (nI_pos (by omega)))
      rw [hwt, bnd, if_neg (show ¬ bkM (some (s_to (aT A) r (i + 1) (tn (aT A) 1))) = -1 from nI_m1 (by omega))]
      have hd := dO_s (aT A) P f (s_to (aT A) r (i + 1) (tn (aT A) 1))
      change (f_X5_at (ky 0 13) S (nI (s_to (aT A) r (i + 1) (tn (aT A) 1)))).bind _ = _
      rw [at_nI L13 (by omega) (by decide), bnd, hP _ (by omega) _ hd, ← nI_succ]
      by_cases e : dO (aT A) P f (s_to (aT A) r (i + 1) (tn (aT A) 1)) = some k
      · rw [if_pos (by rw [e]; rfl), if_pos (by simp [c, e])]
        rfl
      · have hne : ¬ oC (dO (aT A) P f (s_to (aT A) r (i + 1) (tn (aT A) 1))) = nI k := by
          intro q
          apply e
          cases q2 : dO (aT A) P f (s_to (aT A) r (i + 1) (tn (aT A) 1)) with
          | none =>
            rw [q2] at q
            have := (nI_eq (a := 1000) (by decide) (by omega)).mp q
            omega
          | some k' =>
            rw [q2] at q hd
            have h8 : k' < 2 ^ 31 := by
              have := ds_le hC.1.1 hf hd
              omega
            rw [(nI_eq h8 (by omega)).mp q]
        rw [if_neg hne, if_neg (by simp [e])]
    · have hwt := C_wayTo hC.1 (r := r) (by omega) (x := nI (i + 1)) (o := none) (fun k' hk' ek d hd hh => by
        have := (nI_eq (by omega) hk').mp ek
        have q := s_hit_lt hd hh
        omega) (fun _ => rfl)
      rw [hwt, bnd, if_pos (show bkM none = -1 from rfl), ← nI_succ, if_neg (by simp [c])]) (fun _ => by
    unfold f_X5_nextRoom_L2
    rw [if_pos (show (12 : Int32) < nI (12 + 1) from nI_lt (a := 12) (by decide) (by decide))])
  have e1 := s_fst_ext (p := s_nx (aT A) P f r k) (n := s_ways (aT A) r) (fun i hi => by
    unfold s_nx
    have : ¬ i + 1 ≤ s_ways (aT A) r := by omega
    simp [this]) (12 - s_ways (aT A) r)
  rw [show s_ways (aT A) r + (12 - s_ways (aT A) r) = 12 by omega, hj] at e1
  unfold f_X5_nextRoom
  change iter _ FU (nI 1) = _
  rw [show iter (f_X5_nextRoom_L2 S (nI r) (nI k)) FU (nI 1) = _ from g, e1]
theorem M_next (hT : tM s M T) {P : Nat → Bool} {f r k : Nat} (hf : f < 8) (hr : r < tn T 0) (hk : k ≤ 7) (hd : dsR T P f r (some (k + 1))) (hP : ∀ r, r < 8 → ∀ o, dsR T P f r o → st_A M (ky 0 66) r = bkM o) {j : Nat} (hj : s_fst (s_nx T P f r k) (s_ways T r) = some j) : iter (f_X6_hidden_L83 M (nI r)) FU (1 : Int32) = some (nI (j + 1)) ∧ f_X6_through M (nI r) (nI (j + 1)) = some (nI (s_to T r (j + 1) (tn T 1))) := by
  have b0 := hT.1.1
  have hw := s_ways_lt hT.1 r
  have thr : ∀ i, i < s_ways T r → f_X6_through M (nI r) (nI (i + 1)) = some (nI (s_to T r (i + 1) (tn T 1))) ∧ s_to T r (i + 1) (tn T 1) < tn T 0 := by
    intro i hi
    have ho := s_to_thr (T := T) (r := r) (k := i + 1) (by omega) (by omega)
    refine ⟨M_thr hT (by omega) (by omega) ho, ?_⟩
    obtain ⟨d, hd, hh, e⟩ := ho
    rw [e]
    exact s_end_lt hT.1 hd
  have g := up_find (step := f_X6_hidden_L83 M (nI r)) (fun i => nI (i + 1)) (s_nx T P f r k) (fun i => nI (i + 1)) 0 (s_ways T r) (by omega) (fun i hi _ => by
    have t := thr i hi
    have hds := dO_s T P f (s_to T r (i + 1) (tn T 1))
    have e1 : bkM (some (k + 1)) - (1 : Int32) = nI k := nI_pred k
    unfold f_X6_hidden_L83
    rw [t.1, bnd, chk_t (ib_nI (by omega) (by decide)), chk_t (ib_nI (by omega) (by decide)), nI_clamp (by omega), nI_clamp (by omega), hP _ (by omega) _ hds, hP _ (by omega) _ hd, e1]
    unfold s_nx
    by_cases e : dO T P f (s_to T r (i + 1) (tn T 1)) = some k
    · rw [if_pos (by rw [e]; rfl), if_pos (by simp [e]; omega)]
    · have hne : ¬ bkM (dO T P f (s_to T r (i + 1) (tn T 1))) = nI k := by
        intro q
        apply e
        cases q2 : dO T P f (s_to T r (i + 1) (tn T 1)) with
        | none =>
          rw [q2] at q
          exact absurd q.symm (nI_m1 (by omega))
        | some k' =>
          rw [q2] at q hds
          have h8 := ds_le hT.1 hf hds
          rw [(nI_eq (by omega) (by omega)).mp q]
      rw [if_neg hne, if_neg (by simp [e]), ← nI_succ]) (fun h => by
    rw [hj] at h
    cases h)
  have hjl := (s_fst_lt hj).1
  refine ⟨?_, (thr j hjl).1⟩
  change iter _ FU (nI 1) = _
  rw [show iter (f_X6_hidden_L83 M (nI r)) FU (nI 1) = _ from g, hj]
theorem Q_hidden (hA : RA A) (hC : RC kt A S) (hM : RM s A M) (x y z : Int32) : ans S M (f_X5_hidden S x y z) (f_X6_hidden M x y z) := by
  have b0 := hC.1.1.1
  have b3 := hC.1.1.2.2.2.1
  have L13 : wk_n wd_C (ky 0 13) = 8 := lnC (show cl_C 0 = 5 from rfl) (by decide) rfl
  unfold f_X5_hidden f_X6_hidden
  rcases vld x (n := tn (aT A) 0) (by omega) with ⟨r, hr, rfl⟩ | hx
  · rw [C_rooI hC hr, M_rooI hM hr, bnd, bnd, if_neg ne10, if_neg ne10]
    rcases vld y (n := tn (aT A) 0) (by omega) with ⟨o, ho, rfl⟩ | hy
    · rw [C_rooI hC ho, M_rooI hM ho, bnd, bnd, if_neg ne10, if_neg ne10]
      rcases vld z (n := 2) (by decide) with ⟨w, hw, rfl⟩ | hz
      · rw [C_wIl (n := 2) (m := 2) rfl hw (by decide), M_wIl (n := 2) (m := 1) (by decide) hw (by decide), bnd, bnd, if_neg ne10, if_neg ne10]
        obtain ⟨M1, v, t1, c1, i1, hM1, o1⟩ := M_cop hM
        have hwl := s_or_lt8 (f := s_wb (aX A)) (tn (aT A) 3) (fun j hj => s_wb_lt hC.1.1 hC.2.1.1 hj)
        have hdl : s_dark (aT A) (aX A) < 256 := xor_lt _ hwl
        rw [C_dark hC, bnd, v, bnd, M_watched t1 c1, bnd, dk_n _ hwl, lt_e]
        change ans S M _ ((f_X6_fillsFar M1 (nI o) (nI (s_dark (aT A) (aX A)))).bind _)
        obtain ⟨S2, w1, o2, g1⟩ := C_steps hC (f := o) (c := s_dark (aT A) (aX A)) (by omega) hdl
        obtain ⟨M2, w2, o3, g2⟩ := M_far t1 (f := o) (c := s_dark (aT A) (aX A)) (by omega) hdl
        have rc := RC_on hC (on_mono (fun q e => Or.inr (Or.inr (Or.inl e))) o2)
        have rm := RM_on hM1 (on_mono (fun q hq => by
          obtain ⟨f, hf, e⟩ := hq
          exact ⟨f, (by decide : ∀ f ∈ [66], f ∈ fsQ) f hf, e⟩) o3)
        have t3 := tM_fs (by decide) t1 o3
        have hd := dO_s (aT A) (fun i => (s_dark (aT A) (aX A)).testBit i) o r
        rw [w1, bnd, w2, bnd, at_nI L13 (by omega) (by decide), bnd, chk_t (ib_nI (by omega) (by decide)), nI_clamp (by omega), g1 _ (by omega) _ hd, g2 _ (by omega) _ hd]
        cases e : dO (aT A) (fun i => (s_dark (aT A) (aX A)).testBit i) o r with
        | none =>
          rw [if_neg (show ¬ oC none < (1000 : Int32) by decide), if_neg (show ¬ (0 : Int32) ≤ bkM none by decide)]
          exact ans_ss hA rc rm (-2) rfl rfl
        | some k =>
          rw [e] at hd
          have hk := ds_le hC.1.1 (by omega) hd
          rw [if_pos (show oC (some k) < (1000 : Int32) from nI_lt (b := 1000) (by omega) (by decide)), if_pos (show (0 : Int32) ≤ bkM (some k) from nI_pos' (by omega))]
          rcases (show w = 0 ∨ w = 1 by omega) with rfl | rfl
          · rw [if_pos (show nI 0 = (0 : Int32) from rfl), if_pos (show nI 0 = (0 : Int32) from rfl), chk_t (ib_nI (by omega) (by decide))]
            exact ans_ss hA rc rm (nI k) rfl rfl
          · rw [if_neg (show ¬ nI 1 = (0 : Int32) by decide), if_neg (show ¬ nI 1 = (0 : Int32) by decide)]
            by_cases k0 : k = 0
            · subst k0
              have ero : r = o := hd.1.1
              rw [if_pos (show oC (some 0) = 0 from rfl), if_pos (by rw [ero])]
              exact ans_ss hA rc rm (nI r) rfl rfl
            · obtain ⟨k', rfl⟩ : ∃ k', k = k' + 1 := ⟨k - 1, by omega⟩
              have nro : ¬ nI r = nI o := by
                intro q
                have ero := (nI_eq (by omega) (by omega)).mp q
                exact hd.2 0 (by omega) ⟨ero, Dk_P _ _ hd.1⟩
              obtain ⟨i, hi, hp⟩ := s_nx_ex hC.1.1 hd
              obtain ⟨j, hj⟩ := s_fst_some hi hp
              have n1 := C_next rc (f := o) (by omega) hr (by omega) g1 hj
              have n2 := M_next t3 (f := o) (by omega) hr (by omega) hd g2 hj
              have e1 : oC (some (k' + 1)) - (1 : Int32) = nI k' := nI_pred k'
              rw [if_neg (show ¬ oC (some (k' + 1)) = 0 from nI_nz (by omega) (by omega)), if_neg nro, e1, n1, bnd, n2.1, bnd, n2.2, bnd]
              exact ans_ss hA rc rm _ rfl rfl
      · rw [C_wOl (n := 2) (m := 2) rfl hz, M_wOl (n := 2) (m := 1) (by decide) (by decide) hz, bnd, bnd, if_pos rfl, if_pos rfl]
        exact ans_ss hA hC hM (-1) rfl rfl
    · rw [C_rooO hC hy, M_rooO hM hy, bnd, bnd, if_pos rfl, if_pos rfl]
      exact ans_ss hA hC hM (-1) rfl rfl
  · rw [C_rooO hC hx, M_rooO hM hx, bnd, bnd, if_pos rfl, if_pos rfl]
    exact ans_ss hA hC hM (-1) rfl rfl
end QN
