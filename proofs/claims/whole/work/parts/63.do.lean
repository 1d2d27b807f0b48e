/-! WHAT IS DONE, both sides. -/
def aUp (A : AB) (X : CT) (u : Nat) (H : Nat → CT) : AB := (aT A, X, u, H, A.2.2.2.2)
abbrev fsN : List Nat := [49, 50, 51, 52, 53, 54, 55, 56, 57, 58, 59, 60, 61, 62]
theorem kC6_n {k kt f : Nat} (hk : cl_C k = 0) (hf : f < 100) (hkt : kt = 2 ∨ kt = 3) : ¬ kC k kt (ky 6 f) := by
  intro q
  rcases q with ⟨g, g1, g2, e⟩ | e | e
  · have := (ky_iff hf (by omega)).mp e
    rw [← this.1] at hk
    cases hk
  · have := (ky_iff hf (by omega)).mp e
    omega
  · have := (ky_iff hf (by omega)).mp e
    omega
theorem hC_kC {k kt u : Nat} {H : Nat → CT} {S S' : St} {T : TX} (h : hC u H S T) (hk : cl_C k = 0) (hkt : kt = 2 ∨ kt = 3) (o : on (kC k kt) S S') : hC u H S' T := by
  obtain ⟨a, fi, b, c, d, e⟩ := h
  refine ⟨a, fi, b, ?_, ?_, ?_⟩
  · rw [(o _ (kC6_n hk (by decide) hkt)).1]; exact c
  · rw [(o _ (kC6_n hk (by decide) hkt)).1]; exact d
  · rw [(o _ (kC6_n hk (by decide) hkt)).2.1]; exact e
/-- keys that neither the past nor the court's minutes write -/
theorem kPC_n {kt c f : Nat} (hkt : kt = 2 ∨ kt = 3) (hf : f < 100) (h1 : c ≠ 10) (h2 : c = kt + 2 → f < 5) (h3 : c ≠ 6) : ¬ (kP (ky c f) ∨ kC 10 kt (ky c f)) := by
  rintro (q | ⟨g, g1, g2, e⟩ | e | e)
  · exact nkP h3 hf q
  · exact h1 ((ky_iff hf (by omega)).mp e).1
  · have := (ky_iff hf (by decide)).mp e
    have := h2 this.1
    omega
  · have := (ky_iff hf (by decide)).mp e
    have := h2 this.1
    omega
theorem RC_new {kt u : Nat} {H : Nat → CT} {A : AB} {X : CT} {S S' : St} (h : RC kt A S) (o : on (fun q => kP q ∨ kC 10 kt q) S S') (t : tC kt S' (aT A)) (c : cC 10 kt S' (aT A) X) (hh : hC u H S' (aT A)) : RC kt (aUp A X u H) S' := by
  obtain ⟨h1, h2, h3, h4, h5, h6, h7, h8, h9⟩ := h
  have hkt := h1.2.1
  have n0 : ∀ f, f < 100 → ¬ (kP (ky 0 f) ∨ kC 10 kt (ky 0 f)) := fun f hf => kPC_n hkt hf (by decide) (fun e => by omega) (by decide)
  refine ⟨t, c, ?_, hh, ?_, ?_, ?_, ?_, ?_⟩
  · rw [(o _ (n0 4 (by decide))).2.2.2.2, (o _ (n0 5 (by decide))).2.2.2.2]
    exact h3
  · refine ⟨?_, fun j hj Y hY => cC_on (h5.2 j hj Y hY) o (fun f hf => kPC_n hkt (by omega) (by omega) (fun e => by omega) (by omega))⟩
    rw [(o _ (n0 10 (by decide))).1]; exact h5.1
  · refine ⟨?_, ?_⟩
    · rw [(o _ (n0 12 (by decide))).1]; exact h6.1
    · rw [(o _ (n0 11 (by decide))).2.1]; exact h6.2
  · rw [(o _ (n0 1 (by decide))).1, (o _ (n0 0 (by decide))).2.1]
    exact h7
  · rw [(o _ (n0 2 (by decide))).1]
    exact h8
  · rw [(o _ (kPC_n hkt (by decide) (by decide) (fun e => by omega) (by decide))).2.2.2.1]
    exact h9
theorem RM_new {s u : Nat} {H : Nat → CT} {A : AB} {X : CT} {S S' : St} (h : RM s A S) (o : on (kM fsN) S S') (t : tM s S' (aT A)) (c : cM 52 53 54 55 S' (aT A) X) (hh : hM u H S' (aT A)) : RM s (aUp A X u H) S' := by
  obtain ⟨h1, h2, h3, h4, h5, h6, h7, h8⟩ := h
  have n0 : ∀ f, f < 100 → f ∉ fsN → ¬ kM fsN (ky 0 f) := fun f hf hn => kM_n (by decide) hf hn
  refine ⟨t, c, hh, ⟨?_, ?_⟩, ⟨?_, ?_⟩, ?_, ?_, ?_⟩
  · rw [(o _ (n0 72 (by decide) (by decide))).2.1]; exact h4.1
  · rw [(o _ (n0 73 (by decide) (by decide))).2.1, (o _ (n0 74 (by decide) (by decide))).2.1]; exact h4.2
  · rw [(o _ (n0 67 (by decide) (by decide))).1]; exact h5.1
  · rw [(o _ (n0 68 (by decide) (by decide))).2.1, (o _ (n0 69 (by decide) (by decide))).2.1, (o _ (n0 70 (by decide) (by decide))).2.1, (o _ (n0 71 (by decide) (by decide))).2.1]; exact h5.2
  · rw [(o _ (n0 2 (by decide) (by decide))).1, (o _ (n0 1 (by decide) (by decide))).2.1]; exact h6
  · rw [(o _ (n0 17 (by decide) (by decide))).1]; exact h7
  · rw [(o _ (n0 9 (by decide) (by decide))).2.2.2.1]; exact h8
theorem RA_new {A : AB} {X : CT} (h : RA A) (hu : au A ≤ 20) (hc : cb (aT A) (aX A)) (hl : okL (aT A) X) (hp : pre (aT A) (aX A) X) : RA (aUp A X (h_u (au A)) (h_add (au A) (aH A) (aX A))) := ⟨hl, hX_add hu h.2.1 hc h.1 hp, h.2.2⟩
section DO
variable {kt s : Nat} {A : AB} {S M : St}
theorem C_do (h : RC kt A S) {X : CT} (f : St → Option St) (hf : ∀ S1, tC kt S1 (aT A) → cC 10 kt S1 (aT A) (aX A) → ∃ S2, f S1 = some S2 ∧ tC kt S2 (aT A) ∧ cC 10 kt S2 (aT A) X ∧ on (kC 10 kt) S1 S2) : ∃ S1 S2, f_X2_keep 10 S = some S1 ∧ f S1 = some S2 ∧ RC kt (aUp A X (h_u (au A)) (h_add (au A) (aH A) (aX A))) S2 := by
  obtain ⟨S1, w1, h1, o1⟩ := C_keep h.1 h.2.1 h.2.2.2.1
  obtain ⟨S2, w2, t2, c2, o2⟩ := hf S1 (tC_P h.1 o1) (cC_P h.2.1 o1)
  exact ⟨S1, S2, w1, w2, RC_new h (on_trans (on_mono (fun _ => Or.inl) o1) (on_mono (fun _ => Or.inr) o2)) t2 c2 (hC_kC h1 rfl h.1.2.1 o2)⟩
theorem fsW_N (q : Nat) (h : kM fsW q) : kM fsN q := by
  obtain ⟨f, hf, e⟩ := h
  exact ⟨f, (by decide : ∀ f ∈ fsW, f ∈ fsN) f hf, e⟩
theorem fsC_N (q : Nat) (h : kM fsC q) : kM fsN q := by
  obtain ⟨f, hf, e⟩ := h
  exact ⟨f, (by decide : ∀ f ∈ fsC, f ∈ fsN) f hf, e⟩
theorem fsU_N (q : Nat) (h : kM [52, 53, 54, 55, 61, 62] q) : kM fsN q := by
  obtain ⟨f, hf, e⟩ := h
  exact ⟨f, (by decide : ∀ f ∈ [52, 53, 54, 55, 61, 62], f ∈ fsN) f hf, e⟩
theorem hM_on {K : Nat → Prop} {u : Nat} {H : Nat → CT} {S S' : St} {T : TX} (h : hM u H S T) (o : on K S S') (h1 : ¬ K (ky 0 61)) (h2 : ¬ K (ky 0 62)) : hM u H S' T := ⟨h.1, by rw [(o _ h1).1]; exact h.2.1, by rw [(o _ h2).2.1]; exact h.2.2⟩
theorem M_do (h : RM s A M) {X : CT} (hp : pre (aT A) (aX A) X) (f : St → Option St) (hf : ∀ M1, tM s M1 (aT A) → cM 56 57 58 59 M1 (aT A) (aX A) → st_I M1 (ky 0 60) = nI (tn (aT A) 5) → st_I M1 (ky 0 53) = nI (cn (aX A)) → ∃ M2, f M1 = some M2 ∧ tM s M2 (aT A) ∧ cM 56 57 58 59 M2 (aT A) X ∧ on (kM fsC) M1 M2) : ∃ M1 M2 M3, f_X6_copies M = some M1 ∧ f M1 = some M2 ∧ f_X6_keeps M2 = some M3 ∧ RM s (aUp A X (h_u (au A)) (h_add (au A) (aH A) (aX A))) M3 := by
  obtain ⟨M1, w1, t1, c1, i1, o1⟩ := M_copies h.1 h.2.1
  have b1 := cM_on h.2.1 o1 (kM_n (by decide) (by decide) (by decide)) (kM_n (by decide) (by decide) (by decide)) (kM_n (by decide) (by decide) (by decide)) (kM_n (by decide) (by decide) (by decide))
  obtain ⟨M2, w2, t2, c2, o2⟩ := hf M1 t1 c1 i1 b1.2.1
  have b2 := cM_on b1 o2 (kM_n (by decide) (by decide) (by decide)) (kM_n (by decide) (by decide) (by decide)) (kM_n (by decide) (by decide) (by decide)) (kM_n (by decide) (by decide) (by decide))
  have g2 := hM_on (hM_on h.2.2.1 o1 (kM_n (by decide) (by decide) (by decide)) (kM_n (by decide) (by decide) (by decide))) o2 (kM_n (by decide) (by decide) (by decide)) (kM_n (by decide) (by decide) (by decide))
  obtain ⟨M3, w3, t3, c3, h3, o3⟩ := M_keeps t2 b2 c2 hp g2
  exact ⟨M1, M2, M3, w1, w2, w3, RM_new h (on_trans (on_mono fsW_N o1) (on_trans (on_mono fsC_N o2) (on_mono fsU_N o3))) t3 c3 h3⟩
theorem M_becomes (h : RM s A M) {X : CT} (hp : pre (aT A) (aX A) X) {j : Nat} (hj : j < 36) (v : Int32) (hf : ∀ M1, tM s M1 (aT A) → cM 56 57 58 59 M1 (aT A) (aX A) → ∃ M2, f_X6_fillsLate (up_A M1 (ky 0 56) (upd (st_A M1 (ky 0 56)) (36 * cn (aX A) + j) v)) = some M2 ∧ tM s M2 (aT A) ∧ cM 56 57 58 59 M2 (aT A) X ∧ on (kM fsC) M1 M2) : ∃ M', f_X6_becomes M (nI j) v = some M' ∧ RM s (aUp A X (h_u (au A)) (h_add (au A) (aH A) (aX A))) M' := by
  have hn := h.2.1.1.1
  obtain ⟨M1, M2, M3, w1, w2, w3, r⟩ := M_do h hp (fun M1 => f_X6_fillsLate (up_A M1 (ky 0 56) (upd (st_A M1 (ky 0 56)) (36 * cn (aX A) + j) v))) (fun M1 t1 c1 _ _ => hf M1 t1 c1)
  refine ⟨M3, ?_, r⟩
  have e1 : st_I M1 (ky 0 57) = nI (cn (aX A)) := by
    obtain ⟨M1', w1', t1, c1, i1, o1⟩ := M_copies h.1 h.2.1
    have : M1' = M1 := Option.some.inj (w1'.symm.trans w1)
    rw [← this]
    exact c1.2.1
  unfold f_X6_becomes
  rw [w1, bnd, e1, i0', chk_t (ib_nI (by omega) (by decide)), nI_clamp (by omega), lt_e]
  change (f_X6_fillsLate _).bind _ = _
  rw [show f_X6_fillsLate (up_A M1 (ky 0 56) (upd (st_A M1 (ky 0 56)) (36 * cn (aX A) + j) v)) = some M2 from w2, bnd, w3, bnd]
theorem M_now (h : RM s A M) {j : Nat} (hj : j < 36) : f_X6_nowOf M (nI j) = some (st_A M (ky 0 52) (36 * cn (aX A) + j)) := by
  have hn := h.2.1.1.1
  unfold f_X6_nowOf
  rw [h.2.1.2.1, i0', chk_t (ib_nI (by omega) (by decide)), nI_clamp (by omega)]
/-- both answer v, and stay beside each other -/
def ans (S M : St) (f g : Option (Int32 × St)) : Prop := ∃ v S' M', f = some (v, S') ∧ g = some (v, M') ∧ RW S' M'
theorem ans_no (hA : RA A) (hC : RC kt A S) (hM : RM s A M) {f g : Option (Int32 × St)} (v : Int32) (hf : f = some (v, S)) (hg : g = some (v, M)) : ans S M f g := ⟨v, S, M, hf, hg, A, kt, s, hA, hC, hM⟩
theorem Q_raise (hA : RA A) (hC : RC kt A S) (hM : RM s A M) (x y : Int32) : ans S M (f_X5_raise S x y) (f_X6_raise M x y) := by
  have b2 := hC.1.1.2.2.1
  have hn := hC.2.1.1.1
  unfold f_X5_raise f_X6_raise
  rcases vld x (n := tn (aT A) 2) (by omega) with ⟨a, ha, rfl⟩ | hx
  · rw [C_manI hC ha, M_manI hM ha]
    rw [bnd, bnd, if_neg (by decide), if_neg (by decide)]
    have hR : f_X5_isRank y = (f_X5_within y (nI 21)).bind some := by
      unfold f_X5_isRank f_X5_within
      by_cases c : y < 0
      · rw [if_pos c, if_pos c]; rfl
      · rw [if_neg c, if_neg c]
        obtain ⟨j, hj, rfl⟩ := nI_of c
        by_cases d : j ≤ 20
        · rw [if_neg (show ¬ nI 21 ≤ nI j from nI_ge (by omega) (by decide))]
          have := nI_nlt (a := 20) (b := j) d (by decide)
          first
            | rw [if_neg (show ¬ (20 : Int32) < nI j from this)]; rfl
            | rw [if_pos (show nI j ≤ (20 : Int32) from nI_le d (by decide))]; rfl
        · rw [if_pos (show nI 21 ≤ nI j from nI_le (by omega) hj)]
          first
            | rw [if_pos (show (20 : Int32) < nI j from nI_lt (a := 20) (by omega) hj)]; rfl
            | rw [if_neg (show ¬ nI j ≤ (20 : Int32) from nI_ge (a := 20) (by omega) hj)]; rfl
    rw [hR]
    rcases vld y (n := 21) (by decide) with ⟨r, hr, rfl⟩ | hy
    · rw [C_wi hr (by decide)]
      change ans S M _ ((f_X6_in (nI r) 0 (nI 21 - 1)).bind _)
      rw [M_wi hr (by decide), bnd, bnd, if_neg (by decide), bnd, if_neg (by decide)]
      have e6 : (6 : Int32) + nI a = nI (6 + a) := nI_add 6 a
      have row := (hM.2.1.2.2.1 (cn (aX A)) (Nat.le_refl _)).1 a ha
      rw [hC.2.1.2.2.2.1, C_rank hC.1 hC.2.1 ha (Nat.le_refl _), bnd, e6, M_now hM (by omega), bnd, ← Nat.add_assoc, row.2]
      by_cases c : nI (cf (aX A) 1 (cn (aX A)) a) = nI r
      · rw [if_pos c, if_pos c]
        exact ans_no hA hC hM 0 rfl rfl
      · rw [if_neg c, if_neg c]
        have hpre := pre_put (aT A) (aX A) 1 a r (by decide)
        obtain ⟨S1, S2, w1, w2, rc⟩ := C_do hC (X := x_put (aT A) (aX A) 1 a r) (fun S => f_X0_putRank 10 S (nI a) (nI r)) (fun S1 t1 c1 => C_putRank t1 c1 ha (by omega))
        obtain ⟨M', w3, rm⟩ := M_becomes hM hpre (j := 6 + a) (by omega) (nI r) (fun M1 t1 c1 => by rw [← Nat.add_assoc]; exact M_putRank t1 c1 ha (by omega))
        refine ⟨1, S2, M', ?_, ?_, _, kt, s, RA_new hA hM.2.2.1.1 hC.2.1.1 (okL_lat _ _) hpre, rc, rm⟩
        · rw [w1, bnd]
          change (f_X0_putRank 10 S1 (nI a) (nI r)).bind _ = _
          rw [show f_X0_putRank 10 S1 (nI a) (nI r) = some S2 from w2, bnd]
        · rw [w3, bnd]
    · rw [C_wo hy]
      change ans S M _ ((f_X6_in y 0 (nI 21 - 1)).bind _)
      rw [M_wo (by decide) hy, bnd, bnd, if_pos rfl, bnd, if_pos rfl]
      exact ans_no hA hC hM 0 rfl rfl
  · rw [C_manO hC hx, M_manO hM hx, bnd, bnd, if_pos rfl, if_pos rfl]
    exact ans_no hA hC hM 0 rfl rfl
theorem Q_carry (hA : RA A) (hC : RC kt A S) (hM : RM s A M) (x y : Int32) : ans S M (f_X5_carry S x y) (f_X6_carry M x y) := by
  have b0 := hC.1.1.1
  have b3 := hC.1.1.2.2.2.1
  have hn := hC.2.1.1.1
  unfold f_X5_carry f_X6_carry
  rcases vld x (n := tn (aT A) 3) (by omega) with ⟨a, ha, rfl⟩ | hx
  · rw [C_mirI hC ha, M_mirI hM ha, bnd, bnd, if_neg (by decide), if_neg (by decide)]
    rcases vld y (n := tn (aT A) 0) (by omega) with ⟨r, hr, rfl⟩ | hy
    · rw [C_rooI hC hr, M_rooI hM hr, bnd, bnd, if_neg (by decide), if_neg (by decide)]
      have e6 : (12 : Int32) + nI a = nI (12 + a) := nI_add 12 a
      have row := (hM.2.1.2.2.1 (cn (aX A)) (Nat.le_refl _)).2 a ha
      rw [hC.2.1.2.2.2.1, C_hang hC.1 hC.2.1 ha (Nat.le_refl _), bnd, e6, M_now hM (by omega), bnd, ← Nat.add_assoc, row.1]
      by_cases c : nI (cf (aX A) 2 (cn (aX A)) a) = nI r
      · rw [if_pos c, if_pos c]
        exact ans_no hA hC hM 0 rfl rfl
      · rw [if_neg c, if_neg c]
        have hpre := pre_put (aT A) (aX A) 2 a r (by decide)
        obtain ⟨S1, S2, w1, w2, rc⟩ := C_do hC (X := x_put (aT A) (aX A) 2 a r) (fun S => f_X0_putMirror 10 S (nI a) (nI r)) (fun S1 t1 c1 => C_putMirror t1 c1 ha hr)
        obtain ⟨M', w3, rm⟩ := M_becomes hM hpre (j := 12 + a) (by omega) (nI r) (fun M1 t1 c1 => by rw [← Nat.add_assoc]; exact M_putMirror t1 c1 ha hr)
        refine ⟨1, S2, M', ?_, ?_, _, kt, s, RA_new hA hM.2.2.1.1 hC.2.1.1 (okL_lat _ _) hpre, rc, rm⟩
        · rw [w1, bnd]
          change (f_X0_putMirror 10 S1 (nI a) (nI r)).bind _ = _
          rw [show f_X0_putMirror 10 S1 (nI a) (nI r) = some S2 from w2, bnd]
        · rw [w3, bnd]
    · rw [C_rooO hC hy, M_rooO hM hy, bnd, bnd, if_pos rfl, if_pos rfl]
      exact ans_no hA hC hM 0 rfl rfl
  · rw [C_mirO hC hx, M_mirO hM hx, bnd, bnd, if_pos rfl, if_pos rfl]
    exact ans_no hA hC hM 0 rfl rfl
theorem Q_go (hA : RA A) (hC : RC kt A S) (hM : RM s A M) (x y : Int32) : ans S M (f_X5_go S x y) (f_X6_go M x y) := by
  have b0 := hC.1.1.1
  have b2 := hC.1.1.2.2.1
  have hn := hC.2.1.1.1
  unfold f_X5_go f_X6_go
  rcases vld x (n := tn (aT A) 2) (by omega) with ⟨a, ha, rfl⟩ | hx
  · rw [C_manI hC ha, M_manI hM ha, bnd, bnd, if_neg (by decide), if_neg (by decide)]
    have row := (hM.2.1.2.2.1 (cn (aX A)) (Nat.le_refl _)).1 a ha
    have hr := ((hC.2.1.1.2.1 (cn (aX A)) (Nat.le_refl _)).1 a ha).1
    have hwl := s_ways_lt hC.1.1 (cf (aX A) 0 (cn (aX A)) a)
    rw [chk_t (RC_T hC), hC.2.1.2.2.2.1, C_room hC.1 hC.2.1 ha (Nat.le_refl _), bnd, hC.2.2.1.1]
    have no : (∀ k : Nat, k < 2 ^ 31 → y = nI k → k < 1 ∨ s_ways (aT A) (cf (aX A) 0 (cn (aX A)) a) < k) → f_X4_wayTo kt S (nI (cf (aX A) 0 (cn (aX A)) a)) y = some (-1) := by
      intro hk
      have := C_wayTo hC.1 (r := cf (aX A) 0 (cn (aX A)) a) (by omega) (x := y) (o := none) (fun k hk1 hk2 d hd hh => by
        have q := s_hit_lt hd hh
        have := hk k hk1 hk2
        omega) (fun _ => rfl)
      exact this
    by_cases c1 : y < 1
    · rw [if_pos c1, no (fun k hk e => by
        left
        rw [e] at c1
        exact (nI_ltI (b := 1) hk (by decide)).mp c1), bnd, if_pos rfl]
      exact ans_no hA hC hM 0 rfl rfl
    · rw [if_neg c1, M_now hM (by omega), bnd, row.1, M_ways hM.1 (by omega), bnd]
      have c0 : ¬ y < 0 := fun q => c1 (Int32.lt_trans q (by decide))
      obtain ⟨k, hk, rfl⟩ := nI_of c0
      have k1 : 1 ≤ k := by
        rcases Nat.lt_or_ge k 1 with q | q
        · exact absurd (nI_lt (b := 1) q (by decide)) c1
        · exact q
      by_cases c2 : k ≤ s_ways (aT A) (cf (aX A) 0 (cn (aX A)) a)
      · have ho := s_to_thr (T := aT A) (r := cf (aX A) 0 (cn (aX A)) a) k1 c2
        have hto : s_to (aT A) (cf (aX A) 0 (cn (aX A)) a) k (tn (aT A) 1) < tn (aT A) 0 := by
          obtain ⟨d, hd, hh, e⟩ := ho
          rw [e]
          exact s_end_lt hC.1.1 hd
        have hw := C_wayTo hC.1 (r := cf (aX A) 0 (cn (aX A)) a) (by omega) (x := nI k) (o := some (s_to (aT A) (cf (aX A) 0 (cn (aX A)) a) k (tn (aT A) 1))) (fun k' hk' ek => by
          have := (nI_eq hk hk').mp ek
          rw [← this]
          exact ho) (fun q => absurd q (nI_pos hk))
        rw [hw, bnd, if_pos (nI_le c2 (by omega)), bnd, M_thr hM.1 (by omega) hk ho, bnd]
        change ans S M (if nI (s_to (aT A) (cf (aX A) 0 (cn (aX A)) a) k (tn (aT A) 1)) = -1 then _ else _) _
        rw [if_neg (nI_m1 (by omega))]
        have hpre := pre_put (aT A) (aX A) 0 a (s_to (aT A) (cf (aX A) 0 (cn (aX A)) a) k (tn (aT A) 1)) (by decide)
        obtain ⟨S1, S2, w1, w2, rc⟩ := C_do hC (X := x_put (aT A) (aX A) 0 a (s_to (aT A) (cf (aX A) 0 (cn (aX A)) a) k (tn (aT A) 1))) (fun S => f_X0_putMan 10 S (nI a) (nI (s_to (aT A) (cf (aX A) 0 (cn (aX A)) a) k (tn (aT A) 1)))) (fun S1 t1 c1 => C_putMan t1 c1 ha hto)
        obtain ⟨M', w3, rm⟩ := M_becomes hM hpre (j := a) (by omega) (nI (s_to (aT A) (cf (aX A) 0 (cn (aX A)) a) k (tn (aT A) 1))) (fun M1 t1 c1 => M_putMan t1 c1 ha hto)
        refine ⟨1, S2, M', ?_, ?_, _, kt, s, RA_new hA hM.2.2.1.1 hC.2.1.1 (okL_lat _ _) hpre, rc, rm⟩
        · rw [w1, bnd]
          change (f_X0_putMan 10 S1 (nI a) (nI (s_to (aT A) (cf (aX A) 0 (cn (aX A)) a) k (tn (aT A) 1)))).bind _ = _
          rw [show f_X0_putMan 10 S1 (nI a) (nI (s_to (aT A) (cf (aX A) 0 (cn (aX A)) a) k (tn (aT A) 1))) = some S2 from w2, bnd]
        · rw [w3, bnd]
      · rw [no (fun k' hk' e => by
          right
          have := (nI_eq hk hk').mp e
          omega), bnd, if_pos rfl, if_neg (nI_ge (by omega) hk)]
        exact ans_no hA hC hM 0 rfl rfl
  · rw [C_manO hC hx, M_manO hM hx, bnd, bnd, if_pos rfl, if_pos rfl]
    exact ans_no hA hC hM 0 rfl rfl
end DO
