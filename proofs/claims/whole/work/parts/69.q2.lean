/-! QUESTIONS: visits, one mirror, looks. -/
theorem s_in_le {T : TX} {X : CT} (h : cb T X) {m v o w : Nat} (ho : o < tn T 3) (e : s_in X m v o = some w) : w ≤ v := by
  unfold s_in at e
  split at e
  · cases e
  · split at e
    · exact s_show_le h ho e
    · cases e
section QB
variable {k kt s : Nat} {A : AB} {S M M' : St} {T : TX} {X : CT}
theorem C_seenO (hT : tC kt S T) (h : cC k kt S T X) {m o : Nat} (hm : m < tn T 3) (ho : o < tn T 3) (ov : Option Nat) (hv : ∀ v, ov = some v → v ≤ cn X) : f_X0_seenIn k S (nI m) (oI ov) (nI o) = some (oI (ov.bind (fun v => s_in X m v o))) := by
  cases ov with
  | none => exact C_seenIn0 _ _
  | some v => exact C_seenIn hT h hm ho (hv v rfl)
theorem M_seenO (hT : tM s S T) (h : cM 56 57 58 59 S T X) {m o : Nat} (hm : m < tn T 3) (ho : o < tn T 3) (ov : Option Nat) (hv : ∀ v, ov = some v → v ≤ cn X) : f_X6_seenIn S (nI m) (oI ov) (nI o) = some (oI (ov.bind (fun v => s_in X m v o))) := by
  cases ov with
  | none => exact M_seenIn0 _ _
  | some v => exact M_seenIn hT h hm ho (hv v rfl)
theorem seenO_le (h : cb T X) {m o : Nat} (ho : o < tn T 3) {ov : Option Nat} {t : Nat} (hv : ∀ v, ov = some v → v ≤ t) : ∀ w, ov.bind (fun v => s_in X m v o) = some w → w ≤ t := by
  intro w e
  cases ov with
  | none => cases e
  | some v => exact Nat.le_trans (s_in_le h ho e) (hv v rfl)
theorem Q_visits (hA : RA A) (hC : RC kt A S) (hM : RM s A M) (x y : Int32) : ans S M (pu S (f_X5_visits S x y)) (pu M (f_X6_visits M x y)) := by
  have b0 := hC.1.1.1
  have b2 := hC.1.1.2.2.1
  have hn := hC.2.1.1.1
  unfold f_X5_visits f_X6_visits
  rcases vld x (n := tn (aT A) 2) (by omega) with ⟨a, ha, rfl⟩ | hx
  · rw [C_manI hC ha, M_manI hM ha, bnd, bnd, if_neg ne10, if_neg ne10]
    have key : ∀ (p : Nat → Bool), (y = -1 ∧ p = (fun t => decide (0 < t) && !(cf (aX A) 0 t a == cf (aX A) 0 (t - 1) a))) ∨ (∃ r, r < tn (aT A) 0 ∧ y = nI r ∧ p = fun t => cf (aX A) 0 t a == r) → f_X5_visits_J23 S (nI a) y = some (nI (s_cnt p (cn (aX A) + 1))) ∧ f_X6_visits_J23 M (nI a) y = some (nI (s_cnt p (cn (aX A) + 1))) := by
      intro p hp
      have hy : y = -1 ∨ ¬ y = -1 := by
        rcases hp with ⟨h, _⟩ | ⟨r, hr, h, _⟩
        · exact Or.inl h
        · right
          rw [h]
          exact nI_m1 (by omega)
      constructor
      · unfold f_X5_visits_J23
        refine iter_FU (step := f_X5_visits_L28 S (nI a) y) (fun i => (nI (s_cnt p i), nI i)) (cn (aX A) + 1) (by omega) (fun i hi => ?_) ?_
        · have h1 := ((hC.2.1.1.2.1 i (by omega)).1 a ha).1
          have J : ∀ b : Bool, (y = -1 → b = p i) → f_X5_visits_J79 S (nI a) y (nI (s_cnt p i)) (nI i) (nI (cf (aX A) 0 i a)) (if b then 1 else 0) = some (.inl (nI (s_cnt p (i + 1)), nI (i + 1))) := by
            intro b hb
            unfold f_X5_visits_J79
            rw [s_cnt, ← nI_succ, ← nI_succ]
            rcases hp with ⟨h, hpp⟩ | ⟨r, hr, h, hpp⟩
            · rw [if_pos h, ← hb h]
              cases b <;> rfl
            · rw [if_neg (by rw [h]; exact nI_m1 (by omega)), h]
              by_cases c : cf (aX A) 0 i a = r
              · have hpi : p i = true := by rw [hpp]; simp [c]
                rw [if_pos (by rw [c]), if_pos hpi]
              · have hpi : ¬ p i = true := by rw [hpp]; simp [c]
                rw [if_neg (fun q => c ((nI_eq (by omega) (by omega)).mp q)), if_neg hpi]
                rfl
          unfold f_X5_visits_L28 f_X5_visits_J78
          rw [hC.2.1.2.2.2.1, if_neg (show ¬ nI (cn (aX A)) < nI i from nI_nlt (by omega) (by omega)), C_room hC.1 hC.2.1 ha (by omega), bnd]
          by_cases z : i = 0
          · subst z
            rw [if_pos (show nI 0 ≤ (0 : Int32) by decide)]
            exact J false (fun h => by
              rcases hp with ⟨_, hpp⟩ | ⟨r, hr, h', hpp⟩
              · rw [hpp]; rfl
              · rw [h'] at h
                exact absurd h (nI_m1 (by omega)))
          · rw [if_neg (nI_np (by omega) (by omega))]
            have e1 : nI i - (1 : Int32) = nI (i - 1) := pk_sub (b := 1) (by omega)
            have h2 := ((hC.2.1.1.2.1 (i - 1) (by omega)).1 a ha).1
            rw [e1, C_room hC.1 hC.2.1 ha (by omega), bnd]
            by_cases c : cf (aX A) 0 i a = cf (aX A) 0 (i - 1) a
            · rw [if_pos (by rw [c])]
              exact J false (fun h => by
                rcases hp with ⟨_, hpp⟩ | ⟨r, hr, h', hpp⟩
                · rw [hpp]; simp [c]
                · rw [h'] at h
                  exact absurd h (nI_m1 (by omega)))
            · rw [if_neg (fun q => c ((nI_eq (by omega) (by omega)).mp q))]
              exact J true (fun h => by
                rcases hp with ⟨_, hpp⟩ | ⟨r, hr, h', hpp⟩
                · rw [hpp]; simp [c]; omega
                · rw [h'] at h
                  exact absurd h (nI_m1 (by omega)))
        · show f_X5_visits_L28 S (nI a) y (nI (s_cnt p (cn (aX A) + 1)), nI (cn (aX A) + 1)) = _
          unfold f_X5_visits_L28
          rw [hC.2.1.2.2.2.1, if_pos (show nI (cn (aX A)) < nI (cn (aX A) + 1) from nI_lt (by omega) (by omega))]
      · unfold f_X6_visits_J23
        refine iter_FU (step := f_X6_visits_L28 M (nI a) y) (fun i => (nI (s_cnt p i), nI i)) (cn (aX A) + 1) (by omega) (fun i hi => ?_) ?_
        · have h1 := ((hC.2.1.1.2.1 i (by omega)).1 a ha).1
          have row := M_past hM (t := i) (by omega) a ha
          have e36 : (36 : Int32) * nI i = nI (36 * i) := pk_mul 36 i
          unfold f_X6_visits_L28
          rw [hM.2.1.2.1, if_neg (show ¬ nI (cn (aX A)) < nI i from nI_nlt (by omega) (by omega)), e36, nI_add, chk_t (ib_nI (by omega) (by decide)), nI_clamp (by omega), row.1, lt_e, s_cnt, ← nI_succ, ← nI_succ]
          rcases hp with ⟨h, hpp⟩ | ⟨r, hr, h, hpp⟩
          · rw [if_pos h]
            by_cases z : i = 0
            · subst z
              have hpi : ¬ p 0 = true := by rw [hpp]; simp
              rw [if_pos (show nI 0 ≤ (0 : Int32) by decide), if_neg hpi]
              rfl
            · rw [if_neg (nI_np (by omega) (by omega))]
              have e1 : nI (36 * i) - (36 : Int32) = nI (36 * (i - 1)) := by
                rw [show 36 * (i - 1) = 36 * i - 36 by omega]
                exact pk_sub (b := 36) (by omega)
              have row2 := M_past hM (t := i - 1) (by omega) a ha
              have h2 := ((hC.2.1.1.2.1 (i - 1) (by omega)).1 a ha).1
              rw [e1, nI_add, chk_t (ib_nI (by omega) (by decide)), nI_clamp (by omega), row2.1]
              by_cases c : cf (aX A) 0 (i - 1) a = cf (aX A) 0 i a
              · have hpi : ¬ p i = true := by rw [hpp]; simp [c]
                rw [if_pos (by rw [c]), if_neg hpi]
                rfl
              · have hpi : p i = true := by rw [hpp]; simp; exact ⟨by omega, fun q => c q.symm⟩
                rw [if_neg (fun q => c ((nI_eq (by omega) (by omega)).mp q)), if_pos hpi]
          · rw [if_neg (by rw [h]; exact nI_m1 (by omega)), h]
            by_cases c : cf (aX A) 0 i a = r
            · have hpi : p i = true := by rw [hpp]; simp [c]
              rw [if_pos (by rw [c]), if_pos hpi]
            · have hpi : ¬ p i = true := by rw [hpp]; simp [c]
              rw [if_neg (fun q => c ((nI_eq (by omega) (by omega)).mp q)), if_neg hpi]
              rfl
        · show f_X6_visits_L28 M (nI a) y (nI (s_cnt p (cn (aX A) + 1)), nI (cn (aX A) + 1)) = _
          unfold f_X6_visits_L28
          rw [hM.2.1.2.1, if_pos (show nI (cn (aX A)) < nI (cn (aX A) + 1) from nI_lt (by omega) (by omega))]
    by_cases c : y = -1
    · rw [if_pos c, if_pos c]
      have g := key _ (Or.inl ⟨c, rfl⟩)
      exact ans_pp hA hC hM _ g.1 g.2
    · rw [if_neg c, if_neg c]
      rcases vld y (n := tn (aT A) 0) (by omega) with ⟨r, hr, rfl⟩ | hy
      · rw [C_rooI hC hr, M_rooI hM hr, bnd, bnd, if_neg ne10, if_neg ne10]
        have g := key _ (Or.inr ⟨r, hr, rfl, rfl⟩)
        exact ans_pp hA hC hM _ g.1 g.2
      · rw [C_rooO hC hy, M_rooO hM hy, bnd, bnd, if_pos rfl, if_pos rfl]
        exact ans_pp hA hC hM (-1) rfl rfl
  · rw [C_manO hC hx, M_manO hM hx, bnd, bnd, if_pos rfl, if_pos rfl]
    exact ans_pp hA hC hM (-1) rfl rfl
theorem b01 (b : Bool) : (if (if b = true then (1 : Int32) else 0) = 0 then some (0 : Int32) else some (1 : Int32)) = some (if b = true then 1 else 0) := by cases b <;> rfl
theorem Q_mirror (hA : RA A) (hC : RC kt A S) (hM : RM s A M) (x y z : Int32) : ans S M (pu S (f_X5_mirror S x y z)) (f_X6_mirror M x y z) := by
  have b0 := hC.1.1.1
  have b3 := hC.1.1.2.2.2.1
  have hn := hC.2.1.1.1
  unfold f_X5_mirror f_X6_mirror
  rcases vld x (n := tn (aT A) 3) (by omega) with ⟨m, hm, rfl⟩ | hx
  · rw [C_mirI hC hm, M_mirI hM hm, bnd, bnd, if_neg ne10, if_neg ne10]
    rcases vld y (n := cn (aX A) + 1) (by omega) with ⟨t, ht, rfl⟩ | hy
    · rw [C_pasI hC ht, M_pasI hM ht, bnd, bnd, if_neg ne10, if_neg ne10]
      have ht' : t ≤ cn (aX A) := by omega
      obtain ⟨M1, w, t1, c1, i1, hM1, o1⟩ := M_cop hM
      have row := (c1.2.2.1 t ht').2 m hm
      rw [w, bnd, M_shows t1 c1 hm ht' trivial, bnd]
      rw [C_hang hC.1 hC.2.1 hm ht', C_late hC.1 hC.2.1 hm ht' trivial, C_turned hC.1 hC.2.1 hm ht', C_broken hC.1 hC.2.1 hm ht', C_showing hC.1 hC.2.1 hm ht' trivial, C_roomShown hC.1 hC.2.1 hm ht' trivial, C_menShown hC.1 hC.2.1 hm ht' trivial]
      rw [M_hung t1 c1 hm ht', M_turned t1 c1 hm ht', M_menShown t1 c1 hm ht']
      have e28 : (36 : Int32) * nI t + 28 + nI m = nI (36 * t + 28 + m) := i36 t 28 m
      rw [e28]
      by_cases z0 : z = 0
      · rw [if_pos z0, if_pos z0]
        exact ans_ps hA hC hM1 _ rfl rfl
      rw [if_neg z0, if_neg z0]
      by_cases z1 : z = 1
      · rw [if_pos z1, if_pos z1, chk_t (ib_nI (by omega) (by decide)), nI_clamp (by omega)]
        exact ans_ps hA hC hM1 _ rfl (by rw [row.2.2 trivial])
      rw [if_neg z1, if_neg z1]
      by_cases z2 : z = 2
      · rw [if_pos z2, if_pos z2, bnd, b01, bnd]
        exact ans_ps hA hC hM1 _ rfl (by cases cw (aX A) t m <;> rfl)
      rw [if_neg z2, if_neg z2]
      by_cases z3 : z = 3
      · rw [if_pos z3, if_pos z3, bnd, b01, chk_t (ib_nI (by omega) (by decide)), chk_t (ib_nI (by omega) (by decide)), nI_clamp (by omega), (c1.2.2.2 m hm).1]
        refine ans_ps hA hC hM1 _ rfl ?_
        cases hk : ck (aX A) m with
        | none =>
          have hb : ¬ s_brk (aX A) m t = true := by
            unfold s_brk
            rw [hk]
            exact fun q => by cases q
          rw [if_neg hb, if_pos (show bkM none = -1 from rfl)]
        | some b =>
          have hbb := (hC.2.1.1.2.2 m hm b hk).1
          rw [if_neg (show ¬ bkM (some b) = -1 from nI_m1 (by omega))]
          by_cases q : b ≤ t
          · have hb : s_brk (aX A) m t = true := by
              unfold s_brk
              rw [hk]
              exact decide_eq_true q
            rw [if_pos hb, if_neg (show ¬ nI t < bkM (some b) from nI_nlt q (by omega))]
          · have hb : ¬ s_brk (aX A) m t = true := by
              unfold s_brk
              rw [hk]
              exact fun z => q (of_decide_eq_true z)
            rw [if_neg hb, if_pos (show nI t < bkM (some b) from nI_lt (by omega) (by omega))]
      rw [if_neg z3, if_neg z3]
      by_cases z4 : z = 4
      · rw [if_pos z4, if_pos z4]
        exact ans_ps hA hC hM1 _ rfl rfl
      rw [if_neg z4, if_neg z4]
      by_cases z5 : z = 5
      · rw [if_pos z5, if_pos z5, bnd]
        refine ans_ps hA hC hM1 _ rfl ?_
        cases hs : s_show (aX A) m t with
        | none => rfl
        | some v =>
          have hv := s_show_le hC.2.1.1 hm hs
          rw [if_pos (show (0 : Int32) ≤ oI (some v) from nI_pos' (by omega)), show oI (some v) = nI v from rfl, M_hung t1 c1 hm (by omega), bnd]
          rfl
      rw [if_neg z5, if_neg z5]
      by_cases z6 : z = 6
      · rw [if_pos z6, if_pos z6]
        exact ans_ps hA hC hM1 _ rfl rfl
      rw [if_neg z6, if_neg z6]
      exact ans_ps hA hC hM1 (-1) rfl rfl
    · rw [C_pasO hC hy, M_pasO hM hy, bnd, bnd, if_pos rfl, if_pos rfl]
      exact ans_ps hA hC hM (-1) rfl rfl
  · rw [C_mirO hC hx, M_mirO hM hx, bnd, bnd, if_pos rfl, if_pos rfl]
    exact ans_ps hA hC hM (-1) rfl rfl
/-- the end of a look, both sides -/
theorem look_end (hA : RA A) (hC : RC kt A S) (hM : RM s A M) {M1 : St} (t1 : tM s M1 (aT A)) (c1 : cM 56 57 58 59 M1 (aT A) (aX A)) (hM1 : RM s A M1) {e w : Nat} (he : e < tn (aT A) 3) (hw : w < 3) (o : Option Nat) (ho : ∀ v, o = some v → v ≤ cn (aX A)) : ans S M (pu S (f_X5_look_J102 S (nI w) (oI o) (nI e))) (f_X6_look_J89 M1 (nI w) (nI e) (oI o)) := by
  have b0 := hC.1.1.1
  have hn := hC.2.1.1.1
  unfold f_X5_look_J102 f_X6_look_J89
  cases o with
  | none => exact ans_ps hA hC hM1 (-2) rfl rfl
  | some v =>
    have hv := ho v rfl
    have hh := ((hC.2.1.1.2.1 v hv).2 e he).1
    rw [if_pos (show (0 : Int32) ≤ oI (some v) from nI_pos' (by omega)), if_pos (show (0 : Int32) ≤ oI (some v) from nI_pos' (by omega)), show oI (some v) = nI v from rfl, C_hang hC.1 hC.2.1 he hv, bnd]
    rcases (show w = 0 ∨ w = 1 ∨ w = 2 by omega) with rfl | rfl | rfl
    · rw [if_pos (show nI 0 = (0 : Int32) from rfl), if_pos (show nI 0 = (0 : Int32) from rfl)]
      exact ans_ps hA hC hM1 _ rfl rfl
    · rw [if_neg (show ¬ nI 1 = (0 : Int32) by decide), if_pos (show nI 1 = (1 : Int32) from rfl), if_neg (show ¬ nI 1 = (0 : Int32) by decide), if_pos (show nI 1 = (1 : Int32) from rfl), M_hung t1 c1 he hv, bnd]
      exact ans_ps hA hC hM1 _ rfl rfl
    · rw [if_neg (show ¬ nI 2 = (0 : Int32) by decide), if_neg (show ¬ nI 2 = (1 : Int32) by decide), if_neg (show ¬ nI 2 = (0 : Int32) by decide), if_neg (show ¬ nI 2 = (1 : Int32) by decide), C_menIn hC.1 hC.2.1 (by omega) hv, bnd]
      refine ans_ps hA hC hM1 _ rfl ?_
      unfold f_X6_menShown
      rw [if_pos (show (0 : Int32) ≤ nI v from nI_pos' (by omega)), M_hung t1 c1 he hv, bnd, M_menIn t1 c1 (by omega) hv]
      rfl
theorem Q_look (hA : RA A) (hC : RC kt A S) (hM : RM s A M) (x y z u : Int32) : ans S M (pu S (f_X5_look S x y z u)) (f_X6_look M x y z u) := by
  have b3 := hC.1.1.2.2.2.1
  have hn := hC.2.1.1.1
  have hcl : f_X5_look S x y z u = f_X5_look_J10 S x y z u (if z = -1 then 1 else 0) := by
    unfold f_X5_look
    by_cases c : z = -1
    · rw [if_pos c, if_pos c]
    · rw [if_neg c, if_neg c]
  rw [hcl]
  unfold f_X5_look_J10 f_X6_look
  rcases vld x (n := tn (aT A) 3) (by omega) with ⟨a, ha, rfl⟩ | hx
  · rw [C_mirI hC ha, M_mirI hM ha, bnd, bnd, if_neg ne10, if_neg ne10]
    rcases vld y (n := tn (aT A) 3) (by omega) with ⟨b, hb, rfl⟩ | hy
    · rw [C_mirI hC hb, M_mirI hM hb, bnd, bnd, if_neg ne10, if_neg ne10]
      have tail : (z = -1 ∨ ∃ c, c < tn (aT A) 3 ∧ z = nI c) → ans S M (pu S (f_X5_look_J41 S (nI a) (nI b) z u (if z = -1 then 1 else 0))) (f_X6_look_J29 M (nI a) (nI b) z u) := by
        intro hz
        unfold f_X5_look_J41 f_X6_look_J29
        rcases vld u (n := 3) (by decide) with ⟨w, hw, rfl⟩ | hu
        · rw [C_wIl (n := 3) (m := 3) rfl hw (by decide), M_wIl (n := 3) (m := 2) (by decide) hw (by decide), bnd, bnd, if_neg ne10, if_neg ne10]
          obtain ⟨M1, v, t1, c1, i1, hM1, o1⟩ := M_cop hM
          have s1 := fun w => s_show_le (t := cn (aX A)) (v := w) hC.2.1.1 ha
          have s2 := seenO_le (m := a) hC.2.1.1 hb (ov := s_show (aX A) a (cn (aX A))) s1
          rw [v, bnd, hC.2.1.2.2.2.1, C_showing hC.1 hC.2.1 ha (Nat.le_refl _) trivial, bnd, C_seenO hC.1 hC.2.1 ha hb _ s1, bnd]
          have hJ : ∀ q : Int32, f_X6_look_J55 M1 (nI a) (nI b) z (nI w) q = (if z = -1 then f_X6_look_J89 M1 (nI w) q (oI ((s_show (aX A) a (cn (aX A))).bind (fun v => s_in (aX A) a v b))) else ((f_X6_seenIn M1 (nI b) (oI ((s_show (aX A) a (cn (aX A))).bind (fun v => s_in (aX A) a v b))) z).bind (fun (q18 : Int32) => f_X6_look_J89 M1 (nI w) q q18))) := by
            intro q
            unfold f_X6_look_J55
            rw [c1.2.1, M_shows t1 c1 ha (Nat.le_refl _) trivial, bnd, M_seenO t1 c1 ha hb _ s1, bnd]
          rw [hJ, hJ]
          rcases hz with hz | ⟨c, hc, rfl⟩
          · rw [if_pos hz, if_pos hz, if_pos hz, if_neg ne10]
            exact look_end hA hC hM t1 c1 hM1 hb hw _ s2
          · have nz : ¬ nI c = -1 := nI_m1 (by omega)
            rw [if_neg nz, if_neg nz, if_neg nz, if_pos rfl, C_seenO hC.1 hC.2.1 hb hc _ s2, bnd, M_seenO t1 c1 hb hc _ s2, bnd]
            exact look_end hA hC hM t1 c1 hM1 hc hw _ (seenO_le (m := b) hC.2.1.1 hc s2)
        · rw [C_wOl (n := 3) (m := 3) rfl hu, M_wOl (n := 3) (m := 2) (by decide) (by decide) hu, bnd, bnd, if_pos rfl, if_pos rfl]
          exact ans_ps hA hC hM (-1) rfl rfl
      by_cases c : z = -1
      · have g := tail (Or.inl c)
        rw [if_pos c] at g
        rw [if_pos c, if_pos c, if_neg ne10]
        exact g
      · rw [if_neg c, if_neg c, if_pos rfl]
        rcases vld z (n := tn (aT A) 3) (by omega) with ⟨d, hd, rfl⟩ | hz
        · have g := tail (Or.inr ⟨d, hd, rfl⟩)
          rw [if_neg c] at g
          rw [C_mirI hC hd, M_mirI hM hd, bnd, bnd, if_neg ne10, if_neg ne10]
          exact g
        · rw [C_mirO hC hz, M_mirO hM hz, bnd, bnd, if_pos rfl, if_pos rfl]
          exact ans_ps hA hC hM (-1) rfl rfl
    · rw [C_mirO hC hy, M_mirO hM hy, bnd, bnd, if_pos rfl, if_pos rfl]
      exact ans_ps hA hC hM (-1) rfl rfl
  · rw [C_mirO hC hx, M_mirO hM hx, bnd, bnd, if_pos rfl, if_pos rfl]
    exact ans_ps hA hC hM (-1) rfl rfl
end QB
