/-! QUESTIONS: view, hidden. -/
noncomputable def dO (T : TX) (P : Nat → Bool) (f r : Nat) : Option Nat := Classical.choose (ds_ex (T := T) (P := P) (f := f) r)
theorem dO_s (T : TX) (P : Nat → Bool) (f r : Nat) : dsR T P f r (dO T P f r) := Classical.choose_spec (ds_ex (T := T) (P := P) (f := f) r)
theorem ds_un {T : TX} {P : Nat → Bool} {f r : Nat} {o o' : Option Nat} (h : dsR T P f r o) (g : dsR T P f r o') : o = o' := by
  cases o with
  | none =>
    cases o' with
    | none => rfl
    | some k => exact absurd g.1 (h k)
  | some k =>
    cases o' with
    | none => exact absurd h.1 (g k)
    | some k' =>
      have e : k = k' := by
        rcases Nat.lt_trichotomy k k' with q | q | q
        · exact absurd h.1 (g.2 k q)
        · exact q
        · exact absurd g.1 (h.2 k' q)
      rw [e]
section QM
variable {kt s : Nat} {A : AB} {S M M' : St} {T : TX} {X : CT}
/-- mirror m hangs at minute t where one can have come by then -/
noncomputable def s_rch (T : TX) (Y : CT) (P : Nat → Bool) (f now m t : Nat) : Bool := match dO T P f (cf Y 2 t m) with
  | none => false
  | some k => decide (k ≤ t - now)
theorem C_reach (hC : RC kt A S) {Y : CT} (c : cC 11 kt S (aT A) Y) {P : Nat → Bool} {f t : Nat} (hf : f < 8) (hP : ∀ r, r < 8 → ∀ o, dsR (aT A) P f r o → st_A S (ky 0 13) r = oC o) (ht : t ≤ cn Y) (hn : cn (aX A) ≤ t) : f_X5_mirrorsInReach S (nI t) = some (nI (bs (tn (aT A) 3) (fun m => s_rch (aT A) Y P f (cn (aX A)) m t))) := by
  have b0 := hC.1.1.1
  have b3 := hC.1.1.2.2.2.1
  have h299 := c.1.1
  have L13 : wk_n wd_C (ky 0 13) = 8 := lnC (show cl_C 0 = 5 from rfl) (by decide) rfl
  unfold f_X5_mirrorsInReach
  refine iter_FU (step := f_X5_mirrorsInReach_L4 S (nI t)) (fun i => (nI (bs i (fun m => s_rch (aT A) Y P f (cn (aX A)) m t)), nI i)) (tn (aT A) 3) (by omega) (fun i hi => ?_) ?_
  · have hb := bs_lt (fun m => s_rch (aT A) Y P f (cn (aX A)) m t) i
    have hh := ((c.1.2.1 t ht).2 i hi).1
    have hd := dO_s (aT A) P f (cf Y 2 t i)
    have e1 : nI t - nI (cn (aX A)) = nI (t - cn (aX A)) := pk_sub hn
    unfold f_X5_mirrorsInReach_L4
    rw [chk_t (RC_T hC), hC.2.2.1.1, hC.1.2.2.1 3 (by decide), if_neg (show ¬ nI (tn (aT A) 3) ≤ nI i from nI_ge hi (by omega)), C_hang hC.1 c hi ht, bnd, at_nI L13 (by omega) (by decide), bnd, hP _ (by omega) _ hd, hC.2.1.2.2.2.1, e1, bs]
    have hr : s_rch (aT A) Y P f (cn (aX A)) i t = match dO (aT A) P f (cf Y 2 t i) with
      | none => false
      | some k => decide (k ≤ t - cn (aX A)) := rfl
    rw [hr]
    cases e : dO (aT A) P f (cf Y 2 t i) with
    | none =>
      rw [if_pos (show nI (t - cn (aX A)) < oC none from nI_lt (b := 1000) (by omega) (by decide)), ← nI_succ]
      rfl
    | some k =>
      rw [e] at hd
      have hk := ds_le hC.1.1 hf hd
      show (if nI (t - cn (aX A)) < nI k then _ else _) = some (Sum.inl (nI (_ + if decide (k ≤ t - cn (aX A)) = true then _ else _), _))
      by_cases q : k ≤ t - cn (aX A)
      · rw [if_neg (nI_nlt q (by omega)), if_pos (decide_eq_true q), shl_b i (by omega), or_b i (by omega) _ hb, lt_e, ← nI_succ]
      · rw [if_pos (nI_lt (by omega) (by omega)), if_neg (fun w => q (of_decide_eq_true w)), Nat.add_zero, ← nI_succ]
  · unfold f_X5_mirrorsInReach_L4
    rw [chk_t (RC_T hC), hC.2.2.1.1, hC.1.2.2.1 3 (by decide), if_pos (show nI (tn (aT A) 3) ≤ nI (tn (aT A) 3) from nI_le (Nat.le_refl _) (by omega))]
theorem b255 : ∀ r, r < 8 → (255 : Nat).testBit r = true := by decide
theorem Q_view (hA : RA A) (hC : RC kt A S) (hM : RM s A M) (x1 x y z : Int32) : ans S M (f_X5_view S x1 x y z) (f_X6_view M x1 x y z) := by
  have b0 := hC.1.1.1
  have b2 := hC.1.1.2.2.1
  have b3 := hC.1.1.2.2.2.1
  have hn := hC.2.1.1.1
  unfold f_X5_view f_X6_view
  rcases vld x1 (n := tn (aT A) 2) (by omega) with ⟨a, ha, rfl⟩ | hx1
  · rw [C_manI hC ha, M_manI hM ha, bnd, bnd, if_neg ne10, if_neg ne10]
    rcases vld x (n := tn (aT A) 0) (by omega) with ⟨r, hr, rfl⟩ | hx
    · rw [C_rooI hC hr, M_rooI hM hr, bnd, bnd, if_neg ne10, if_neg ne10]
      rcases vld y (n := cn (aX A) + 1) (by omega) with ⟨u, hu, rfl⟩ | hy
      · rw [C_pasI hC hu, M_pasI hM hu, bnd, bnd, if_neg ne10, if_neg ne10]
        rcases vld z (n := 2) (by decide) with ⟨w, hw, rfl⟩ | hz
        · rw [C_wIl (n := 2) (m := 2) rfl hw (by decide), M_wIl (n := 2) (m := 1) (by decide) hw (by decide), bnd, bnd, if_neg ne10, if_neg ne10]
          obtain ⟨S1, v1, rc, c1⟩ := C_foreE hC
          obtain ⟨M1, v2, rm, t2, c2⟩ := M_foreE hM
          have hE := xE_n hC
          have hr0 := ((rc.2.1.1.2.1 (cn (aX A)) (Nat.le_refl _)).1 a ha).1
          -- the man is now where he is
          have rowM : st_A M1 (ky 0 56) (36 * cn (aX A) + a) = nI (cf (aX A) 0 (cn (aX A)) a) := by
            have g := ((c2.2.2.1 (cn (aX A)) (by omega)).1 a ha).1
            have hp := pre_run (sd := nI (tn (aT A) 5)) hC.1.1 hC.2.1.1 (299 - cn (aX A)) (by omega)
            have key : cf (xE A) 0 (cn (aX A)) a = cf (aX A) 0 (cn (aX A)) a := by
              have kk : ∀ n, cn (aX A) + n ≤ 299 → cf (x_run (aT A) (nI (tn (aT A) 5)) (aX A) n) 0 (cn (aX A)) a = cf (aX A) 0 (cn (aX A)) a := by
                intro n
                induction n with
                | zero => intro _; rfl
                | succ n ih =>
                  intro hnn
                  have hcb := cb_run (sd := nI (tn (aT A) 5)) hC.1.1 hC.2.1.1 n (by omega)
                  have hcn := x_run_n (aT A) (nI (tn (aT A) 5)) (aX A) n
                  have e1 : ∀ i (Z : CT), cf (x_lots (aT A) (nI (tn (aT A) 5)) Z i) = cf Z := by
                    intro i Z
                    induction i with
                    | zero => rfl
                    | succ i ih2 =>
                      rw [x_lots]
                      split
                      · exact ih2
                      · split
                        · exact ih2
                        · exact ih2
                  show cf (x_lots _ _ _ _) 0 (cn (aX A)) a = _
                  rw [e1]
                  exact (x_row_o (by omega) _ _).trans (ih (by omega))
              exact kk _ (by omega)
            rw [key] at g
            exact g
          rw [v1, v2, bnd, bnd, rc.2.1.2.2.2.1, C_room rc.1 rc.2.1 ha (Nat.le_refl _), bnd, rm.2.1.2.1, i0', chk_t (ib_nI (by omega) (by decide)), nI_clamp (by omega), rowM]
          obtain ⟨S2, w1, o1, g1⟩ := C_steps rc (f := cf (aX A) 0 (cn (aX A)) a) (c := 255) (by omega) (by decide)
          obtain ⟨M2, w2, o2, g2⟩ := M_far t2 (f := cf (aX A) 0 (cn (aX A)) a) (c := 255) (by omega) (by decide)
          have rc2 := RC_on rc (on_mono (fun q e => Or.inr (Or.inr (Or.inl e))) o1)
          have o2Q : on (kM fsQ) M1 M2 := on_mono (fun q hq => by
            obtain ⟨f, hf, e⟩ := hq
            exact ⟨f, (by decide : ∀ f ∈ [66], f ∈ fsQ) f hf, e⟩) o2
          have rm2 := RM_on rm o2Q
          have t3 := tM_fs (by decide) t2 o2
          have c3 := cM_on c2 o2 (kM_n (by decide) (by decide) (by decide)) (kM_n (by decide) (by decide) (by decide)) (kM_n (by decide) (by decide) (by decide)) (kM_n (by decide) (by decide) (by decide))
          have c11 := cC_on c1 o1 (fun f hf => ky_ne (by omega) (by decide) (by omega))
          obtain ⟨k1, k2⟩ := tM_live t3
          change ans S M ((f_X5_countSteps S1 (nI (cf (aX A) 0 (cn (aX A)) a)) (nI 255)).bind _) ((f_X6_fillsFar M1 (nI (cf (aX A) 0 (cn (aX A)) a)) (nI 255)).bind _)
          rw [w1, w2, bnd, bnd, rc2.2.1.2.2.2.1, rm2.2.1.2.1]
          let p : Nat → Nat → Bool := fun m t => s_sr (xE A) r u m t && s_rch (aT A) (xE A) (fun i => (255 : Nat).testBit i) (cf (aX A) 0 (cn (aX A)) a) (cn (aX A)) m t
          have l1 := C_firstT (step := f_X5_view_L73 S2 (nI r) (nI u) (nI w)) p b3 (cn (aX A)) (300 - cn (aX A)) (by omega) (nI w) S2 (fun j hj => by
            have ha1 : bs (tn (aT A) 3) (fun m => s_sr (xE A) r u m (cn (aX A) + j)) < 256 := Nat.lt_of_lt_of_le (bs_lt _ _) (Nat.pow_le_pow_right (by decide) b3)
            have ha2 : bs (tn (aT A) 3) (fun m => s_rch (aT A) (xE A) (fun i => (255 : Nat).testBit i) (cf (aX A) 0 (cn (aX A)) a) (cn (aX A)) m (cn (aX A) + j)) < 256 := Nat.lt_of_lt_of_le (bs_lt _ _) (Nat.pow_le_pow_right (by decide) b3)
            unfold f_X5_view_L73
            rw [if_neg (show ¬ (299 : Int32) < nI (cn (aX A) + j) from nI_nlt (a := 299) (by omega) (by decide)), C_showersOf rc2 c11 (by omega) (by omega) (by omega), bnd, C_reach rc2 c11 (by omega) g1 (by omega) (by omega), bnd, nI_aN (by omega) (by omega), bs_and]) (by
            unfold f_X5_view_L73
            rw [if_pos (show (299 : Int32) < nI (cn (aX A) + (300 - cn (aX A))) from nI_lt (a := 299) (by omega) (by omega))])
          have l2 := M_firstT (step := f_X6_view_L67 M2 (nI r) (nI u) (nI w)) (inner := fun t => f_X6_view_L78 M2 (nI r) (nI u) (nI w) t) p b3 (cn (aX A)) (300 - cn (aX A)) (by omega) (nI w) M2 (fun j hj => by
            unfold f_X6_view_L67
            rw [if_neg (show ¬ (299 : Int32) < nI (cn (aX A) + j) from nI_nlt (a := 299) (by omega) (by decide))]
            rfl) (fun j m hj hm => by
            show f_X6_view_L78 M2 (nI r) (nI u) (nI w) (nI (cn (aX A) + j)) (nI m) = _
            have hh := ((c3.1.2.1 (cn (aX A) + j) (by omega)).2 m hm).1
            have hd := dO_s (aT A) (fun i => (255 : Nat).testBit i) (cf (aX A) 0 (cn (aX A)) a) (cf (xE A) 2 (cn (aX A) + j) m)
            have e1 : nI (cn (aX A) + j) - nI (cn (aX A)) = nI j := by
              rw [pk_sub (by omega), Nat.add_sub_cancel_left]
            unfold f_X6_view_L78
            rw [chk_t k1, k2, t3.2.2.2.1.2.2.2.1, if_neg (show ¬ nI (tn (aT A) 3) ≤ nI m from nI_ge hm (by omega)), M_hung t3 c3 hm (by omega), bnd, chk_t (ib_nI (by omega) (by decide)), nI_clamp (by omega), g2 _ (by omega) _ hd, rm2.2.1.2.1, e1, ← nI_succ]
            have hrc : p m (cn (aX A) + j) = (s_sr (xE A) r u m (cn (aX A) + j) && match dO (aT A) (fun i => (255 : Nat).testBit i) (cf (aX A) 0 (cn (aX A)) a) (cf (xE A) 2 (cn (aX A) + j) m) with
              | none => false
              | some k => decide (k ≤ cn (aX A) + j - cn (aX A))) := rfl
            rw [hrc]
            cases e : dO (aT A) (fun i => (255 : Nat).testBit i) (cf (aX A) 0 (cn (aX A)) a) (cf (xE A) 2 (cn (aX A) + j) m) with
            | none =>
              rw [if_pos (show bkM none < 0 by decide)]
              simp
            | some k =>
              rw [e] at hd
              have hk := ds_le hC.1.1 (by omega) hd
              rw [if_neg (show ¬ bkM (some k) < 0 from nI_pos (by omega))]
              show (if nI j < nI k then _ else _) = _
              by_cases q : k ≤ j
              · rw [if_neg (nI_nlt q (by omega)), M_showsRoom t3 c3 hm (by omega) (by omega) (by omega), bnd]
                have e3 : decide (k ≤ cn (aX A) + j - cn (aX A)) = true := decide_eq_true (by omega)
                show _ = if (s_sr (xE A) r u m (cn (aX A) + j) && decide (k ≤ cn (aX A) + j - cn (aX A))) = true then _ else _
                rw [e3, Bool.and_true]
                cases s_sr (xE A) r u m (cn (aX A) + j)
                · rfl
                · rw [if_neg (show ¬ (if true = true then (1 : Int32) else 0) = 0 from ne10)]
                  by_cases c : nI w = 0
                  · rw [if_pos c, if_pos c]
                    rfl
                  · rw [if_neg c, if_neg c]
                    rfl
              · have e3 : decide (k ≤ cn (aX A) + j - cn (aX A)) = false := decide_eq_false (by omega)
                rw [if_pos (nI_lt (by omega) (by omega))]
                show _ = if (s_sr (xE A) r u m (cn (aX A) + j) && decide (k ≤ cn (aX A) + j - cn (aX A))) = true then _ else _
                rw [e3, Bool.and_false]
                rfl) (fun j hj => by
            show f_X6_view_L78 M2 (nI r) (nI u) (nI w) (nI (cn (aX A) + j)) (nI (tn (aT A) 3)) = _
            unfold f_X6_view_L78
            rw [chk_t k1, k2, t3.2.2.2.1.2.2.2.1, if_pos (show nI (tn (aT A) 3) ≤ nI (tn (aT A) 3) from nI_le (Nat.le_refl _) (by omega))]) (by
            unfold f_X6_view_L67
            rw [if_pos (show (299 : Int32) < nI (cn (aX A) + (300 - cn (aX A))) from nI_lt (a := 299) (by omega) (by omega))])
          exact ans_ss hA rc2 rm2 _ l1 l2
        · rw [C_wOl (n := 2) (m := 2) rfl hz, M_wOl (n := 2) (m := 1) (by decide) (by decide) hz, bnd, bnd, if_pos rfl, if_pos rfl]
          exact ans_ss hA hC hM (-1) rfl rfl
      · rw [C_pasO hC hy, M_pasO hM hy, bnd, bnd, if_pos rfl, if_pos rfl]
        exact ans_ss hA hC hM (-1) rfl rfl
    · rw [C_rooO hC hx, M_rooO hM hx, bnd, bnd, if_pos rfl, if_pos rfl]
      exact ans_ss hA hC hM (-1) rfl rfl
  · rw [C_manO hC hx1, M_manO hM hx1, bnd, bnd, if_pos rfl, if_pos rfl]
    exact ans_ss hA hC hM (-1) rfl rfl
end QM
