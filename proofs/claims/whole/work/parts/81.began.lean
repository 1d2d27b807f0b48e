/-! QUESTIONS: where one was in the beginning. -/
def s_mx (f : Nat → Nat) : Nat → Nat
  | 0 => 0
  | n + 1 => max (s_mx f n) (f n)
theorem s_mx_le {f : Nat → Nat} {b : Nat} : ∀ n, (∀ j, j < n → f j < b) → 0 < b → s_mx f n < b := by
  intro n
  induction n with
  | zero => intro _ h; exact h
  | succ n ih =>
    intro h hb
    have := ih (fun j hj => h j (by omega)) hb
    have := h n (by omega)
    rw [s_mx]
    omega
theorem le_s_mx {f : Nat → Nat} : ∀ n j, j < n → f j ≤ s_mx f n := by
  intro n
  induction n with
  | zero => intro j h; omega
  | succ n ih =>
    intro j hj
    rw [s_mx]
    by_cases e : j = n
    · rw [e]
      omega
    · have := ih j (by omega)
      omega
/-- the court if man a had begun in room r -/
def x_bg (T : TX) (a r e : Nat) : CT := x_run T (nI (tn T 5)) (x_lat T (x_set (x_beg0 T) 0 a r)) e
section QL
variable {kt s : Nat} {A : AB} {S M M' : St} {T : TX} {X : CT}
def s_nso (A : AB) (a r k j : Nat) : Bool := !(s_sm (aT A) (x_bg (aT A) a r (s_mx (fun j => (aL A j).2.1) k)) (aL A j).2.2.1 (aL A j).1 (aL A j).2.1 == (aL A j).2.2.2)
def s_so (A : AB) (a r k : Nat) : Bool := !(s_fst (s_nso A a r k) k).isSome
theorem kB_S {kt : Nat} (q : Nat) (h : kB 11 kt q) : kS kt q := by
  rcases h with h | h
  · exact Or.inl h
  · exact Or.inr (Or.inl h)
theorem x_bg_n (T : TX) (a r e : Nat) : cn (x_bg T a r e) = e := by
  show cn (x_run _ _ _ _) = e
  rw [x_run_n]
  show 0 + e = e
  omega
theorem C_canHave (hA : RA A) (hC : RC kt A S) {a r k : Nat} (ha : a < tn (aT A) 2) (hr : r < tn (aT A) 0) (hk : k ≤ aK A) : ∃ S', f_X5_canHaveBegun S (nI a) (nI r) (nI k) = some (if s_so A a r k then 1 else 0, S') ∧ RC kt A S' := by
  have hK := hA.2.2.2.1
  have hL := hA.2.2.2.2.1
  have b2 := hC.1.1.2.2.1
  have L11 : wk_n wd_C (ky 0 11) = 80 := lnC (show cl_C 0 = 5 from rfl) (by decide) rfl
  have hmx : s_mx (fun j => (aL A j).2.1) k < 100 := s_mx_le k (fun j hj => (hL j (by omega)).2.1) (by decide)
  have e4 : ∀ j : Nat, nI j * (4 : Int32) = nI (4 * j) := fun j => by rw [show (4 : Int32) = nI 4 from rfl, pk_mul, Nat.mul_comm]
  have l1 := iter_FU (step := f_X5_canHaveBegun_L6 S (nI a) (nI r) (nI k)) (fun i => (nI (s_mx (fun j => (aL A j).2.1) i), nI i)) k (by omega) (r := nI (s_mx (fun j => (aL A j).2.1) k)) (fun i hi => by
    have h1 := (hL i (by omega)).2.1
    have h2 : s_mx (fun j => (aL A j).2.1) i < 100 := s_mx_le i (fun j hj => (hL j (by omega)).2.1) (by decide)
    unfold f_X5_canHaveBegun_L6
    rw [if_neg (show ¬ nI k ≤ nI i from nI_ge hi (by omega)), e4, nI_1, at_nI L11 (by omega) (by decide), bnd, (hC.2.2.2.2.2.1.2 i (by omega)).2.1, max_nI (by omega) (by omega), ← nI_succ]
    rfl) (by
    unfold f_X5_canHaveBegun_L6
    rw [if_pos (show nI k ≤ nI k from nI_le (Nat.le_refl _) (by omega))])
  obtain ⟨S1, w1, t1, c1, o1⟩ := C_begin (k := 11) cl_11 hC.1
  have r1 := RC_on hC (on_mono kB_S o1)
  obtain ⟨S2, w2, t2, c2, o2⟩ := C_putMan t1 c1 ha hr
  have r2 := RC_on r1 (on_mono kC_S o2)
  have e0 : x_put (aT A) (x_lat (aT A) (x_beg0 (aT A))) 0 a r = x_lat (aT A) (x_set (x_beg0 (aT A)) 0 a r) := x_lat_set (aT A) (x_beg0 (aT A)) 0 a r (by decide)
  rw [e0] at c2
  obtain ⟨S3, w3, t3, c3, o3⟩ := C_goTo t2 c2 (e := s_mx (fun j => (aL A j).2.1) k) (by omega)
  have r3 := RC_on r2 (on_mono kC_S o3)
  have cY : cC 11 kt S3 (aT A) (x_bg (aT A) a r (s_mx (fun j => (aL A j).2.1) k)) := by
    have e1 : s_mx (fun j => (aL A j).2.1) k - cn (x_lat (aT A) (x_set (x_beg0 (aT A)) 0 a r)) = s_mx (fun j => (aL A j).2.1) k := Nat.sub_zero _
    rw [e1] at c3
    exact c3
  have hY := x_bg_n (aT A) a r (s_mx (fun j => (aL A j).2.1) k)
  refine ⟨S3, ?_, r3⟩
  unfold f_X5_canHaveBegun
  change (iter _ FU (nI 0, nI 0)).bind _ = _
  rw [show iter (f_X5_canHaveBegun_L6 S (nI a) (nI r) (nI k)) FU (nI 0, nI 0) = _ from l1, bnd, chk_t (RC_T hC), hC.2.2.1.1, w1, bnd, w2, bnd, w3, bnd]
  have g := up_find (step := f_X5_canHaveBegun_L70 S3 (nI k)) (fun j => nI j) (s_nso A a r k) (fun _ => ((0 : Int32), S3)) (1, S3) k (by omega) (fun j hj _ => by
    have h := hL j (by omega)
    have td := r3.2.2.2.2.2.1.2 j (by omega)
    have hle := le_s_mx (f := fun j => (aL A j).2.1) k j hj
    have hsl := s_shm_lt hC.1.1 (x_bg (aT A) a r (s_mx (fun j => (aL A j).2.1) k)) (aL A j).1 (aL A j).2.1
    unfold f_X5_canHaveBegun_L70
    rw [if_neg (show ¬ nI k ≤ nI j from nI_ge hj (by omega)), e4, at_nI L11 (by omega) (by decide), bnd, nI_1, at_nI L11 (by omega) (by decide), bnd, td.1, td.2.1, C_menShown r3.1 cY h.1 (by rw [hY]; exact hle) trivial, bnd]
    have e42 : nI (4 * j) + (2 : Int32) = nI (4 * j + 2) := nI_add _ 2
    have e43 : nI (4 * j) + (3 : Int32) = nI (4 * j + 3) := nI_add _ 3
    rw [e42, at_nI L11 (by omega) (by decide), bnd, td.2.2.1, has_nI (by omega) (by omega), bnd, e43, at_nI L11 (by omega) (by decide), bnd, td.2.2.2]
    unfold f_X5_canHaveBegun_J147 s_nso s_sm
    rw [← nI_succ]
    generalize (s_shm (aT A) (x_bg (aT A) a r (s_mx (fun j => (aL A j).2.1) k)) (aL A j).1 (aL A j).2.1).testBit (aL A j).2.2.1 = p
    generalize (aL A j).2.2.2 = q
    cases p <;> cases q <;> rfl) (fun _ => by
    unfold f_X5_canHaveBegun_L70
    rw [if_pos (show nI k ≤ nI k from nI_le (Nat.le_refl _) (by omega))])
  change iter _ FU (nI 0) = _
  rw [g]
  unfold s_so
  cases s_fst (s_nso A a r k) k <;> rfl
theorem fsB_Q (q : Nat) (h : kM fsB q) : kM fsQ q := by
  obtain ⟨f, hf, e⟩ := h
  exact ⟨f, (by decide : ∀ f ∈ fsB, f ∈ fsQ) f hf, e⟩
theorem M_isSo (hA : RA A) (hM : RM s A M) {a r k : Nat} (ha : a < tn (aT A) 2) (hr : r < tn (aT A) 0) (hk : k ≤ aK A) : ∃ M', f_X6_isSo M (nI a) (nI r) (nI k) = some (if s_so A a r k then 1 else 0, M') ∧ RM s A M' := by
  have hK := hA.2.2.2.1
  have hL := hA.2.2.2.2.1
  have b2 := hM.1.1.2.2.1
  have hmx : s_mx (fun j => (aL A j).2.1) k < 100 := s_mx_le k (fun j hj => (hL j (by omega)).2.1) (by decide)
  obtain ⟨M1, w1, t1, c1, i1, o1⟩ := M_beginsWith (x1 := nI a) (x2 := nI r) (X0 := x_set (x_beg0 (aT A)) 0 a r) hM.1 (cb_set (cb_beg0 hM.1.1) (Or.inl ⟨rfl, hr⟩)) rfl (fun i hi => by
    rw [cf_set_e]
    by_cases e : i = a
    · rw [if_pos (by rw [e]), if_pos ⟨rfl, e⟩]
    · rw [if_neg (fun q => e ((nI_eq (by omega) (by omega)).mp q)), if_neg (fun q => e q.2)]
      rfl) (fun i hi => by rw [cf_set_o (by decide)]; rfl) (fun i hi => by rw [cf_set_o (by decide)]; rfl) (fun _ => rfl) (fun _ => rfl)
  have r1 := RM_on hM (on_mono fsB_Q o1)
  have l1 := iter_FU (step := f_X6_isSo_L12 M1 (nI k)) (fun i => (nI (s_mx (fun j => (aL A j).2.1) i), nI i)) k (by omega) (r := nI (s_mx (fun j => (aL A j).2.1) k)) (fun i hi => by
    have h1 := (hL i (by omega)).2.1
    have h2 : s_mx (fun j => (aL A j).2.1) i < 100 := s_mx_le i (fun j hj => (hL j (by omega)).2.1) (by decide)
    have td := (r1.2.2.2.2.1.2 i (by omega)).2.1
    unfold f_X6_isSo_L12
    rw [if_neg (show ¬ nI k ≤ nI i from nI_ge hi (by omega)), chk_t (ib_nI (by omega) (by decide)), nI_clamp (by omega), td, ← nI_succ, s_mx]
    by_cases c : (aL A i).2.1 ≤ s_mx (fun j => (aL A j).2.1) i
    · rw [if_pos (nI_le c (by omega)), Nat.max_eq_left c]
    · rw [if_neg (nI_ge (by omega) (by omega)), chk_t (ib_nI (by omega) (by decide)), Nat.max_eq_right (by omega)]) (by
    unfold f_X6_isSo_L12
    rw [if_pos (show nI k ≤ nI k from nI_le (Nat.le_refl _) (by omega))])
  obtain ⟨M2, w2, t2, c2, o2⟩ := M_goesTill t1 c1 i1 (e := s_mx (fun j => (aL A j).2.1) k) (by omega)
  have r2 := RM_on r1 (on_mono fsC_Q o2)
  have hY := x_bg_n (aT A) a r (s_mx (fun j => (aL A j).2.1) k)
  have cY : cM 56 57 58 59 M2 (aT A) (x_bg (aT A) a r (s_mx (fun j => (aL A j).2.1) k)) := by
    have e1 : min (s_mx (fun j => (aL A j).2.1) k) 299 - cn (x_lat (aT A) (x_set (x_beg0 (aT A)) 0 a r)) = s_mx (fun j => (aL A j).2.1) k := by
      show min _ _ - 0 = _
      omega
    rw [e1] at c2
    exact c2
  refine ⟨M2, ?_, r2⟩
  unfold f_X6_isSo
  rw [w1, bnd]
  change (iter _ FU (nI 0, nI 0)).bind _ = _
  rw [show iter (f_X6_isSo_L12 M1 (nI k)) FU (nI 0, nI 0) = _ from l1, bnd, w2, bnd]
  have g := up_find (step := f_X6_isSo_L54 M2 (nI k)) (fun j => nI j) (s_nso A a r k) (fun _ => ((0 : Int32), M2)) (1, M2) k (by omega) (fun j hj _ => by
    have h := hL j (by omega)
    have td := r2.2.2.2.2.1.2 j (by omega)
    have hle := le_s_mx (f := fun j => (aL A j).2.1) k j hj
    unfold f_X6_isSo_L54
    rw [if_neg (show ¬ nI k ≤ nI j from nI_ge hj (by omega)), chk_t (ib_nI (by omega) (by decide)), chk_t (ib_nI (by omega) (by decide)), chk_t (ib_nI (by omega) (by decide)), nI_clamp (by omega), td.1, td.2.1, td.2.2.1, M_isSeenIn t2 cY h.1 (by rw [hY]; exact hle) h.2.2, bnd, chk_t (ib_nI (by omega) (by decide)), td.2.2.2, ← nI_succ]
    unfold s_nso
    generalize s_sm (aT A) (x_bg (aT A) a r (s_mx (fun j => (aL A j).2.1) k)) (aL A j).2.2.1 (aL A j).1 (aL A j).2.1 = p
    generalize (aL A j).2.2.2 = q
    cases p <;> cases q <;> rfl) (fun _ => by
    unfold f_X6_isSo_L54
    rw [if_pos (show nI k ≤ nI k from nI_le (Nat.le_refl _) (by omega))])
  change iter _ FU (nI 0) = _
  rw [g]
  unfold s_so
  cases s_fst (s_nso A a r k) k <;> rfl
theorem Q_began (hA : RA A) (hC : RC kt A S) (hM : RM s A M) (x y z : Int32) : ans S M (f_X5_began S x y z) (f_X6_began M x y z) := by
  have b0 := hC.1.1.1
  have b2 := hC.1.1.2.2.1
  have hK := hA.2.2.2.1
  unfold f_X5_began f_X6_began
  rcases vld x (n := tn (aT A) 2) (by omega) with ⟨a, ha, rfl⟩ | hx
  · rw [C_manI hC ha, M_manI hM ha, bnd, bnd, if_neg ne10, if_neg ne10, hC.2.2.2.2.2.1.1, hM.2.2.2.2.1.1]
    have hin : f_X6_in y (0 : Int32) (nI (aK A)) = some (if y < 0 then 0 else if y ≤ nI (aK A) then 1 else 0) := by
      unfold f_X6_in
      by_cases c : y < 0
      · rw [if_pos c, if_pos c]
      · rw [if_neg c, if_neg c]
        by_cases d : y ≤ nI (aK A)
        · rw [if_neg (Int32.not_lt.mpr d), if_pos d]
        · rw [if_pos (Int32.not_le.mp d), if_neg d]
    rw [hin, bnd]
    by_cases c : y < 0
    · rw [if_pos c, if_pos c, if_pos rfl]
      exact ans_ss hA hC hM (-1) rfl rfl
    · rw [if_neg c, if_neg c]
      by_cases d : y ≤ nI (aK A)
      · rw [if_pos d, if_pos d, if_neg ne10]
        obtain ⟨k, hk, rfl⟩ := nI_of c
        have hkk : k ≤ aK A := (nI_leI hk (by omega)).mp d
        have sim : ∃ p q, iter (f_X5_began_L28 (nI a) (nI k) z) FU ((0 : Int32), (0 : Int32), S) = some p ∧ iter (f_X6_began_L33 (nI a) (nI k) z) FU ((0 : Int32), (0 : Int32), M) = some q ∧ ((∃ w S' M', p = .inl (w, S') ∧ q = .inl (w, M') ∧ RC kt A S' ∧ RM s A M') ∨ ∃ w S' M' j, j < 1000 ∧ z = nI j ∧ p = .inr (w, S') ∧ q = .inr (w, M') ∧ RC kt A S' ∧ RM s A M') := by
          refine iter_simF (s1 := f_X5_began_L28 (nI a) (nI k) z) (s2 := f_X6_began_L33 (nI a) (nI k) z) (x := ((0 : Int32), (0 : Int32), S)) (y := ((0 : Int32), (0 : Int32), M)) (fun i (x : Int32 × Int32 × St) (y : Int32 × Int32 × St) => x.2.1 = nI i ∧ y.2.1 = nI i ∧ y.1 = x.1 ∧ (∃ j, j ≤ i ∧ x.1 = nI j) ∧ RC kt A x.2.2 ∧ RM s A y.2.2) (fun (p : (Int32 × St) ⊕ (Int32 × St)) (q : (Int32 × St) ⊕ (Int32 × St)) => (∃ w S' M', p = .inl (w, S') ∧ q = .inl (w, M') ∧ RC kt A S' ∧ RM s A M') ∨ ∃ w S' M' j, j < 1000 ∧ z = nI j ∧ p = .inr (w, S') ∧ q = .inr (w, M') ∧ RC kt A S' ∧ RM s A M') (tn (aT A) 0) (by omega) ⟨rfl, rfl, rfl, ⟨0, by omega, rfl⟩, hC, hM⟩ ?_ ?_
          · rintro i ⟨u1, u2, u⟩ ⟨v1, v2, v⟩ hi ⟨e1, e2, e3, ⟨j, hj, e4⟩, hu, hv⟩
            change u2 = _ at e1
            change v2 = _ at e2
            change v1 = u1 at e3
            change u1 = _ at e4
            change RC kt A u at hu
            change RM s A v at hv
            subst e1 e2 e3 e4
            obtain ⟨l1, l2⟩ := tM_live hv.1
            obtain ⟨S1, w1, r1⟩ := C_canHave hA hu ha hi hkk
            obtain ⟨M1, w2, r2⟩ := M_isSo hA hv ha hi hkk
            have s1 : f_X5_began_L28 (nI a) (nI k) z (nI j, nI i, u) = if (if s_so A a i k then (1 : Int32) else 0) = 0 then some (.inl (nI j, nI (i + 1), S1)) else (if nI j = z then some (.inr (.inr (nI i, S1))) else some (.inl (nI (j + 1), nI (i + 1), S1))) := by
              unfold f_X5_began_L28
              rw [chk_t (RC_T hu), hu.2.2.1.1, hu.1.2.2.1 0 (by decide), if_neg (show ¬ nI (tn (aT A) 0) ≤ nI i from nI_ge hi (by omega)), w1, bnd, ← nI_succ, ← nI_succ]
            have s2 : f_X6_began_L33 (nI a) (nI k) z (nI j, nI i, v) = if (if s_so A a i k then (1 : Int32) else 0) = 0 then some (.inl (nI j, nI (i + 1), M1)) else (if nI j = z then some (.inr (.inr (nI i, M1))) else some (.inl (nI (j + 1), nI (i + 1), M1))) := by
              unfold f_X6_began_L33
              rw [chk_t l1, l2, (tM_n hv).1, if_neg (show ¬ nI (tn (aT A) 0) ≤ nI i from nI_ge hi (by omega)), w2, bnd, ← nI_succ, ← nI_succ]
            rw [s1, s2]
            by_cases q : (if s_so A a i k then (1 : Int32) else 0) = 0
            · rw [if_pos q, if_pos q]
              exact Or.inl ⟨_, _, rfl, rfl, rfl, rfl, rfl, ⟨j, by omega, rfl⟩, r1, r2⟩
            · rw [if_neg q, if_neg q]
              by_cases w : nI j = z
              · rw [if_pos w, if_pos w]
                exact Or.inr ⟨_, _, rfl, rfl, Or.inr ⟨_, S1, M1, j, by omega, w.symm, rfl, rfl, r1, r2⟩⟩
              · rw [if_neg w, if_neg w]
                exact Or.inl ⟨_, _, rfl, rfl, rfl, rfl, rfl, ⟨j + 1, by omega, rfl⟩, r1, r2⟩
          · rintro ⟨u1, u2, u⟩ ⟨v1, v2, v⟩ ⟨e1, e2, e3, ⟨j, hj, e4⟩, hu, hv⟩
            change u2 = _ at e1
            change v2 = _ at e2
            change v1 = u1 at e3
            change RC kt A u at hu
            change RM s A v at hv
            subst e1 e2 e3
            obtain ⟨l1, l2⟩ := tM_live hv.1
            refine ⟨.inl (v1, u), .inl (v1, v), ?_, ?_, Or.inl ⟨v1, u, v, rfl, rfl, hu, hv⟩⟩
            · unfold f_X5_began_L28
              rw [chk_t (RC_T hu), hu.2.2.1.1, hu.1.2.2.1 0 (by decide), if_pos (show nI (tn (aT A) 0) ≤ nI (tn (aT A) 0) from nI_le (Nat.le_refl _) (by omega))]
            · unfold f_X6_began_L33
              rw [chk_t l1, l2, (tM_n hv).1, if_pos (show nI (tn (aT A) 0) ≤ nI (tn (aT A) 0) from nI_le (Nat.le_refl _) (by omega))]
        obtain ⟨p, q, g1, g2, g3⟩ := sim
        rw [g1, bnd]
        by_cases e : (-1 : Int32) ≤ z
        · rw [if_pos e, g2, bnd]
          rcases g3 with ⟨w, S', M', rfl, rfl, rc, rm⟩ | ⟨w, S', M', j, hj, hz, rfl, rfl, rc, rm⟩
          · by_cases f : z = -1
            · exact ans_ss hA rc rm w (if_pos f) (if_pos f)
            · exact ans_ss hA rc rm (-1) (if_neg f) (if_neg f)
          · exact ans_ss hA rc rm w rfl rfl
        · rw [if_neg e]
          rcases g3 with ⟨w, S', M', rfl, rfl, rc, rm⟩ | ⟨w, S', M', j, hj, hz, rfl, rfl, rc, rm⟩
          · exact ans_ss hA rc hM (-1) (if_neg (fun (f : z = -1) => e (by rw [f]; decide))) rfl
          · exfalso
            apply e
            rw [hz]
            exact Int32.le_of_lt (Int32.lt_of_lt_of_le (by decide) (nI_pos' (by omega)))
      · rw [if_neg d, if_neg d, if_pos rfl]
        exact ans_ss hA hC hM (-1) rfl rfl
  · rw [C_manO hC hx, M_manO hM hx, bnd, bnd, if_pos rfl, if_pos rfl]
    exact ans_ss hA hC hM (-1) rfl rfl
end QL
