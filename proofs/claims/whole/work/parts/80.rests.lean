/-! QUESTIONS: rests. -/
section QK
variable {kt s : Nat} {A : AB} {S M M' : St} {T : TX} {X : CT}
/-- the two alone, as bits -/
def two (a b : Nat) : Nat := 2 ^ a ||| 2 ^ b
theorem two_lt {a b : Nat} (ha : a < 6) (hb : b < 6) : two a b < 64 := Nat.or_lt_two_pow (n := 6) (Nat.pow_lt_pow_right (by decide) ha) (Nat.pow_lt_pow_right (by decide) hb)
def wv (T : TX) (X : CT) (a b r : Nat) : Nat := pop (s_shr T X r (cn X) &&& (63 ^^^ two a b))
/-- what one has in room r, the other one in room o -/
def wI_ (T : TX) (X : CT) (a b r o : Nat) : Int32 := if nI r = nI o then nI (wv T X a b r) - 2 else nI (wv T X a b r) - 0
def bd_ (T : TX) (X : CT) (a b r o k : Nat) : Bool := decide (wI_ T X a b r o < wI_ T X a b k o) || !decide (wI_ T X a b k r ≤ wI_ T X a b o r)
def rst (T : TX) (X : CT) (a b r o : Nat) : Bool := !(s_fst (bd_ T X a b r o) (tn T 0)).isSome
theorem C_worth (hC : RC kt A S) {a b : Nat} (hW : ∀ r, r < tn (aT A) 0 → st_A S (ky 0 14) r = nI (wv (aT A) (aX A) a b r)) {r o : Nat} (hr : r < tn (aT A) 0) : f_X5_worth S (nI r) (nI o) = some (wI_ (aT A) (aX A) a b r o) := by
  have b0 := hC.1.1.1
  have L14 : wk_n wd_C (ky 0 14) = 8 := lnC (show cl_C 0 = 5 from rfl) (by decide) rfl
  unfold f_X5_worth wI_
  rw [at_nI L14 (by omega) (by decide), bnd, hW r hr]
  by_cases c : nI r = nI o
  · rw [if_pos c, if_pos c]
  · rw [if_neg c, if_neg c]
theorem C_isRest (hC : RC kt A S) {a b : Nat} (hW : ∀ r, r < tn (aT A) 0 → st_A S (ky 0 14) r = nI (wv (aT A) (aX A) a b r)) {r o : Nat} (hr : r < tn (aT A) 0) (ho : o < tn (aT A) 0) : f_X5_isRest S (nI r) (nI o) = some (if rst (aT A) (aX A) a b r o then 1 else 0) := by
  have b0 := hC.1.1.1
  have g := up_find (step := f_X5_isRest_L2 S (nI r) (nI o)) (fun k => nI k) (bd_ (aT A) (aX A) a b r o) (fun _ => (0 : Int32)) 1 (tn (aT A) 0) (by omega) (fun k hk _ => by
    unfold f_X5_isRest_L2
    rw [chk_t (RC_T hC), hC.2.2.1.1, hC.1.2.2.1 0 (by decide), if_neg (show ¬ nI (tn (aT A) 0) ≤ nI k from nI_ge hk (by omega)), C_worth hC hW hk, bnd, C_worth hC hW hr, bnd]
    unfold bd_
    by_cases c : wI_ (aT A) (aX A) a b r o < wI_ (aT A) (aX A) a b k o
    · rw [if_pos c, if_pos (by simp [c])]
    · rw [if_neg c, C_worth hC hW hk, bnd, C_worth hC hW ho, bnd, ← nI_succ]
      by_cases d : wI_ (aT A) (aX A) a b k r ≤ wI_ (aT A) (aX A) a b o r
      · rw [if_pos d, if_neg (by simp [c, d])]
      · rw [if_neg d, if_pos (by simp [d])]) (fun _ => by
    unfold f_X5_isRest_L2
    rw [chk_t (RC_T hC), hC.2.2.1.1, hC.1.2.2.1 0 (by decide), if_pos (show nI (tn (aT A) 0) ≤ nI (tn (aT A) 0) from nI_le (Nat.le_refl _) (by omega))])
  unfold f_X5_isRest
  change iter _ FU (nI 0) = _
  rw [g]
  unfold rst
  cases s_fst (bd_ (aT A) (aX A) a b r o) (tn (aT A) 0) <;> rfl
theorem M_hasIn (hT : tM s M T) (h : cM 56 57 58 59 M T X) {a b r o : Nat} (ha : a < tn T 2) (hb : b < tn T 2) (hr : r < tn T 0) : f_X6_hasIn M (nI r) (nI o) (nI (two a b)) = some (wI_ T X a b r o) := by
  have b0 := hT.1.1
  have b2 := hT.1.2.2.1
  have hs := s_shr_lt hT.1 X r (cn X)
  have ht := two_lt (a := a) (b := b) (by omega) (by omega)
  have hl : s_shr T X r (cn X) &&& (63 ^^^ two a b) < 256 := Nat.lt_of_le_of_lt Nat.and_le_left (by omega)
  unfold f_X6_hasIn wI_
  rw [M_seenFrom hT h (by omega), bnd, andn_b _ hs _ ht, bitM _ hl, bnd]
  by_cases c : nI r = nI o
  · rw [if_pos c, if_pos c]
    rfl
  · rw [if_neg c, if_neg c]
    rfl
theorem M_isRest (hT : tM s M T) (h : cM 56 57 58 59 M T X) {a b r o : Nat} (ha : a < tn T 2) (hb : b < tn T 2) (hr : r < tn T 0) (ho : o < tn T 0) : f_X6_isResting M (nI r) (nI o) (nI (two a b)) = some (if rst T X a b r o then 1 else 0) := by
  have b0 := hT.1.1
  obtain ⟨l1, l2⟩ := tM_live hT
  have g := up_find (step := f_X6_isResting_L3 M (nI r) (nI o) (nI (two a b))) (fun k => nI k) (bd_ T X a b r o) (fun _ => (0 : Int32)) 1 (tn T 0) (by omega) (fun k hk _ => by
    unfold f_X6_isResting_L3
    rw [chk_t l1, l2, hT.2.2.2.1.1, if_neg (show ¬ nI (tn T 0) ≤ nI k from nI_ge hk (by omega)), M_hasIn hT h ha hb hk, bnd, M_hasIn hT h ha hb hr, bnd]
    unfold bd_
    by_cases c : wI_ T X a b r o < wI_ T X a b k o
    · rw [if_pos c, if_pos (by simp [c])]
    · rw [if_neg c, M_hasIn hT h ha hb hk, bnd, M_hasIn hT h ha hb ho, bnd, ← nI_succ]
      by_cases d : wI_ T X a b k r ≤ wI_ T X a b o r
      · rw [if_pos d, if_neg (by simp [c, d])]
      · rw [if_neg d, if_pos (by simp [d])]) (fun _ => by
    unfold f_X6_isResting_L3
    rw [chk_t l1, l2, hT.2.2.2.1.1, if_pos (show nI (tn T 0) ≤ nI (tn T 0) from nI_le (Nat.le_refl _) (by omega))])
  unfold f_X6_isResting
  change iter _ FU (nI 0) = _
  rw [g]
  unfold rst
  cases s_fst (bd_ T X a b r o) (tn T 0) <;> rfl
theorem C_worths (hC : RC kt A S) {a b : Nat} (ha : a < tn (aT A) 2) (hb : b < tn (aT A) 2) (x : Int32) : ∃ S', iter (f_X5_rests_L37 x (nI (two a b) ^^^ (-1 : Int32))) FU ((0 : Int32), S) = some S' ∧ RC kt A S' ∧ ∀ r, r < tn (aT A) 0 → st_A S' (ky 0 14) r = nI (wv (aT A) (aX A) a b r) := by
  have b0 := hC.1.1.1
  have b2 := hC.1.1.2.2.1
  have L14 : wk_n wd_C (ky 0 14) = 8 := lnC (show cl_C 0 = 5 from rfl) (by decide) rfl
  have ht := two_lt (a := a) (b := b) (by omega) (by omega)
  obtain ⟨S', w, q⟩ := loop_P (step := f_X5_rests_L37 x (nI (two a b) ^^^ (-1 : Int32))) S (tn (aT A) 0) (fun z => z) (fun i z => RC kt A z ∧ ∀ r, r < i → st_A z (ky 0 14) r = nI (wv (aT A) (aX A) a b r)) (by omega) ⟨hC, fun r hr => absurd hr (Nat.not_lt_zero _)⟩ (fun i z hi hz => by
    obtain ⟨zR, zW⟩ := hz
    have hs := s_shr_lt hC.1.1 (aX A) i (cn (aX A))
    have hl : s_shr (aT A) (aX A) i (cn (aX A)) &&& (63 ^^^ two a b) < 256 := Nat.lt_of_le_of_lt Nat.and_le_left (by omega)
    refine ⟨up_A z (ky 0 14) (upd (st_A z (ky 0 14)) i (nI (wv (aT A) (aX A) a b i))), ?_, RC_on zR (on_A _ _ _ (Or.inr (Or.inr (Or.inr (Or.inl rfl))))), fun r hr => ?_⟩
    · unfold f_X5_rests_L37
      rw [chk_t (RC_T zR), zR.2.2.1.1, zR.1.2.2.1 0 (by decide), if_neg (show ¬ nI (tn (aT A) 0) ≤ nI i from nI_ge hi (by omega)), zR.2.1.2.2.2.1, C_shownIn zR.1 zR.2.1 (by omega) (Nat.le_refl _), bnd, andn_b _ hs _ ht, bitC _ hl, bnd, put_nI L14 (by omega) (by decide), bnd, ← nI_succ]
      rfl
    · rw [gAs, upd_e]
      by_cases e : r = i
      · rw [if_pos e, e]
      · rw [if_neg e]
        exact zW r (by omega)) (fun z hz => by
    unfold f_X5_rests_L37
    rw [chk_t (RC_T hz.1), hz.1.2.2.1.1, hz.1.1.2.2.1 0 (by decide), if_pos (show nI (tn (aT A) 0) ≤ nI (tn (aT A) 0) from nI_le (Nat.le_refl _) (by omega))])
  exact ⟨S', w, q⟩
theorem Q_rests (hA : RA A) (hC : RC kt A S) (hM : RM s A M) (x y z : Int32) : ans S M (f_X5_rests S x y z) (f_X6_rests M x y z) := by
  have b0 := hC.1.1.1
  have b2 := hC.1.1.2.2.1
  have hn := hC.2.1.1.1
  unfold f_X5_rests f_X6_rests
  rcases vld x (n := tn (aT A) 2) (by omega) with ⟨a, ha, rfl⟩ | hx
  · rw [C_manI hC ha, M_manI hM ha, bnd, bnd, if_neg ne10, if_neg ne10]
    rcases vld y (n := tn (aT A) 2) (by omega) with ⟨b, hb, rfl⟩ | hy
    · rw [C_manI hC hb, M_manI hM hb, bnd, bnd, if_neg ne10, if_neg ne10]
      by_cases c : nI a = nI b
      · rw [if_pos c, if_pos c]
        exact ans_ss hA hC hM (-1) rfl rfl
      · rw [if_neg c, if_neg c]
        obtain ⟨M1, v, t1, c1, i1, hM1, o1⟩ := M_cop hM
        obtain ⟨k1, k2⟩ := tM_live t1
        have e2 : ((1 : Int32) <<< (nI a &&& 31)) ||| ((1 : Int32) <<< (nI b &&& 31)) = nI (two a b) := by
          rw [shl_b a (by omega), shl_b b (by omega), nI_oN]
          rfl
        obtain ⟨S', w1, rc, hW⟩ := C_worths hC ha hb z
        rw [e2, lt_e, w1, bnd]
        -- inner loops beside each other
        have inner : ∀ (i k0 : Nat), i < tn (aT A) 0 → k0 ≤ 8 * i → ∃ p q, iter (f_X5_rests_L107 S' z (nI i)) FU (nI k0, (0 : Int32)) = some p ∧ iter (f_X6_rests_L55 M1 (nI a) (nI b) z (nI i)) FU (nI k0, (0 : Int32)) = some q ∧ ((∃ k, k ≤ 8 * (i + 1) ∧ p = .inl (nI k) ∧ q = .inl (nI k)) ∨ ∃ w k, k < 1000 ∧ z = nI k ∧ p = .inr (w, S') ∧ q = .inr (w, M1)) := by
          intro i k0 hi hk0
          refine iter_simF (s1 := f_X5_rests_L107 S' z (nI i)) (s2 := f_X6_rests_L55 M1 (nI a) (nI b) z (nI i)) (x := (nI k0, (0 : Int32))) (y := (nI k0, (0 : Int32))) (fun j (x : Int32 × Int32) (y : Int32 × Int32) => x.2 = nI j ∧ y = x ∧ ∃ k, k ≤ k0 + j ∧ x.1 = nI k) (fun (p : Int32 ⊕ (Int32 × St)) (q : Int32 ⊕ (Int32 × St)) => (∃ k, k ≤ 8 * (i + 1) ∧ p = .inl (nI k) ∧ q = .inl (nI k)) ∨ ∃ w k, k < 1000 ∧ z = nI k ∧ p = .inr (w, S') ∧ q = .inr (w, M1)) (tn (aT A) 0) (by omega) ⟨rfl, rfl, k0, by omega, rfl⟩ ?_ ?_
          · rintro j ⟨u1, u2⟩ y hj ⟨e1, rfl, k, hk, e3⟩
            change u2 = _ at e1
            change u1 = _ at e3
            subst e1 e3
            have e10 : (10 : Int32) * nI i + nI j = nI (10 * i + j) := by
              rw [show (10 : Int32) = nI 10 from rfl, pk_mul, nI_add]
            have s1 : f_X5_rests_L107 S' z (nI i) (nI k, nI j) = if rst (aT A) (aX A) a b i j then (if nI k = z then some (.inr (.inr (nI (10 * i + j), S'))) else some (.inl (nI (k + 1), nI (j + 1)))) else some (.inl (nI k, nI (j + 1))) := by
              unfold f_X5_rests_L107
              rw [chk_t (RC_T rc), rc.2.2.1.1, rc.1.2.2.1 0 (by decide), if_neg (show ¬ nI (tn (aT A) 0) ≤ nI j from nI_ge hj (by omega)), C_isRest rc hW hi hj, bnd, ← nI_succ, ← nI_succ, e10]
              cases rst (aT A) (aX A) a b i j
              · rfl
              · rw [if_neg (show ¬ (if true = true then (1 : Int32) else 0) = 0 from ne10)]
                rfl
            have s2 : f_X6_rests_L55 M1 (nI a) (nI b) z (nI i) (nI k, nI j) = if rst (aT A) (aX A) a b i j then (if nI k = z then some (.inr (.inr (nI (10 * i + j), M1))) else some (.inl (nI (k + 1), nI (j + 1)))) else some (.inl (nI k, nI (j + 1))) := by
              unfold f_X6_rests_L55
              rw [chk_t k1, k2, t1.2.2.2.1.1, if_neg (show ¬ nI (tn (aT A) 0) ≤ nI j from nI_ge hj (by omega)), e2, M_isRest t1 c1 ha hb hi hj, bnd, ← nI_succ, ← nI_succ, e10]
              cases rst (aT A) (aX A) a b i j
              · rfl
              · rw [if_neg (show ¬ (if true = true then (1 : Int32) else 0) = 0 from ne10)]
                rfl
            rw [s1, s2]
            cases rst (aT A) (aX A) a b i j
            · exact Or.inl ⟨_, _, rfl, rfl, rfl, rfl, k, by omega, rfl⟩
            · by_cases d : nI k = z
              · right
                exact ⟨_, _, by rw [if_pos rfl, if_pos d], by rw [if_pos rfl, if_pos d], Or.inr ⟨_, k, by omega, d.symm, rfl, rfl⟩⟩
              · left
                exact ⟨_, _, by rw [if_pos rfl, if_neg d], by rw [if_pos rfl, if_neg d], rfl, rfl, k + 1, by omega, rfl⟩
          · rintro ⟨u1, u2⟩ y ⟨e1, rfl, k, hk, e3⟩
            change u2 = _ at e1
            change u1 = _ at e3
            subst e1 e3
            refine ⟨.inl (nI k), .inl (nI k), ?_, ?_, Or.inl ⟨k, by omega, rfl, rfl⟩⟩
            · unfold f_X5_rests_L107
              rw [chk_t (RC_T rc), rc.2.2.1.1, rc.1.2.2.1 0 (by decide), if_pos (show nI (tn (aT A) 0) ≤ nI (tn (aT A) 0) from nI_le (Nat.le_refl _) (by omega))]
            · unfold f_X6_rests_L55
              rw [chk_t k1, k2, t1.2.2.2.1.1, if_pos (show nI (tn (aT A) 0) ≤ nI (tn (aT A) 0) from nI_le (Nat.le_refl _) (by omega))]
        have outer : ∃ p q, iter (f_X5_rests_L92 S' z) FU ((0 : Int32), (0 : Int32)) = some p ∧ iter (f_X6_rests_L38 M1 (nI a) (nI b) z) FU ((0 : Int32), (0 : Int32)) = some q ∧ ((∃ w, p = .inl w ∧ q = .inl w) ∨ ∃ w k, k < 1000 ∧ z = nI k ∧ p = .inr (w, S') ∧ q = .inr (w, M1)) := by
          refine iter_simF (s1 := f_X5_rests_L92 S' z) (s2 := f_X6_rests_L38 M1 (nI a) (nI b) z) (x := ((0 : Int32), (0 : Int32))) (y := ((0 : Int32), (0 : Int32))) (fun i (x : Int32 × Int32) (y : Int32 × Int32) => x.2 = nI i ∧ y = x ∧ ∃ k, k ≤ 8 * i ∧ x.1 = nI k) (fun (p : Int32 ⊕ (Int32 × St)) (q : Int32 ⊕ (Int32 × St)) => (∃ w, p = .inl w ∧ q = .inl w) ∨ ∃ w k, k < 1000 ∧ z = nI k ∧ p = .inr (w, S') ∧ q = .inr (w, M1)) (tn (aT A) 0) (by omega) ⟨rfl, rfl, 0, by omega, rfl⟩ ?_ ?_
          · rintro i ⟨u1, u2⟩ y hi ⟨e1, rfl, k, hk, e3⟩
            change u2 = _ at e1
            change u1 = _ at e3
            subst e1 e3
            obtain ⟨p, q, g1, g2, g3⟩ := inner i k hi hk
            have s1 : f_X5_rests_L92 S' z (nI k, nI i) = (some p).bind fun z => match z with | .inl z => (fun (e20 : Int32) => some (.inl (e20, (nI i + 1)))) z | .inr v22 => some (.inr (.inr v22)) := by
              unfold f_X5_rests_L92
              rw [chk_t (RC_T rc), rc.2.2.1.1, rc.1.2.2.1 0 (by decide), if_neg (show ¬ nI (tn (aT A) 0) ≤ nI i from nI_ge hi (by omega)), g1]
              rfl
            have s2 : f_X6_rests_L38 M1 (nI a) (nI b) z (nI k, nI i) = (some q).bind fun z => match z with | .inl z => (fun (e20 : Int32) => some (.inl (e20, (nI i + 1)))) z | .inr v22 => some (.inr (.inr v22)) := by
              unfold f_X6_rests_L38
              rw [chk_t k1, k2, t1.2.2.2.1.1, if_neg (show ¬ nI (tn (aT A) 0) ≤ nI i from nI_ge hi (by omega)), g2]
              rfl
            rw [s1, s2]
            rcases g3 with ⟨k', hk', rfl, rfl⟩ | ⟨w, k', hk', hz, rfl, rfl⟩
            · left
              exact ⟨_, _, rfl, rfl, (nI_succ i).symm, rfl, k', hk', rfl⟩
            · right
              exact ⟨_, _, rfl, rfl, Or.inr ⟨w, k', hk', hz, rfl, rfl⟩⟩
          · rintro ⟨u1, u2⟩ y ⟨e1, rfl, k, hk, e3⟩
            change u2 = _ at e1
            change u1 = _ at e3
            subst e1 e3
            refine ⟨.inl (nI k), .inl (nI k), ?_, ?_, Or.inl ⟨nI k, rfl, rfl⟩⟩
            · unfold f_X5_rests_L92
              rw [chk_t (RC_T rc), rc.2.2.1.1, rc.1.2.2.1 0 (by decide), if_pos (show nI (tn (aT A) 0) ≤ nI (tn (aT A) 0) from nI_le (Nat.le_refl _) (by omega))]
            · unfold f_X6_rests_L38
              rw [chk_t k1, k2, t1.2.2.2.1.1, if_pos (show nI (tn (aT A) 0) ≤ nI (tn (aT A) 0) from nI_le (Nat.le_refl _) (by omega))]
        obtain ⟨p, q, g1, g2, g3⟩ := outer
        rw [g1, bnd]
        by_cases d : (-1 : Int32) ≤ z
        · rw [if_pos d, v, bnd, g2, bnd]
          rcases g3 with ⟨w, rfl, rfl⟩ | ⟨w, k, hk, hz, rfl, rfl⟩
          · by_cases e : z = -1
            · exact ans_ss hA rc hM1 w (if_pos e) (if_pos e)
            · exact ans_ss hA rc hM1 (-1) (if_neg e) (if_neg e)
          · exact ans_ss hA rc hM1 w rfl rfl
        · rw [if_neg d]
          rcases g3 with ⟨w, rfl, rfl⟩ | ⟨w, k, hk, hz, rfl, rfl⟩
          · exact ans_ss hA rc hM (-1) (if_neg (fun (e : z = -1) => d (by rw [e]; decide))) rfl
          · exfalso
            apply d
            rw [hz]
            exact Int32.le_of_lt (Int32.lt_of_lt_of_le (by decide) (nI_pos' (by omega)))
    · rw [C_manO hC hy, M_manO hM hy, bnd, bnd, if_pos rfl, if_pos rfl]
      exact ans_ss hA hC hM (-1) rfl rfl
  · rw [C_manO hC hx, M_manO hM hx, bnd, bnd, if_pos rfl, if_pos rfl]
    exact ans_ss hA hC hM (-1) rfl rfl
end QK
