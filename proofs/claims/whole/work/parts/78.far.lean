/-! STEPS: the reference's. -/
/-- what is known in round n -/
def FI (T : TX) (P : Nat → Bool) (f n : Nat) (F : Nat → Int32) : Prop := ∀ r, r < 8 → (∀ k, k ≤ n → dsR T P f r (some k) → F r = nI k) ∧ (¬ Dk T P f n r → F r = -1 ∨ (F r = nI (n + 1) ∧ Dk T P f (n + 1) r))
def FW (T : TX) (P : Nat → Bool) (f n : Nat) (F : Nat → Int32) : Prop := ∀ r, r < 8 → (∀ k, k ≤ n → dsR T P f r (some k) → F r = nI k) ∧ (¬ Dk T P f n r → F r = -1)
theorem ds_of {T : TX} {P : Nat → Bool} {f n r : Nat} (h : Dk T P f n r) : ∃ k, k ≤ n ∧ dsR T P f r (some k) := by
  obtain ⟨o, ho⟩ := ds_ex (T := T) (P := P) (f := f) r
  cases o with
  | none => exact absurd h (ho n)
  | some k =>
    refine ⟨k, ?_, ho⟩
    rcases Nat.lt_or_ge n k with q | q
    · exact absurd h (ho.2 n q)
    · exact q
theorem FI_nn {T : TX} {P : Nat → Bool} {f n : Nat} {F : Nat → Int32} (hn : n < 100) (h : FI T P f n F) {r : Nat} (hr : r < 8) : F r = -1 ∨ ∃ k, k ≤ n + 1 ∧ F r = nI k := by
  by_cases c : Dk T P f n r
  · obtain ⟨k, hk, hd⟩ := ds_of c
    exact Or.inr ⟨k, by omega, (h r hr).1 k hk hd⟩
  · rcases (h r hr).2 c with q | q
    · exact Or.inl q
    · exact Or.inr ⟨n + 1, Nat.le_refl _, q.1⟩
/-- half a door: y is one further than x -/
def hf_ (P : Nat → Bool) (n x y : Nat) (F : Nat → Int32) : Nat → Int32 := if F x = nI n ∧ F y < 0 ∧ P y = true then upd F y (nI (n + 1)) else F
theorem half_ok {T : TX} {P : Nat → Bool} {f n x y : Nat} {F : Nat → Int32} (hn : n < 100) (h : FI T P f n F) (hx : x < 8) (hy : y < 8) (hd : ∀ k, Dk T P f k x → P y = true → Dk T P f (k + 1) y) : FI T P f n (hf_ P n x y F) ∧ (∀ r, r < 8 → F r = nI (n + 1) → hf_ P n x y F r = nI (n + 1)) ∧ (¬ Dk T P f n y → Dk T P f n x → P y = true → hf_ P n x y F y = nI (n + 1)) := by
  have dsx : F x = nI n → Dk T P f n x := by
    intro e
    by_cases c : Dk T P f n x
    · exact c
    · rcases (h x hx).2 c with q | q
      · rw [q] at e
        exact absurd e.symm (nI_m1 (by omega))
      · rw [q.1] at e
        have := (nI_eq (by omega) (by omega)).mp e
        omega
  by_cases c : F x = nI n ∧ F y < 0 ∧ P y = true
  · have e0 : hf_ P n x y F = upd F y (nI (n + 1)) := if_pos c
    rw [e0]
    have ny : ¬ Dk T P f n y := by
      intro q
      obtain ⟨k, hk, hd⟩ := ds_of q
      have := (h y hy).1 k hk hd
      rw [this] at c
      exact nI_pos (by omega) c.2.1
    have dy := hd n (dsx c.1) c.2.2
    refine ⟨fun r hr => ⟨fun k hk hds => ?_, fun q => ?_⟩, fun r hr e => ?_, fun _ _ _ => upd_s⟩
    · rw [upd_e]
      by_cases e : r = y
      · rw [e] at hds
        exact absurd (Dk_le hds.1 hk) ny
      · rw [if_neg e]
        exact (h r hr).1 k hk hds
    · rw [upd_e]
      by_cases e : r = y
      · rw [if_pos e, e]
        exact Or.inr ⟨rfl, dy⟩
      · rw [if_neg e]
        exact (h r hr).2 q
    · rw [upd_e]
      by_cases e2 : r = y
      · rw [if_pos e2]
      · rw [if_neg e2]
        exact e
  · have e0 : hf_ P n x y F = F := if_neg c
    rw [e0]
    refine ⟨h, fun r hr e => e, fun q1 q2 q3 => ?_⟩
    rcases (h y hy).2 q1 with q | q
    · exfalso
      apply c
      refine ⟨?_, by rw [q]; decide, q3⟩
      obtain ⟨k, hk, hds⟩ := ds_of q2
      have e : k = n := by
        rcases Nat.lt_or_ge k n with w | w
        · exact absurd (Dk_le (hd k hds.1 q3) w) q1
        · omega
      rw [(h x hx).1 k hk hds, e]
    · exact q.1
section MF
variable {s : Nat} {M : St} {T : TX}
theorem i12' (s d : Nat) : (12 : Int32) * nI s + nI d = nI (12 * s + d) := i12 s d
theorem M_far (hT : tM s M T) {f c : Nat} (hf : f < 8) (hc : c < 256) : ∃ M', f_X6_fillsFar M (nI f) (nI c) = some M' ∧ on (kM [66]) M M' ∧ ∀ r, r < 8 → ∀ o, dsR T (fun i => c.testBit i) f r o → st_A M' (ky 0 66) r = bkM o := by
  have hb := hT.1
  have h0 := hb.1
  have h1 := hb.2.1
  have o66 : ∀ (Z : St) (v : Nat → Int32), on (kM [66]) Z (up_A Z (ky 0 66) v) := fun Z v => on_A _ _ _ ⟨66, by decide, rfl⟩
  obtain ⟨S1, w1, o1, z1⟩ := loop_P (step := f_X6_fillsFar_L2 (nI f) (nI c)) M 8 (fun z => z) (fun i z => on (kM [66]) M z ∧ ∀ r, r < i → st_A z (ky 0 66) r = -1) (by decide) ⟨on_refl _ _, fun r hr => absurd hr (Nat.not_lt_zero _)⟩ (fun i z hi hz => by
    refine ⟨up_A z (ky 0 66) (upd (st_A z (ky 0 66)) i (-1)), ?_, on_trans hz.1 (o66 _ _), fun r hr => ?_⟩
    · unfold f_X6_fillsFar_L2
      rw [if_neg (show ¬ (8 : Int32) ≤ nI i from nI_ge (b := 8) hi (by decide)), chk_t (ib_nI hi (by decide)), nI_clamp (by omega), lt_e, ← nI_succ]
    · rw [gAs, upd_e]
      by_cases e : r = i
      · rw [if_pos e]
      · rw [if_neg e]
        exact hz.2 r (by omega)) (fun z hz => by
    unfold f_X6_fillsFar_L2
    rw [if_pos (show (8 : Int32) ≤ nI 8 from nI_le (Nat.le_refl 8) (by decide))])
  unfold f_X6_fillsFar
  rw [w1, bnd, bitM3 c hc f hf]
  by_cases cf0 : c.testBit f = true
  · rw [if_pos cf0, if_neg ne10, chk_t (ib_nI hf (by decide)), nI_clamp (by omega), lt_e]
    have D0 : Dk T (fun i => c.testBit i) f 0 f := ⟨rfl, cf0⟩
    obtain ⟨S2, w2, o2, hW⟩ := loop_P (step := f_X6_fillsFar_L39 (nI c)) (up_A S1 (ky 0 66) (upd (st_A S1 (ky 0 66)) f 0)) 8 (fun z => z) (fun n z => on (kM [66]) M z ∧ FW T (fun i => c.testBit i) f n (st_A z (ky 0 66))) (by decide) ⟨on_trans o1 (o66 _ _), fun r hr => ⟨fun k hk hd => by
        have e : k = 0 := by omega
        subst e
        have e2 : r = f := hd.1.1
        rw [gAs, e2, upd_s]
        rfl, fun q => by
        rw [gAs, upd_e]
        by_cases e : r = f
        · rw [e] at q
          exact absurd D0 q
        · rw [if_neg e]
          exact z1 r hr⟩⟩ (fun n z hn hz => by
      obtain ⟨zo, zW⟩ := hz
      obtain ⟨z2, v2, p2, hI, hE⟩ := loop_P (step := f_X6_fillsFar_L48 (nI c) (nI n)) z (tn T 1) (fun z => z) (fun j y => on (kM [66]) M y ∧ FI T (fun i => c.testBit i) f n (st_A y (ky 0 66)) ∧ ∀ r, r < 8 → ¬ Dk T (fun i => c.testBit i) f n r → c.testBit r = true → ∀ d, d < j → ((tf T 0 d = r ∧ Dk T (fun i => c.testBit i) f n (tf T 1 d)) ∨ (tf T 1 d = r ∧ Dk T (fun i => c.testBit i) f n (tf T 0 d))) → st_A y (ky 0 66) r = nI (n + 1)) (by omega) ⟨zo, fun r hr => ⟨(zW r hr).1, fun q => Or.inl ((zW r hr).2 q)⟩, fun r hr _ _ d hd => absurd hd (Nat.not_lt_zero _)⟩ (fun j y hj hy => by
        obtain ⟨yo, yI, yE⟩ := hy
        have yT := tM_fs (by decide) hT yo
        obtain ⟨l1, l2⟩ := tM_live yT
        have hd := hb.2.2.2.2.2.2.1 j hj
        have ha : tf T 0 j < 8 := by omega
        have hbb : tf T 1 j < 8 := by omega
        have hs := hT.2.1
        have dr := yT.2.2.2.2.1 j hj
        have g1 := half_ok (x := tf T 0 j) (y := tf T 1 j) (by omega) yI ha hbb (fun k q1 q2 => Or.inr ⟨q2, j, hj, Or.inr ⟨rfl, q1⟩⟩)
        have g2 := half_ok (x := tf T 1 j) (y := tf T 0 j) (by omega) g1.1 hbb ha (fun k q1 q2 => Or.inr ⟨q2, j, hj, Or.inl ⟨rfl, q1⟩⟩)
        have J : ∀ (Z : St) (F : Nat → Int32), st_A Z (ky 0 66) = F → FI T (fun i => c.testBit i) f n F → ∃ Z', f_X6_fillsFar_J137 Z (nI c) (nI n) (nI j) (nI (tf T 0 j)) (nI (tf T 1 j)) = some (.inl (nI (j + 1), Z')) ∧ st_A Z' (ky 0 66) = hf_ (fun i => c.testBit i) n (tf T 1 j) (tf T 0 j) F ∧ on (kM [66]) Z Z' := by
          intro Z F hZ hF
          unfold f_X6_fillsFar_J137 hf_
          rw [chk_t (ib_nI hbb (by decide)), nI_clamp (by omega), hZ]
          by_cases e1 : F (tf T 1 j) = nI n
          · rw [if_pos e1, chk_t (ib_nI ha (by decide)), nI_clamp (by omega)]
            rcases FI_nn (by omega) hF ha with e2 | ⟨k, hk, e2⟩
            · rw [if_neg (show ¬ (0 : Int32) ≤ F (tf T 0 j) by rw [e2]; decide), bitM3 c hc _ ha]
              by_cases e3 : c.testBit (tf T 0 j) = true
              · rw [if_pos e3, if_pos rfl, chk_t (ib_nI ha (by decide)), lt_e, if_pos ⟨e1, by rw [e2]; decide, e3⟩, ← nI_succ, ← nI_succ]
                exact ⟨_, rfl, gAs .., o66 _ _⟩
              · rw [if_neg e3, if_neg (by decide), if_neg (fun q => e3 q.2.2), ← nI_succ]
                exact ⟨_, rfl, hZ, on_refl _ _⟩
            · rw [if_pos (show (0 : Int32) ≤ F (tf T 0 j) by rw [e2]; exact nI_pos' (by omega)), if_neg (fun q => by
                have := q.2.1
                rw [e2] at this
                exact nI_pos (by omega) this), ← nI_succ]
              exact ⟨_, rfl, hZ, on_refl _ _⟩
          · rw [if_neg e1, if_neg (fun q => e1 q.1), ← nI_succ]
            exact ⟨_, rfl, hZ, on_refl _ _⟩
        have main : ∃ y', f_X6_fillsFar_L48 (nI c) (nI n) (nI j, y) = some (.inl (nI (j + 1), y')) ∧ st_A y' (ky 0 66) = hf_ (fun i => c.testBit i) n (tf T 1 j) (tf T 0 j) (hf_ (fun i => c.testBit i) n (tf T 0 j) (tf T 1 j) (st_A y (ky 0 66))) ∧ on (kM [66]) y y' := by
          unfold f_X6_fillsFar_L48
          rw [chk_t l1, l2, yT.2.2.2.1.2.1, if_neg (show ¬ nI (tn T 1) ≤ nI j from nI_ge hj (by omega)), yT.2.2.1, i12', chk_t (ib_nI (by omega) (by decide)), nI_clamp (by omega), dr.1, lt_e, chk_t (ib_nI (by omega) (by decide)), dr.2, lt_e, chk_t (ib_nI ha (by decide)), nI_clamp (by omega)]
          by_cases e1 : st_A y (ky 0 66) (tf T 0 j) = nI n
          · rw [if_pos e1, chk_t (ib_nI hbb (by decide)), nI_clamp (by omega)]
            rcases FI_nn (by omega) yI hbb with e2 | ⟨k, hk, e2⟩
            · rw [if_neg (show ¬ (0 : Int32) ≤ st_A y (ky 0 66) (tf T 1 j) by rw [e2]; decide), bitM3 c hc _ hbb]
              by_cases e3 : c.testBit (tf T 1 j) = true
              · rw [if_pos e3, if_pos rfl, chk_t (ib_nI hbb (by decide)), lt_e, ← nI_succ]
                have eF : hf_ (fun i => c.testBit i) n (tf T 0 j) (tf T 1 j) (st_A y (ky 0 66)) = upd (st_A y (ky 0 66)) (tf T 1 j) (nI (n + 1)) := if_pos ⟨e1, by rw [e2]; decide, e3⟩
                obtain ⟨Z', q1, q2, q3⟩ := J (up_A y (ky 0 66) (upd (st_A y (ky 0 66)) (tf T 1 j) (nI (n + 1)))) _ ((gAs ..).trans eF.symm) g1.1
                exact ⟨Z', q1, q2, on_trans (o66 _ _) q3⟩
              · rw [if_neg e3, if_neg (by decide)]
                have eF : hf_ (fun i => c.testBit i) n (tf T 0 j) (tf T 1 j) (st_A y (ky 0 66)) = st_A y (ky 0 66) := if_neg (fun q => e3 q.2.2)
                exact J y _ eF.symm g1.1
            · rw [if_pos (show (0 : Int32) ≤ st_A y (ky 0 66) (tf T 1 j) by rw [e2]; exact nI_pos' (by omega))]
              have eF : hf_ (fun i => c.testBit i) n (tf T 0 j) (tf T 1 j) (st_A y (ky 0 66)) = st_A y (ky 0 66) := if_neg (fun q => by
                have := q.2.1
                rw [e2] at this
                exact nI_pos (by omega) this)
              exact J y _ eF.symm g1.1
          · rw [if_neg e1]
            have eF : hf_ (fun i => c.testBit i) n (tf T 0 j) (tf T 1 j) (st_A y (ky 0 66)) = st_A y (ky 0 66) := if_neg (fun q => e1 q.1)
            exact J y _ eF.symm g1.1
        obtain ⟨y', m1, m2, m3⟩ := main
        refine ⟨y', m1, on_trans yo m3, by rw [m2]; exact g2.1, fun r hr q1 q2 d hdj q3 => ?_⟩
        rw [m2]
        by_cases e : d = j
        · subst e
          rcases q3 with ⟨q4, q5⟩ | ⟨q4, q5⟩
          · rw [← q4] at q1 q2 ⊢
            exact g2.2.2 q1 q5 q2
          · rw [← q4] at q1 q2 hr ⊢
            exact g2.2.1 _ hr (g1.2.2 q1 q5 q2)
        · exact g2.2.1 r hr (g1.2.1 r hr (yE r hr q1 q2 d (by omega) q3))) (fun y hy => by
        have yT := tM_fs (by decide) hT hy.1
        obtain ⟨l1, l2⟩ := tM_live yT
        unfold f_X6_fillsFar_L48
        rw [chk_t l1, l2, yT.2.2.2.1.2.1, if_pos (show nI (tn T 1) ≤ nI (tn T 1) from nI_le (Nat.le_refl _) (by omega))])
      refine ⟨z2, ?_, p2, fun r hr => ⟨fun k hk hds => ?_, fun q => ?_⟩⟩
      · unfold f_X6_fillsFar_L39
        rw [if_neg (show ¬ (8 : Int32) ≤ nI n from nI_ge (b := 8) hn (by decide)), v2, bnd, ← nI_succ]
      · by_cases e : k ≤ n
        · exact (hI r hr).1 k e hds
        · have e2 : k = n + 1 := by omega
          subst e2
          have nd := hds.2 n (by omega)
          rcases hds.1 with q | ⟨hp, d, hd, q⟩
          · exact absurd q nd
          · exact hE r hr nd hp d hd q
      · have nd : ¬ Dk T (fun i => c.testBit i) f n r := fun w => q (Or.inl w)
        rcases (hI r hr).2 nd with w | w
        · exact w
        · exact absurd w.2 q) (fun z hz => by
      unfold f_X6_fillsFar_L39
      rw [if_pos (show (8 : Int32) ≤ nI 8 from nI_le (Nat.le_refl 8) (by decide))])
    refine ⟨S2, w2, o2, fun r hr o ho => ?_⟩
    cases o with
    | none => exact (hW r hr).2 (ho 8)
    | some k => exact (hW r hr).1 k (ds_le hb hf ho) ho
  · rw [if_neg cf0, if_pos rfl]
    refine ⟨S1, rfl, o1, fun r hr o ho => ?_⟩
    have hno := Dk_no (T := T) (P := fun i => c.testBit i) (f := f) (fun q => cf0 q.2)
    cases o with
    | none => exact z1 r hr
    | some k => exact absurd ho.1 (hno k r)
end MF
