/-! THE CLASS'S SCAN. -/
theorem C_clear1 (S : St) : ∃ S', f_X3_clear S = some S' ∧ on kSc S S' ∧ st_I S' (ky 1 4) = 0 ∧ st_I S' (ky 1 5) = -1 ∧ scC S' q00 := by
  unfold f_X3_clear
  rw [lt_e, lt_e, lt_e]
  have hw : (Int32.ofNat (wk_n wd_C (ky 1 7))) = nI 8 := rfl
  have l := fill_loop (step := f_X3_clear_L17) (up_I (up_I (up_I S (ky 1 4) (0 : Int32)) (ky 1 5) (-1 : Int32)) (ky 1 8) (-1 : Int32)) (ky 1 7) 0 8 0 (fun _ => 0) (fun S => S) (by decide) (by decide) (by
    intro i A _ hi _
    unfold f_X3_clear_L17
    show (if Int32.ofNat (wk_n wd_C (ky 1 7)) ≤ nI i then _ else _) = _
    rw [hw, if_neg (nI_ge hi (by decide)), put_nI (n := 8) rfl hi (by decide), bnd, nI_1, upA_upA, gAs, Nat.zero_add]) (by
    intro A
    unfold f_X3_clear_L17
    show (if Int32.ofNat (wk_n wd_C (ky 1 7)) ≤ nI 8 then _ else _) = _
    rw [hw, if_pos (Int32.le_refl _)])
  refine ⟨_, l, ?_, rfl, rfl, ?_⟩
  · exact on_trans (on_trans (on_trans (on_I _ _ _ (kSc_ (by decide) (by decide))) (on_I _ _ _ (kSc_ (by decide) (by decide)))) (on_I _ _ _ (kSc_ (by decide) (by decide)))) (on_A _ _ _ (kSc_ (by decide) (by decide)))
  · refine ⟨Or.inl rfl, rfl, fun q => absurd rfl q, fun i hi => ?_⟩
    rw [gAs, if_pos ⟨by omega, by omega⟩]
    rfl
def scanI (B : Nat → Nat) (n : Nat) (S0 : St) (t : Nat) (z : Int32 × Int32 × St) : Prop := z.1 = nI (ps B n t) ∧ z.2.1 = nI t ∧ on kSc S0 z.2.2 ∧ st_I z.2.2 (ky 1 4) = nI t ∧ st_I z.2.2 (ky 1 5) = -1 ∧ ps B n t ≤ n ∧ t ≤ 400 ∧ (∃ q, scC z.2.2 q ∧ scB q ∧ rn (tkK B n) 0 q00 = rn (tkK B n) t q) ∧ ∀ u, u < t → ps B n u < n ∧ tokC B n z.2.2 u
def scanR (B : Nat → Nat) (n : Nat) (S0 S' : St) (c : Nat × Nat) : Prop := on kSc S0 S' ∧ st_I S' (ky 1 5) = (if c.1 = 0 then -1 else nI (ps B n c.2)) ∧ (c.1 = 0 → st_I S' (ky 1 4) = nI c.2 ∧ ps B n c.2 = n ∧ c.2 ≤ 400 ∧ ∀ u, u < c.2 → ps B n u < n ∧ tokC B n S' u)
theorem scan_end {B : Nat → Nat} {n : Nat} {S0 Z : St} {t : Nat} {z1 z2 : Int32} (h : scanI B n S0 t (z1, z2, Z)) (he : ps B n t = n) : ∃ S', f_X3_scan_J104 (ky 0 0) Z (nI n) = some (nI (rn (tkK B n) 0 q00).1, S') ∧ scanR B n S0 S' (rn (tkK B n) 0 q00) := by
  obtain ⟨_, _, o, h4, h5, h6, h7, ⟨q, hq1, hq2, hq3⟩, h8⟩ := h
  have o' : on kSc S0 Z := o
  have h4' : st_I Z (ky 1 4) = nI t := h4
  have h5' : st_I Z (ky 1 5) = -1 := h5
  have ek : tkK B n t = 0 := tkK_0.mpr (by omega)
  obtain ⟨tel, sp, pt, w, fr, br, ifs, cn⟩ := q
  rw [hq3, rn_e _ _ h7, if_pos ek]
  have e8 : st_I Z (ky 1 8) = (if tel = 0 then -1 else nI (180 + tel)) := hq1.2.1
  unfold f_X3_scan_J104
  rw [e8]
  show ∃ S', _ = some (nI (if tel = 0 then (0, t) else (1, t)).1, S') ∧ scanR B n S0 S' (if tel = 0 then (0, t) else (1, t))
  by_cases ht : tel = 0
  · rw [if_pos ht, if_pos ht, if_pos rfl]
    refine ⟨Z, rfl, o', ?_, fun _ => ⟨h4', he, h7, h8⟩⟩
    rw [h5']
    rfl
  · have hr : tel < 28 := hq1.1.elim (fun e => absurd e ht) (fun e => e.2.1)
    rw [if_neg ht, if_neg ht, if_neg (show ¬ nI (180 + tel) = (-1 : Int32) from fun z => by
      have := nI_pos (n := 180 + tel) (by omega)
      rw [z] at this
      exact this (by decide))]
    unfold f_X3_fail
    rw [lt_e, bnd]
    refine ⟨_, rfl, on_trans o' (on_I _ _ _ (kSc_ (by decide) (by decide))), ?_, fun q => absurd q (by intro z; cases z)⟩
    show nI n = if (1 : Nat) = 0 then _ else nI (ps B n t)
    rw [if_neg (by decide), he]
theorem scan_step {B : Nat → Nat} {n : Nat} {S0 Z : St} {t : Nat} {z1 z2 : Int32} (hT : tpC B n S0) (hw : wrdC S0) (h : scanI B n S0 t (z1, z2, Z)) : (∃ y, f_X3_scan_L14 (ky 0 0) (nI n) (z1, z2, Z) = some (.inl y) ∧ t < 400 ∧ scanI B n S0 (t + 1) y) ∨ (∃ S', f_X3_scan_L14 (ky 0 0) (nI n) (z1, z2, Z) = some (.inr (.inr (nI (rn (tkK B n) 0 q00).1, S'))) ∧ scanR B n S0 S' (rn (tkK B n) 0 q00)) ∨ (f_X3_scan_L14 (ky 0 0) (nI n) (z1, z2, Z) = some (.inr (.inl Z)) ∧ ps B n t = n) := by
  have hh := h
  obtain ⟨h1, h2, o, h4, h5, h6, h7, ⟨q, hq1, hq2, hq3⟩, h8⟩ := h
  have h1' : z1 = nI (ps B n t) := h1
  have h2' : z2 = nI t := h2
  subst h1' h2'
  have hn := hT.1
  have o' : on kSc S0 Z := o
  have h4' : st_I Z (ky 1 4) = nI t := h4
  have h5' : st_I Z (ky 1 5) = -1 := h5
  have hTZ := tpC_on hT o'
  by_cases he : ps B n t = n
  · refine Or.inr (Or.inr ⟨?_, he⟩)
    unfold f_X3_scan_L14
    show (if (400 : Int32) < nI t then _ else if nI n ≤ nI (ps B n t) then _ else _) = _
    rw [if_neg (show ¬ (400 : Int32) < nI t from nI_nlt (b := t) (a := 400) h7 (by decide)), if_pos (nI_le (by omega) (by omega))]
  have hi : ps B n t < n := by omega
  have ek : tkK B n t = kd B n (ps B n t) := by
    unfold tkK
    rw [if_neg (by omega)]
  have hk : okK (tkK B n t) := by
    rw [ek]
    exact kd_ok (hT.2.1 _ hi)
  have hk0 := (ckN_lt _ hk).2.1
  obtain ⟨b1, b2'⟩ := te_b (B := B) hn hi
  obtain ⟨v, e1, v1, v2⟩ := C_kindOf hTZ (wrdC_on hw o') hi
  rw [← ek] at e1 v1 v2
  have hq1' : scC (up_J Z (ky 1 6) v) q := scC_on hq1 (fun f _ _ => rfl) rfl
  obtain ⟨tel, sp, pt, w, fr, br, ifs, cn⟩ := q
  obtain ⟨S1, e2, o2, hg⟩ := C_goesOn hq1' hq2 hk
  have oJ : on kSc Z (up_J Z (ky 1 6) v) := on_J _ _ _ (kSc_ (by decide) (by decide))
  have o3 : on kSc S0 S1 := on_trans o' (on_trans oJ (on_mono (fun _ => kG_T) o2))
  have run := rn_e (tkK B n) (t := t) (tel, sp, pt, w, fr, br, ifs, cn) h7
  rw [if_neg hk0] at run
  rw [hq3, run]
  have start : f_X3_scan_L14 (ky 0 0) (nI n) (nI (ps B n t), nI t, Z) = (if b2 (goQ (tel, sp, pt, w, fr, br, ifs, cn) (tkK B n t)).isSome = 0 then ((f_X3_fail S1 (1 : Int32) (nI (ps B n t))).bind (fun (q15 : Int32 × St) => some (.inr (.inr (q15.1, q15.2))))) else (if nI t = (400 : Int32) then (f_X3_scan_J76 (ky 0 0) S1 (nI (ps B n t))) else ((f_X3_tooMany S1).bind (fun (q11 : Int32) => if q11 = 0 then ((f_X3_add S1 (ckd (tkK B n t)) (nI (ps B n t))).bind (fun (q13 : St) => (f_X3_nextByte (ky 0 0) q13 (nI n) (nI (te B n (ps B n t)))).bind (fun (q14 : Int32) => some (.inl (q14, (nI t + 1), q13))))) else (f_X3_scan_J76 (ky 0 0) S1 (nI (ps B n t))))))) := by
    unfold f_X3_scan_L14
    show (if (400 : Int32) < nI t then _ else if nI n ≤ nI (ps B n t) then _ else (f_X3_tokenEnd (ky 0 0) Z (nI n) (nI (ps B n t))).bind _) = _
    rw [if_neg (show ¬ (400 : Int32) < nI t from nI_nlt (b := t) (a := 400) h7 (by decide)), if_neg (nI_ge hi (by omega)), C_tokenEnd hTZ hi, bnd]
    show (f_X3_kindOf (ky 0 0) Z (nI (ps B n t)) (nI (te B n (ps B n t)))).bind _ = _
    rw [e1, bnd]
    show (f_X3_goesOn (up_J Z (ky 1 6) v) (ckd (tkK B n t))).bind _ = _
    rw [e2, bnd]
  rw [start]
  cases hgo : goQ (tel, sp, pt, w, fr, br, ifs, cn) (tkK B n t) with
  | none =>
    refine Or.inr (Or.inl ?_)
    show ∃ S', (if b2 false = 0 then _ else _) = some (Sum.inr (Sum.inr (nI 1, S'))) ∧ scanR B n S0 S' (1, t)
    rw [if_pos (show b2 false = 0 from rfl)]
    unfold f_X3_fail
    rw [lt_e, bnd]
    refine ⟨_, rfl, on_trans o3 (on_I _ _ _ (kSc_ (by decide) (by decide))), ?_, fun q => absurd q (by intro z; cases z)⟩
    show nI (ps B n t) = if (1 : Nat) = 0 then _ else nI (ps B n t)
    rw [if_neg (by decide)]
  | some q' =>
    obtain ⟨hs, hE⟩ := hg q' hgo
    obtain ⟨⟨g1, g2, g3⟩, g4⟩ := goQ_b hq2 hgo
    have bad : ∃ S', f_X3_scan_J76 (ky 0 0) S1 (nI (ps B n t)) = some (.inr (.inr (nI 2, S'))) ∧ scanR B n S0 S' (2, t) := by
      unfold f_X3_scan_J76 f_X3_fail
      rw [lt_e, bnd]
      refine ⟨_, rfl, on_trans o3 (on_I _ _ _ (kSc_ (by decide) (by decide))), ?_, fun q => absurd q (by intro z; cases z)⟩
      show nI (ps B n t) = if (2 : Nat) = 0 then _ else nI (ps B n t)
      rw [if_neg (by decide)]
    rw [if_neg (show ¬ b2 (some q').isSome = 0 from ne01)]
    rw [aft_s]
    by_cases c4 : t = 400
    · rw [if_pos (show nI t = (400 : Int32) by rw [c4]; rfl), if_pos (Or.inl c4)]
      exact Or.inr (Or.inl bad)
    rw [if_neg (show ¬ nI t = (400 : Int32) from nI_eq' (b := 400) (by omega) (by decide) c4)]
    obtain ⟨tel', sp', pt', w', fr', br', ifs', cn'⟩ := q'
    rw [C_tooMany hs hE g1 g2 g3, bnd]
    cases hm : many (tel', sp', pt', w', fr', br', ifs', cn') with
    | true =>
      rw [if_neg (show ¬ b2 true = 0 by decide), if_pos (Or.inr rfl)]
      exact Or.inr (Or.inl bad)
    | false =>
      have e4 : st_I S1 (ky 1 4) = nI t := by
        have := (o2 (ky 1 4) (by rintro ⟨g, r1, r2, r3⟩; have := (ky_iff (by decide) (by omega)).mp r3; omega)).1
        rw [this]; exact h4'
      have e5 : st_I S1 (ky 1 5) = -1 := by
        have := (o2 (ky 1 5) (by rintro ⟨g, r1, r2, r3⟩; have := (ky_iff (by decide) (by omega)).mp r3; omega)).1
        rw [this]; exact h5'
      have e6 : st_J S1 (ky 1 6) = v := by
        have := (o2 (ky 1 6) (by rintro ⟨g, r1, r2, r3⟩; have := (ky_iff (by decide) (by omega)).mp r3; omega)).2.2.1
        rw [this, gJ_J, if_pos rfl]
      rw [if_pos (show b2 false = 0 from rfl), C_add (by omega) e4, bnd]
      have o4 : on kSc S0 (upAdd S1 t (ckd (tkK B n t)) (nI (ps B n t))) := on_trans o3 (upAdd_on _ _ _ _)
      rw [C_nextByte (tpC_on hT o4) b2', bnd, nI_1]
      refine Or.inl ⟨_, rfl, by omega, rfl, rfl, o4, rfl, e5, nx_le B b2', by omega, ⟨_, scC_on hs (fun f _ _ => ?_) rfl, g4 hm, ?_⟩, fun u hu => ?_⟩
      · show (if ky 1 f = ky 1 4 then _ else st_I S1 (ky 1 f)) = _
        rw [if_neg (fun z => by have := (ky_iff (by omega) (by decide)).mp z; omega)]
      · rw [hq3, run, hgo, aft_s, if_neg (by rw [hm]; simp [c4])]
      · by_cases c : u < t
        · exact ⟨(h8 u c).1, upAdd_n _ _ _ _ c (tokC_on (S := up_J Z (ky 1 6) v) (h8 u c).2 o2)⟩
        · have : u = t := by omega
          subst this
          exact ⟨hi, upAdd_s _ _ rfl rfl (fun z => by rw [e6]; exact v1 z) (fun z => by rw [e6]; exact v2 z)⟩
