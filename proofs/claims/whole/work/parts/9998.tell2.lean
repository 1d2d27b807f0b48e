/-! THE REFERENCE TAKES A TELL: doors. -/
section TE
variable {B : Nat → Nat} {n sd : Nat}
theorem lk_lt {S : St} {N s b : Nat} {nl : NL} {l : List Nat} (h : NMS S N nl) (e : lk N nl l s = some b) : b < 8 := by
  unfold lk at e
  cases q : lkN N nl l s with
  | none => rw [q] at e; cases e
  | some j =>
    rw [q] at e
    cases e
    exact (h.2.2 j (s_fst_lt q).1).2.2.2.2.2.1
theorem lkF_n {N s u : Nat} {nl : NL} {l : List Nat} (e : lk N nl l s = none) : lkF N nl l s u = some (4, u) := by
  unfold lk at e
  unfold lkF
  cases q : lkN N nl l s with
  | none => rfl
  | some j => rw [q] at e; cases e
theorem lkF_s {N s u b : Nat} {nl : NL} {l : List Nat} (e : lk N nl l s = some b) : lkF N nl l s u = none := by
  unfold lk at e
  unfold lkF
  cases q : lkN N nl l s with
  | none => rw [q] at e; cases e
  | some j => rfl
theorem lkF_2 {N s u : Nat} {nl : NL} {l : List Nat} {a : Nat × Nat} (e : lkF N nl l s u = some a) : a.2 = u := by
  unfold lkF at e
  split at e
  · cases e
  · cases e; rfl
theorem setR_s (r : Nat → Nat → Nat) (i j v : Nat) : setR r i j v i j = v := if_pos ⟨rfl, rfl⟩
theorem setR_n {r : Nat → Nat → Nat} {i j v a b : Nat} (h : ¬ (a = i ∧ b = j)) : setR r i j v a b = r a b := if_neg h
theorem upd_upd (f : Nat → Int32) (i : Nat) (x : Int32) (j : Nat) (h : j ≠ i) : upd f i x j = f j := upd_n h
theorem u12 (c sd d : Nat) : nI c * nI sd + nI d = nI (c * sd + d) := by rw [pk_mul, nI_add]
theorem J82_e (S : St) : f_X6_tellDoor_J82 S = (f_X6_must S (4 : Int32)).bind (fun (q7 : St) => if (st_I q7 (ky 0 13)) = 0 then (chk (ib (st_I q7 (ky 0 19)) 2) (chk (ib (st_I q7 (ky 0 19)) 2) (lt_v (up_A q7 (ky 0 25) (upd (st_A q7 (ky 0 25)) (st_I q7 (ky 0 19)).toNatClampNeg ((st_A q7 (ky 0 25) (st_I q7 (ky 0 19)).toNatClampNeg) + (1 : Int32)))) (fun (S9 : St) => some S9)))) else (some q7)) := rfl
theorem M_tell21 {S : St} {t sp pt br ifs : Nat} {wb fr : Bool} {all : CL} {bl : List BR} {P : TP} {w : Option (Nat × Nat)} (hn : n ≤ 2000) (h : TB B n sd S t all bl P w) (k20 : tkK B n t = 21) : ∃ S', f_X6_tellOne S = some S' ∧ TEc B n sd S t P w (rn (tkK B n) t (tq sp pt wb fr br ifs (pc P))) S' := by
  obtain ⟨hX, hb4, ⟨h19, ⟨c24, c25, c28, c31⟩, ⟨b0, b1, b2, b4⟩, hN⟩, hr, sw, hl, hct⟩ := h
  have hA := hX.1.1
  have hsd := hX.1.2.2.2.2.2
  unfold f_X6_tellOne
  rw [chk_t (at_ib hA), at_k hA, lt_e, k20, if_neg (show ¬ nI 21 = (20 : Int32) by decide), if_pos (show nI 21 = (21 : Int32) from rfl), h19, chk_t (ib_nI hsd (by decide)), nI_clamp (by omega), c25]
  obtain ⟨S1, e1, o1, d1⟩ := op_room (k := 21) (c := pc P 1) (most := 12) (sp := sp) (pt := pt) (wb := wb) (fr := fr) (br := br) (ifs := ifs) (cn := pc P) hA sw hl (by decide) k20 rfl rfl b1 (by decide)
  generalize hr0 : rn (tkK B n) t (tq sp pt wb fr br ifs (pc P)) = r0 at *
  rw [show f_X6_roomFor S (nI (pc P 1)) (12 : Int32) = _ from e1, bnd]
  have q1 : oh sd fsTe S S1 := oh_ofS (by decide) (by decide) o1
  rcases d1 with f | ⟨hc, d1⟩
  · rw [if_neg (flt_p f).2.1]
    exact ⟨S1, rfl, q1, Or.inl f⟩
  rw [d1.1.1, if_pos rfl, bid]
  have hm : ¬ mostN.getD (21 - 20) 0 < inc (pc P) 1 (21 - 20) := by
    show ¬ 12 < inc (pc P) 1 1
    rw [inc_s]; omega
  have m19 : st_I S1 (ky 0 19) = nI sd := by rw [kI o1 19]; exact h19
  have m25 : st_A S1 (ky 0 25) sd = nI (pc P 1) := by rw [kA o1 25]; exact c25
  have hu : 12 * sd + pc P 1 < 24 := by omega
  have w26 : wd 26 = 12 := by decide
  have w27 : wd 27 = 12 := by decide
  unfold f_X6_tellDoor
  rw [m19, chk_t (ib_nI hsd (by decide)), nI_clamp (by omega), m25, show (12 : Int32) * nI sd + nI (pc P 1) = nI (12 * sd + pc P 1) from u12 12 sd _, lt_e]
  obtain ⟨v1, S2, e2, o2, -, d2⟩ := op_known (E := True) (s := 0) (q := qd 21 0 (inc (pc P) 1)) (q' := qd 21 1 (inc (pc P) 1)) hn (Or.inr ⟨trivial, d1⟩) (NMS_on hN (by decide) o1) (by decide) (qd0 (by decide)) (fun j _ => gqd _ (by decide) (by decide) (by decide) (by decide) j) (many_d hm)
  rw [show f_X6_known S1 (0 : Int32) = _ from e2, bnd, chk_t (ib_nI hu (by decide)), nI_clamp (by omega), lt_e]
  have o3 : on (kM [26]) S2 (up_A S2 (ky 0 26) (upd (st_A S2 (ky 0 26)) (12 * sd + pc P 1) v1)) := on_A _ _ _ ⟨26, by decide, rfl⟩
  have q3 : oh sd fsTe S2 (up_A S2 (ky 0 26) (upd (st_A S2 (ky 0 26)) (12 * sd + pc P 1) v1)) := oh_U S2 26 _ _ (by decide) (by decide) (by rw [w26]; omega) (by rw [w26]; omega)
  have x26 : st_A (up_A S2 (ky 0 26) (upd (st_A S2 (ky 0 26)) (12 * sd + pc P 1) v1)) (ky 0 26) = upd (st_A S2 (ky 0 26)) (12 * sd + pc P 1) v1 := gAs _ _ _
  have d3 := FO_on d2 (by decide) o3
  generalize up_A S2 (ky 0 26) (upd (st_A S2 (ky 0 26)) (12 * sd + pc P 1) v1) = S3 at *
  have hN3 := NMS_on (NMS_on (NMS_on hN (by decide) o1) (by decide) o2) (by decide) o3
  obtain ⟨v2, S4, e4, o4, -, d4⟩ := op_known (s := 0) (q' := qd 21 2 (inc (pc P) 1)) hn d3 hN3 (by decide) (qd0 (by decide)) (fun j _ => gqd _ (by decide) (by decide) (by decide) (by decide) j) (many_d hm)
  rw [show f_X6_known S3 (0 : Int32) = _ from e4, bnd, chk_t (ib_nI hu (by decide)), lt_e]
  have o5 : on (kM [27]) S4 (up_A S4 (ky 0 27) (upd (st_A S4 (ky 0 27)) (12 * sd + pc P 1) v2)) := on_A _ _ _ ⟨27, by decide, rfl⟩
  have q5 : oh sd fsTe S4 (up_A S4 (ky 0 27) (upd (st_A S4 (ky 0 27)) (12 * sd + pc P 1) v2)) := oh_U S4 27 _ _ (by decide) (by decide) (by rw [w27]; omega) (by rw [w27]; omega)
  have x27 : st_A (up_A S4 (ky 0 27) (upd (st_A S4 (ky 0 27)) (12 * sd + pc P 1) v2)) (ky 0 27) = upd (st_A S4 (ky 0 27)) (12 * sd + pc P 1) v2 := gAs _ _ _
  have d5 := FO_on d4 (by decide) o5
  generalize up_A S4 (ky 0 27) (upd (st_A S4 (ky 0 27)) (12 * sd + pc P 1) v2) = S5 at *
  have q05 : oh sd fsTe S S5 := oh_trans q1 (oh_trans (oh_ofS (by decide) (by decide) o2) (oh_trans q3 (oh_trans (oh_ofS (by decide) (by decide) o4) q5)))
  rcases d5 with f | ⟨⟨⟨⟨⟨_, k1⟩, ev1⟩, k2⟩, ev2⟩, a5, r5, s5, l5⟩
  · rw [if_neg (flt_p f).2.1, J82_e, M_mustF f, bnd, if_neg (flt_p f).2.1]
    exact ⟨S5, rfl, q05, Or.inl f⟩
  have i27 : st_A S5 (ky 0 27) (12 * sd + pc P 1) = v2 := by rw [x27, upd_s]
  have i26 : st_A S5 (ky 0 26) (12 * sd + pc P 1) = v1 := by rw [kA o5 26, kA o4 26, x26, upd_s]
  have i11 : fltM B n S3 r0 ∨ st_I S3 (ky 0 11) = nI (t + 2) := d3.elim Or.inl (fun z => Or.inr z.2.1.2.1)
  have nf : ¬ fltM B n S3 r0 := fun f => by
    have e7 : f_X6_known S3 (nI 0) = some (-1, S3) := by
      unfold f_X6_known
      rw [M_mustF f, bnd, if_neg (flt_p f).1]
    rw [e4] at e7
    have e8 := congrArg Prod.snd (Option.some.inj e7)
    have e9 : S4 = S3 := e8
    have f5 : fltM B n S5 r0 := flt_on (flt_on f (fs := []) (by decide) (by rw [e9]; exact on_refl _ _)) (by decide) o5
    exact (flt_p f5).2.1 a5.1
  have e11 := i11.resolve_left nf
  rw [a5.1, if_pos rfl, chk_t (ib_nI hu (by decide)), i27, chk_t (ib_nI hu (by decide)), chk_t (ib_nI hu (by decide)), i26, e11]
  generalize hl1 : lk (nN P) (pn P) (tkL B n (t + 1)) 0 = lk1 at *
  generalize hl2 : lk (nN P) (pn P) (tkL B n (t + 2)) 0 = lk2 at *
  -- the same room twice
  have mid : ∃ S6, on (kM [15, 16]) S5 S6 ∧ wst B n S6 (ow (ow (ow w (lkF (nN P) (pn P) (tkL B n (t + 1)) 0 (t + 1))) (lkF (nN P) (pn P) (tkL B n (t + 2)) 0 (t + 2))) (if lk1 = lk2 then some (3, t + 2) else none)) ∧ (∀ a, (ow (ow (ow w (lkF (nN P) (pn P) (tkL B n (t + 1)) 0 (t + 1))) (lkF (nN P) (pn P) (tkL B n (t + 2)) 0 (t + 2))) (if lk1 = lk2 then some (3, t + 2) else none)) = some a → a.2 < t + 3) ∧ (if v2 < 0 then f_X6_tellDoor_J82 S5 else (if v2 = v1 then ((f_X6_wrong S5 (3 : Int32) (nI (t + 2))).bind (fun (q12 : St) => f_X6_tellDoor_J82 q12)) else f_X6_tellDoor_J82 S5)) = f_X6_tellDoor_J82 S6 := by
    rw [ev2, ev1]
    cases lk2 with
    | none =>
      have hF : lkF (nN P) (pn P) (tkL B n (t + 2)) 0 (t + 2) = some (4, t + 2) := lkF_n hl2
      have hs : ∃ a, ow (ow w (lkF (nN P) (pn P) (tkL B n (t + 1)) 0 (t + 1))) (lkF (nN P) (pn P) (tkL B n (t + 2)) 0 (t + 2)) = some a := by
        rw [hF]
        cases ow w (lkF (nN P) (pn P) (tkL B n (t + 1)) 0 (t + 1)) with
        | none => exact ⟨_, rfl⟩
        | some a => exact ⟨_, rfl⟩
      obtain ⟨a, ha⟩ := hs
      rw [ha, ow_s]
      rw [ha] at s5 l5
      exact ⟨S5, on_refl _ _, s5, l5, if_pos (by show (-1 : Int32) < 0; decide)⟩
    | some b =>
      have hb := lk_lt hN hl2
      have hF : lkF (nN P) (pn P) (tkL B n (t + 2)) 0 (t + 2) = none := lkF_s hl2
      rw [if_neg (show ¬ bkM (some b) < 0 from nI_pos (by omega)), hF, ow_N]
      rw [hF, ow_N] at s5 l5
      by_cases c : lk1 = some b
      · rw [if_pos c, if_pos (show bkM (some b) = bkM lk1 by rw [c])]
        have hz : ∀ v, v ≤ t + 2 → tkK B n v ≠ 0 := fun v hv => a5.2.2.2.1 v (by omega)
        obtain ⟨S6, e6, o6, s6⟩ := M_wrong (w := ow w (lkF (nN P) (pn P) (tkL B n (t + 1)) 0 (t + 1))) (u := t + 2) (k := 3) hn a5.1 a5.2.2.2.2 (by have := a5.2.2.1; omega) hz s5 (fun a ha => Or.inl (by
          cases w with
          | some y =>
            have hy : y = a := Option.some.inj ha
            have := hl y rfl
            rw [← hy]; omega
          | none =>
            have := lkF_2 (show lkF _ _ _ _ _ = some a from ha)
            omega)) (by decide)
        rw [show f_X6_wrong S5 (3 : Int32) (nI (t + 2)) = _ from e6, bnd]
        refine ⟨S6, o6, s6, fun a ha => ?_, rfl⟩
        cases hw1 : ow w (lkF (nN P) (pn P) (tkL B n (t + 1)) 0 (t + 1)) with
        | some y =>
          rw [hw1] at ha
          have hy : y = a := Option.some.inj ha
          rw [← hy]
          exact l5 y hw1
        | none =>
          rw [hw1] at ha
          cases ha
          show t + 2 < t + 3
          omega
      · have hne : ¬ bkM (some b) = bkM lk1 := fun z => by
          cases lk1 with
          | none =>
            have h1 : ¬ bkM (some b) < 0 := nI_pos (by omega)
            rw [z] at h1
            exact h1 (by show (-1 : Int32) < 0; decide)
          | some a =>
            have ha := lk_lt hN hl1
            exact c (by rw [(nI_eq (by omega) (by omega)).mp z])
        rw [if_neg hne, if_neg c, ow_N]
        exact ⟨S5, on_refl _ _, s5, l5, rfl⟩
  obtain ⟨S6, o6, s6, l6, eq6⟩ := mid
  rw [eq6, J82_e]
  have a6 := atM_on (by decide) a5 o6
  obtain ⟨S7, e7, o7, d7⟩ := op_must (k := 4) (q := qd 21 2 (inc (pc P) 1)) (q' := qd 0 3 (inc (pc P) 1)) (E := True) (Or.inr ⟨trivial, a6, r5, s6, l6⟩) (by decide) (by decide) (qd0 (by decide)) (fun j _ => gqe _ (by decide) (by decide) j) many_e
  rw [show f_X6_must S6 (4 : Int32) = _ from e7, bnd]
  have q7 : oh sd fsTe S S7 := oh_trans q05 (oh_trans (oh_ofS (by decide) (by decide) o6) (oh_ofS (by decide) (by decide) o7))
  rcases d7 with f | ⟨⟨_, k4⟩, a7, r7, s7, l7⟩
  · rw [if_neg (flt_p f).2.1]
    exact ⟨S7, rfl, q7, Or.inl f⟩
  have oo : on (kM [11, 13, 14, 15, 16, 26, 27]) S S7 := on_trans (kM_mono (by decide) o1) (on_trans (kM_mono (by decide) o2) (on_trans (kM_mono (by decide) o3) (on_trans (kM_mono (by decide) o4) (on_trans (kM_mono (by decide) o5) (on_trans (kM_mono (by decide) o6) (kM_mono (by decide) o7))))))
  have n19 : st_I S7 (ky 0 19) = nI sd := by rw [kI oo 19]; exact h19
  have n25 : st_A S7 (ky 0 25) sd = nI (pc P 1) := by rw [kA oo 25]; exact c25
  have n26 : st_A S7 (ky 0 26) = upd (st_A S (ky 0 26)) (12 * sd + pc P 1) v1 := by rw [kA o7 26, kA o6 26, kA o5 26, kA o4 26, x26, kA o2 26, kA o1 26]
  have n27 : st_A S7 (ky 0 27) = upd (st_A S (ky 0 27)) (12 * sd + pc P 1) v2 := by rw [kA o7 27, kA o6 27, x27, kA o4 27, kA o3 27, kA o2 27, kA o1 27]
  rw [a7.1, if_pos rfl, n19, chk_t (ib_nI hsd (by decide)), chk_t (ib_nI hsd (by decide)), nI_clamp (by omega), n25, nI_1, lt_e]
  have o8 : on (kM [25]) S7 (up_A S7 (ky 0 25) (upd (st_A S7 (ky 0 25)) sd (nI (pc P 1 + 1)))) := on_A _ _ _ ⟨25, by decide, rfl⟩
  have q8 : oh sd fsTe S7 (up_A S7 (ky 0 25) (upd (st_A S7 (ky 0 25)) sd (nI (pc P 1 + 1)))) := oh_U S7 25 _ _ (by decide) (by decide) (by rw [wd1 25 (by decide)]; omega) (by rw [wd1 25 (by decide)]; omega)
  have x25 : st_A (up_A S7 (ky 0 25) (upd (st_A S7 (ky 0 25)) sd (nI (pc P 1 + 1)))) (ky 0 25) = upd (st_A S7 (ky 0 25)) sd (nI (pc P 1 + 1)) := gAs _ _ _
  generalize up_A S7 (ky 0 25) (upd (st_A S7 (ky 0 25)) sd (nI (pc P 1 + 1))) = S8 at *
  have a8 := atM_on (by decide) a7 o8
  have o08 : on (kM [11, 13, 14, 15, 16, 25, 26, 27]) S S8 := on_trans (kM_mono (by decide) oo) (kM_mono (by decide) o8)
  have eP : tkP (tkK B n) (tkL B n) (tkV B n) P t [] = (inc (pc P) 1, pn P, setR (setR (pr P) 0 (pc P 1) (lkv P (tkL B n (t + 1)) 0)) 1 (pc P 1) (lkv P (tkL B n (t + 2)) 0), pl P, pk P, pd P) := by
    unfold tkP
    rw [if_neg (by omega), if_pos k20]
  have eF : tkF (tkK B n) (tkL B n) (tkV B n) P t = ow (ow (lkP P (tkL B n (t + 1)) 0 (t + 1)) (lkP P (tkL B n (t + 2)) 0 (t + 2))) (if lk1 = lk2 then some (3, t + 2) else none) := by
    unfold tkF
    rw [if_neg (by omega), if_pos k20, hl1, hl2]
  refine ⟨S8, rfl, oh_trans q7 q8, Or.inr ⟨t + 4, [], all, bl, 3, 0, true, true, 0, 0, by omega, Or.inr (Or.inl ⟨k20, k1, k2, k4, rfl⟩), ?_, ?_⟩⟩
  · rw [eP]; exact r7
  · have ew : ow w (ow (ow (lkP P (tkL B n (t + 1)) 0 (t + 1)) (lkP P (tkL B n (t + 2)) 0 (t + 2))) (if lk1 = lk2 then some (3, t + 2) else none)) = ow (ow (ow w (lkF (nN P) (pn P) (tkL B n (t + 1)) 0 (t + 1))) (lkF (nN P) (pn P) (tkL B n (t + 2)) 0 (t + 2))) (if lk1 = lk2 then some (3, t + 2) else none) := by
      rw [ow_a, ow_a, ow_a]
      rfl
    rw [eP, eF, ew]
    refine ⟨LX_mv (by decide) hX o08 (by omega) a8, by omega, ⟨?_, ⟨?_, ?_, ?_, ?_⟩, ⟨b0, ?_, b2, b4⟩, ?_⟩, fun hw => ?_, wst_on s7 (by decide) o8, l7, inc_le 1 hct (by omega)⟩
    · rw [kI o8 19]; exact n19
    · rw [kA o08 24]; exact c24
    · rw [x25, upd_s]; rfl
    · rw [kA o08 28]; exact c28
    · rw [kA o08 31]; exact c31
    · show pc P 1 + 1 ≤ 12
      omega
    · exact NMS_on hN (by decide) o08
    · obtain ⟨hw1, -⟩ := ow_none hw
      obtain ⟨hw2, hF2⟩ := ow_none hw1
      obtain ⟨hw3, hF1⟩ := ow_none hw2
      obtain ⟨ra, rb, rc, rd, re, rf⟩ := hr hw3
      refine ⟨fun d hd => ?_, ?_, ?_, ?_, ?_, fun i hi => ?_⟩
      · have hd2 : d < pc P 1 + 1 := hd
        rw [kA o8 26, kA o8 27, n26, n27]
        by_cases c : d = pc P 1
        · subst c
          have g0 : pr (inc (pc P) 1, pn P, setR (setR (pr P) 0 (pc P 1) (lkv P (tkL B n (t + 1)) 0)) 1 (pc P 1) (lkv P (tkL B n (t + 2)) 0), pl P, pk P, pd P) 0 (pc P 1) = lkv P (tkL B n (t + 1)) 0 := by
            show setR (setR (pr P) 0 (pc P 1) (lkv P (tkL B n (t + 1)) 0)) 1 (pc P 1) (lkv P (tkL B n (t + 2)) 0) 0 (pc P 1) = _
            rw [setR_n (by omega), setR_s]
          have g1 : pr (inc (pc P) 1, pn P, setR (setR (pr P) 0 (pc P 1) (lkv P (tkL B n (t + 1)) 0)) 1 (pc P 1) (lkv P (tkL B n (t + 2)) 0), pl P, pk P, pd P) 1 (pc P 1) = lkv P (tkL B n (t + 2)) 0 := by
            exact setR_s _ _ _ _
          rw [upd_s, upd_s, g0, g1, ev1, ev2, ← hl1, ← hl2, lk_some hF1, lk_some hF2]
          exact ⟨rfl, rfl⟩
        · have g0 : ∀ i, pr (inc (pc P) 1, pn P, setR (setR (pr P) 0 (pc P 1) (lkv P (tkL B n (t + 1)) 0)) 1 (pc P 1) (lkv P (tkL B n (t + 2)) 0), pl P, pk P, pd P) i d = pr P i d := fun i => by
            show setR (setR (pr P) 0 (pc P 1) (lkv P (tkL B n (t + 1)) 0)) 1 (pc P 1) (lkv P (tkL B n (t + 2)) 0) i d = _
            rw [setR_n (fun z => c z.2), setR_n (fun z => c z.2)]
          rw [upd_n (by omega), upd_n (by omega), g0, g0]
          exact ra d (by omega)
      · rw [kA o08 29, kA o08 30]
        exact fun a ha => rb a ha
      · rw [kA o08 32, kA o08 33]
        exact fun a ha => rc a ha
      · rw [kA o08 34]; exact rd
      · rw [kA o08 35]; exact re
      · have := rf i hi
        unfold lawR at *
        rw [kA o08 36, kA o08 37]
        exact this
end TE
