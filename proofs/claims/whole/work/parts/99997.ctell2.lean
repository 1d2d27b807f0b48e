/-! THE CLASS TAKES A TELL: doors, men, mirrors, laws. -/
theorem CN_8 {kt : Nat} {S : St} {M s v : Nat} {nl : NL} {l : List Nat} (h : CN kt S M nl) (e : lk M nl l s = some v) : v < 8 := by
  unfold lk at e
  cases q : lkN M nl l s with
  | none => rw [q] at e; cases e
  | some j =>
    rw [q] at e
    have hj := (s_fst_lt q).1
    have e2 : (nl j).2.2 = v := Option.some.inj e
    rw [← e2]
    exact (h.2.2 j hj).2.2.2.2
theorem lkI_eq {x y : Option Nat} (hx : ∀ v, x = some v → v < 8) (hy : ∀ v, y = some v → v < 8) : lkI x = lkI y ↔ x = y := by
  cases x with
  | none =>
    cases y with
    | none => exact ⟨fun _ => rfl, fun _ => rfl⟩
    | some b => exact ⟨fun e => absurd e.symm (nI_m1 (by have := hy b rfl; omega)), fun e => by cases e⟩
  | some a =>
    cases y with
    | none => exact ⟨fun e => absurd e (nI_m1 (by have := hx a rfl; omega)), fun e => by cases e⟩
    | some b => exact ⟨fun e => by rw [(nI_eq (by have := hx a rfl; omega) (by have := hy b rfl; omega)).mp e], fun e => by rw [e]⟩
theorem lkF_none {N s u : Nat} {nl : NL} {l : List Nat} (h : lkF N nl l s u = none) : ∃ v, lk N nl l s = some v := by
  cases e : lk N nl l s with
  | some v => exact ⟨v, rfl⟩
  | none =>
    rw [lkF_n e] at h
    cases h
theorem lkI_s {v : Nat} : lkI (some v) = nI v := rfl
section CT
variable {B : Nat → Nat} {n N kt : Nat}
theorem C_take21 (hkt : isTx kt) {S : St} {P : TP} {o : CL} {t d : Nat} {brs : List BR} (T : TKC B n N S) (hd : d ≤ N) (hb : pc P 1 < 12) (hg : gP P) (h : CB kt S P o) (hw : cwst B n kt S none) (c21 : tkK B n t = 21) (k1 : tkK B n (t + 1) = 1) (k2 : tkK B n (t + 2) = 1) (hdt : d = t + 4) : CTc B n kt S P o t d brs := by
  obtain ⟨hi, hk, hn, hd1, hm, hh, hl⟩ := h
  obtain ⟨S1, e1, o1, w1⟩ := C_named hkt T (u := t + 1) (s := 0) (by omega) k1 (by decide) hn hg.1 hw
  have T1 := TKC_kO hkt (by decide) o1 T
  have n1 := CN_kO (by decide) o1 hn
  obtain ⟨S2, e2, o2, w2⟩ := C_named hkt T1 (u := t + 2) (s := 0) (by omega) k2 (by decide) n1 hg.1 w1
  have T2 := TKC_kO hkt (by decide) o2 T1
  obtain ⟨S3, e3, o3, w3⟩ := C_fail hkt T2 (u := t + 2) (k := 3) (by omega) (by decide) w2
  have eF : tkF (tkK B n) (tkL B n) (tkV B n) P t = ow (ow (lkP P (tkL B n (t + 1)) 0 (t + 1)) (lkP P (tkL B n (t + 2)) 0 (t + 2))) (if lk (nN P) (pn P) (tkL B n (t + 1)) 0 = lk (nN P) (pn P) (tkL B n (t + 2)) 0 then some (3, t + 2) else none) := by unfold tkF; rw [c21]; rfl
  have eP : tkP (tkK B n) (tkL B n) (tkV B n) P t brs = (inc (pc P) 1, pn P, setR (setR (pr P) 0 (pc P 1) (lkv P (tkL B n (t + 1)) 0)) 1 (pc P 1) (lkv P (tkL B n (t + 2)) 0), pl P, pk P, pd P) := by unfold tkP; rw [c21]; rfl
  have hle : lkI (lk (nN P) (pn P) (tkL B n (t + 1)) 0) = lkI (lk (nN P) (pn P) (tkL B n (t + 2)) 0) ↔ lk (nN P) (pn P) (tkL B n (t + 1)) 0 = lk (nN P) (pn P) (tkL B n (t + 2)) 0 := lkI_eq (fun v hv => CN_8 hn hv) (fun v hv => CN_8 hn hv)
  have fin : ∀ S4, on (kO kt [17, 18]) S S4 → cwst B n kt S4 (tkF (tkK B n) (tkL B n) (tkV B n) P t) → ∃ S', f_X4_takeDoor_J36 kt S4 (lkI (lk (nN P) (pn P) (tkL B n (t + 1)) 0)) (lkI (lk (nN P) (pn P) (tkL B n (t + 2)) 0)) = some S' ∧ on (kTx kt) S S' ∧ cwst B n kt S' (tkF (tkK B n) (tkL B n) (tkV B n) P t) ∧ (tkF (tkK B n) (tkL B n) (tkV B n) P t = none → ∃ o', CB kt S' (tkP (tkK B n) (tkL B n) (tkV B n) P t brs) (o ++ o') ∧ o'.length + t ≤ d) := by
    intro S4 o4 w4
    have h1 : st_I S4 (ky kt 1) = nI (pc P 1) := by
      rw [(o4 _ (kO_n (by decide) (by decide) (Or.inr (by decide)))).1]; exact hi.2.1
    have h1b : ∀ f, st_I (up_A S4 (ky kt 7) f) (ky kt 1) = nI (pc P 1) := fun _ => h1
    have oo : on (kO kt [1, 7, 17, 18]) S (up_I (up_A S4 (ky kt 7) (upd (upd (st_A S4 (ky kt 7)) (pc P 1 * 2) (lkI (lk (nN P) (pn P) (tkL B n (t + 1)) 0))) (pc P 1 * 2 + 1) (lkI (lk (nN P) (pn P) (tkL B n (t + 2)) 0)))) (ky kt 1) (nI (pc P 1 + 1))) := on_trans (kO_mono (by decide) o4) (on_trans (kO_A _ 7 _ (by decide)) (kO_I _ 1 _ (by decide)))
    refine ⟨up_I (up_A S4 (ky kt 7) (upd (upd (st_A S4 (ky kt 7)) (pc P 1 * 2) (lkI (lk (nN P) (pn P) (tkL B n (t + 1)) 0))) (pc P 1 * 2 + 1) (lkI (lk (nN P) (pn P) (tkL B n (t + 2)) 0)))) (ky kt 1) (nI (pc P 1 + 1)), ?_, kTx_kO (by decide) oo, cwst_kO (fs := [1, 7]) (by decide) (on_trans (kO_A _ 7 _ (by decide)) (kO_I _ 1 _ (by decide))) w4, fun z => ⟨[], ?_, by show 0 + t ≤ d; omega⟩⟩
    · unfold f_X4_takeDoor_J36
      rw [h1, show nI (pc P 1) * (2 : Int32) = nI (pc P 1 * 2) from pk_mul _ 2, put_nI (tx_n hkt).1 (by omega) (by decide), bnd, h1b, show nI (pc P 1) * (2 : Int32) + (1 : Int32) = nI (pc P 1 * 2 + 1) by rw [show nI (pc P 1) * (2 : Int32) = nI (pc P 1 * 2) from pk_mul _ 2, nI_1], put_nI (tx_n hkt).1 (by omega) (by decide), bnd, lt_e, upA_upA, gAs, gI_A, h1, nI_1]
    · rw [eF] at z
      obtain ⟨z1, z2⟩ := ow_none z
      obtain ⟨z3, z4⟩ := ow_none z1
      obtain ⟨v1, q1⟩ := lkF_none z3
      obtain ⟨v2, q2⟩ := lkF_none z4
      rw [eP, List.append_nil]
      refine ⟨⟨?_, ?_, ?_, ?_⟩, CBk_on ⟨rfl, rfl⟩ (by decide) oo hk, CN_kO (by decide) oo hn, ?_, CBm_on ⟨rfl, fun _ _ => ⟨rfl, rfl⟩⟩ (by decide) oo hm, CBh_on ⟨rfl, fun _ _ => ⟨rfl, rfl⟩⟩ (by decide) oo hh, CBl_on ⟨rfl, rfl⟩ (by decide) oo hl⟩
      · rw [(oo _ (kO_n (by decide) (by decide) (Or.inr (by decide)))).1]; exact hi.1
      · exact (gI_I ..).trans (if_pos rfl)
      · rw [(oo _ (kO_n (by decide) (by decide) (Or.inr (by decide)))).1]; exact hi.2.2.1
      · rw [(oo _ (kO_n (by decide) (by decide) (Or.inr (by decide)))).1]; exact hi.2.2.2
      · intro x hx
        have hx' : x < pc P 1 + 1 := hx
        have hv1 : lkv P (tkL B n (t + 1)) 0 = v1 := by unfold lkv; rw [q1]; rfl
        have hv2 : lkv P (tkL B n (t + 2)) 0 = v2 := by unfold lkv; rw [q2]; rfl
        rw [gA_I, gAs, q1, q2, hv1, hv2, lkI_s, lkI_s]
        show _ = nI (setR (setR (pr P) 0 (pc P 1) v1) 1 (pc P 1) v2 0 x) ∧ _ = nI (setR (setR (pr P) 0 (pc P 1) v1) 1 (pc P 1) v2 1 x)
        by_cases e : x = pc P 1
        · subst e
          rw [upd_n (by omega), upd_s, upd_s]
          unfold setR
          rw [if_neg (by omega), if_pos ⟨rfl, rfl⟩, if_pos ⟨rfl, rfl⟩]
          exact ⟨rfl, rfl⟩
        · rw [upd_n (by omega), upd_n (by omega), upd_n (by omega), upd_n (by omega)]
          unfold setR
          rw [if_neg (by omega), if_neg (by omega), if_neg (by omega), if_neg (by omega), (o4 _ (kO_n (by decide) (by decide) (Or.inr (by decide)))).2.1]
          exact hd1 x (by omega)
  have hD : ∃ S', f_X4_takeDoor kt S (nI t) = some S' ∧ on (kTx kt) S S' ∧ cwst B n kt S' (tkF (tkK B n) (tkL B n) (tkV B n) P t) ∧ (tkF (tkK B n) (tkL B n) (tkV B n) P t = none → ∃ o', CB kt S' (tkP (tkK B n) (tkL B n) (tkV B n) P t brs) (o ++ o') ∧ o'.length + t ≤ d) := by
    unfold f_X4_takeDoor
    rw [nI_1, show nI t + (2 : Int32) = nI (t + 2) from nI_add t 2, show f_X4_named kt S (nI (t + 1)) (0 : Int32) = _ from e1, bnd, show f_X4_named kt S1 (nI (t + 2)) (0 : Int32) = _ from e2, bnd]
    by_cases c : lk (nN P) (pn P) (tkL B n (t + 1)) 0 = lk (nN P) (pn P) (tkL B n (t + 2)) 0
    · rw [if_pos (hle.mpr c), show f_X4_fail kt S2 (3 : Int32) (nI (t + 2)) = some S3 from e3, bnd]
      refine fin S3 (on_trans o1 (on_trans o2 o3)) ?_
      rw [eF, if_pos c]
      exact w3
    · rw [if_neg (fun z => c (hle.mp z))]
      refine fin S2 (on_trans o1 o2) ?_
      rw [eF, if_neg c, ow_N]
      exact w2
  obtain ⟨S', f1, f2, f3, f4⟩ := hD
  refine ⟨S', ?_, f2, f3, f4⟩
  rw [take_e hkt T (by omega) c21, if_neg (by decide), if_pos (show ckd 21 = 201 from rfl), f1, bnd, hdt, show nI t + (4 : Int32) = nI (t + 4) from nI_add t 4]
theorem C_take24 (hkt : isTx kt) {S : St} {P : TP} {o : CL} {t d : Nat} {brs : List BR} (T : TKC B n N S) (hd : d ≤ N) (hb : pc P 4 < 8 ∧ nN P < 22) (hg : gP P) (h : CB kt S P o) (hw : cwst B n kt S none) (c24 : tkK B n t = 24) (k1 : tkK B n (t + 1) = 1) (k2 : tkK B n (t + 2) = 1) (k3 : tkK B n (t + 3) = 1) (hdt : d = t + 5) : CTc B n kt S P o t d brs := by
  obtain ⟨hi, hk, hn, hd1, hm, hh, hl⟩ := h
  obtain ⟨S1, M', nl', e1, o1, w1, n1, u1, b1, a1⟩ := C_declare hkt T (u := t + 1) (s := 2) (c := pc P 4) (by omega) k1 (by decide) hb.1 hb.2 hn hg.1 hw
  have T1 := TKC_kO hkt (by decide) o1 T
  obtain ⟨S2, e2, o2, w2⟩ := C_named hkt T1 (u := t + 2) (s := 0) (by omega) k2 (by decide) n1 u1 w1
  rw [(b1 (tkL B n (t + 2)) 0 (by decide)).1] at e2
  rw [(b1 (tkL B n (t + 2)) 0 (by decide)).2] at w2
  have g3 : ∀ S, st_I S (ky kt 3) = st_I S (ky kt 3) := fun _ => rfl
  have h1 : st_I S1 (ky kt 3) = nI (pc P 4) := by
    rw [(o1 _ (kO_n (by decide) (by decide) (Or.inr (by decide)))).1]; exact hi.2.2.2
  have oA : on (kO kt [11, 17, 18]) S1 (up_A S2 (ky kt 11) (upd (st_A S2 (ky kt 11)) (pc P 4) (lkI (lk (nN P) (pn P) (tkL B n (t + 2)) 0)))) := on_trans (kO_mono (by decide) o2) (kO_A _ 11 _ (by decide))
  have TA := TKC_kO hkt (by decide) oA T1
  have nA := CN_kO (by decide) oA n1
  have wA := cwst_kO (fs := [11]) (by decide) (kO_A S2 11 (upd (st_A S2 (ky kt 11)) (pc P 4) (lkI (lk (nN P) (pn P) (tkL B n (t + 2)) 0))) (by decide)) w2
  obtain ⟨S3, e3, o3, w3⟩ := C_named hkt TA (u := t + 3) (s := 1) (by omega) k3 (by decide) nA u1 wA
  rw [(b1 (tkL B n (t + 3)) 1 (by decide)).1] at e3
  rw [(b1 (tkL B n (t + 3)) 1 (by decide)).2] at w3
  have hA : st_I (up_A S2 (ky kt 11) (upd (st_A S2 (ky kt 11)) (pc P 4) (lkI (lk (nN P) (pn P) (tkL B n (t + 2)) 0)))) (ky kt 3) = nI (pc P 4) := by
    rw [(oA _ (kO_n (by decide) (by decide) (Or.inr (by decide)))).1]; exact h1
  have h3 : st_I S3 (ky kt 3) = nI (pc P 4) := by
    rw [(o3 _ (kO_n (by decide) (by decide) (Or.inr (by decide)))).1]; exact hA
  have eF : tkF (tkK B n) (tkL B n) (tkV B n) P t = ow (ow (dupP P (tkL B n (t + 1)) (t + 1)) (lkP P (tkL B n (t + 2)) 0 (t + 2))) (lkP P (tkL B n (t + 3)) 1 (t + 3)) := by unfold tkF; rw [c24]; rfl
  have eP : tkP (tkK B n) (tkL B n) (tkV B n) P t brs = (inc (pc P) 4, addN (pn P) (nN P) (tkL B n (t + 1), 2, pc P 4), setR (setR (pr P) 4 (pc P 4) (lkv P (tkL B n (t + 2)) 0)) 5 (pc P 4) (lkv P (tkL B n (t + 3)) 1), pl P, pk P, pd P) := by unfold tkP; rw [c24]; rfl
  have oB : on (kO kt [3, 12]) S3 (up_I (up_A S3 (ky kt 12) (upd (st_A S3 (ky kt 12)) (pc P 4) (lkI (lk (nN P) (pn P) (tkL B n (t + 3)) 1)))) (ky kt 3) (nI (pc P 4 + 1))) := on_trans (kO_A _ 12 _ (by decide)) (kO_I _ 3 _ (by decide))
  have oo : on (kO kt [3, 11, 12, 13, 14, 15, 17, 18]) S (up_I (up_A S3 (ky kt 12) (upd (st_A S3 (ky kt 12)) (pc P 4) (lkI (lk (nN P) (pn P) (tkL B n (t + 3)) 1)))) (ky kt 3) (nI (pc P 4 + 1))) := on_trans (kO_mono (by decide) o1) (on_trans (kO_mono (by decide) oA) (on_trans (kO_mono (by decide) o3) (kO_mono (by decide) oB)))
  refine ⟨_, ?_, kTx_kO (by decide) oo, ?_, fun z => ⟨[], ?_, by show 0 + t ≤ d; omega⟩⟩
  · rw [take_e hkt T (by omega) c24, if_neg (by decide), if_neg (by decide), if_neg (by decide), if_neg (by decide), if_pos (show ckd 24 = 204 from rfl)]
    unfold f_X4_takeMirror
    rw [nI_1, show nI t + (2 : Int32) = nI (t + 2) from nI_add t 2, show nI t + (3 : Int32) = nI (t + 3) from nI_add t 3, show nI t + (5 : Int32) = nI (t + 5) from nI_add t 5, hi.2.2.2, show f_X4_declare kt S (nI (t + 1)) (2 : Int32) (nI (pc P 4)) = some S1 from e1, bnd, show f_X4_named kt S1 (nI (t + 2)) (0 : Int32) = _ from e2, bnd, h1, put_nI (tx_n hkt).2.2.2.2.1 (by omega) (by decide), bnd, show f_X4_named kt _ (nI (t + 3)) (1 : Int32) = _ from e3, bnd, hA, put_nI (tx_n hkt).2.2.2.2.2.1 (by omega) (by decide), bnd, lt_e, gI_A, h3, nI_1, bnd, hdt]
  · rw [eF]
    exact cwst_kO (by decide) oB w3
  · rw [eF] at z
    obtain ⟨z1, z2⟩ := ow_none z
    obtain ⟨z3, z4⟩ := ow_none z1
    obtain ⟨v1, q1⟩ := lkF_none z4
    obtain ⟨v2, q2⟩ := lkF_none z2
    obtain ⟨rfl, rfl⟩ := a1 z3
    rw [eP, List.append_nil]
    refine ⟨⟨?_, ?_, ?_, ?_⟩, CBk_on ⟨rfl, rfl⟩ (by decide) oo hk, ?_, CBd_on ⟨rfl, fun _ _ => ⟨rfl, rfl⟩⟩ (by decide) oo hd1, CBm_on ⟨rfl, fun _ _ => ⟨rfl, rfl⟩⟩ (by decide) oo hm, ?_, CBl_on ⟨rfl, rfl⟩ (by decide) oo hl⟩
    · rw [(oo _ (kO_n (by decide) (by decide) (Or.inr (by decide)))).1]; exact hi.1
    · rw [(oo _ (kO_n (by decide) (by decide) (Or.inr (by decide)))).1]; exact hi.2.1
    · rw [(oo _ (kO_n (by decide) (by decide) (Or.inr (by decide)))).1]; exact hi.2.2.1
    · exact (gI_I ..).trans (if_pos rfl)
    · have en : nN (inc (pc P) 4, addN (pn P) (nN P) (tkL B n (t + 1), 2, pc P 4), setR (setR (pr P) 4 (pc P 4) (lkv P (tkL B n (t + 2)) 0)) 5 (pc P 4) (lkv P (tkL B n (t + 3)) 1), pl P, pk P, pd P) = nN P + 1 := by
        show pc P 0 + pc P 2 + (pc P 4 + 1) = pc P 0 + pc P 2 + pc P 4 + 1
        omega
      rw [en]
      exact CN_kO (by decide) oB (CN_kO (by decide) o3 nA)
    · intro x hx
      have hx' : x < pc P 4 + 1 := hx
      have hv1 : lkv P (tkL B n (t + 2)) 0 = v1 := by unfold lkv; rw [q1]; rfl
      have hv2 : lkv P (tkL B n (t + 3)) 1 = v2 := by unfold lkv; rw [q2]; rfl
      have f11 : st_A (up_I (up_A S3 (ky kt 12) (upd (st_A S3 (ky kt 12)) (pc P 4) (lkI (lk (nN P) (pn P) (tkL B n (t + 3)) 1)))) (ky kt 3) (nI (pc P 4 + 1))) (ky kt 11) = upd (st_A S (ky kt 11)) (pc P 4) (nI v1) := by
        rw [(oB _ (kO_n (by decide) (by decide) (Or.inr (by decide)))).2.1, (o3 _ (kO_n (by decide) (by decide) (Or.inr (by decide)))).2.1, gAs, q1, (o2 _ (kO_n (by decide) (by decide) (Or.inr (by decide)))).2.1, (o1 _ (kO_n (by decide) (by decide) (Or.inr (by decide)))).2.1]
        rfl
      have f12 : st_A (up_I (up_A S3 (ky kt 12) (upd (st_A S3 (ky kt 12)) (pc P 4) (lkI (lk (nN P) (pn P) (tkL B n (t + 3)) 1)))) (ky kt 3) (nI (pc P 4 + 1))) (ky kt 12) = upd (st_A S (ky kt 12)) (pc P 4) (nI v2) := by
        rw [gA_I, gAs, q2, (o3 _ (kO_n (by decide) (by decide) (Or.inr (by decide)))).2.1, (oA _ (kO_n (by decide) (by decide) (Or.inr (by decide)))).2.1, (o1 _ (kO_n (by decide) (by decide) (Or.inr (by decide)))).2.1]
        rfl
      rw [f11, f12, hv1, hv2]
      show _ = nI (setR (setR (pr P) 4 (pc P 4) v1) 5 (pc P 4) v2 4 x) ∧ _ = nI (setR (setR (pr P) 4 (pc P 4) v1) 5 (pc P 4) v2 5 x)
      by_cases e : x = pc P 4
      · subst e
        rw [upd_s, upd_s]
        unfold setR
        rw [if_neg (by omega), if_pos ⟨rfl, rfl⟩, if_pos ⟨rfl, rfl⟩]
        exact ⟨rfl, rfl⟩
      · rw [upd_n e, upd_n e]
        unfold setR
        rw [if_neg (by omega), if_neg (by omega), if_neg (by omega), if_neg (by omega)]
        exact hh x (by omega)
end CT
