/-! THE CLASS TAKES A TELL: men and laws. -/
section CT
variable {B : Nat → Nat} {n N kt : Nat}
theorem C_take22 (hkt : isTx kt) {S : St} {P : TP} {o : CL} {t d : Nat} {brs : List BR} (T : TKC B n N S) (hd : d ≤ N) (hb : pc P 2 < 6 ∧ nN P < 22) (hg : gP P) (h : CB kt S P o) (hw : cwst B n kt S none) (hv : tkV B n (t + 2) < 2 ^ 31) (c22 : tkK B n t = 22) (k1 : tkK B n (t + 1) = 1) (k2 : tkK B n (t + 2) = 2) (k3 : tkK B n (t + 3) = 1) (hdt : d = t + 5) : CTc B n kt S P o t d brs := by
  obtain ⟨hi, hk, hn, hd1, hm, hh, hl⟩ := h
  obtain ⟨S1, M', nl', e1, o1, w1, n1, u1, b1, a1⟩ := C_declare hkt T (u := t + 1) (s := 1) (c := pc P 2) (by omega) k1 (by decide) (by omega) hb.2 hn hg.1 hw
  have T1 := TKC_kO hkt (by decide) o1 T
  obtain ⟨S2, e2, o2, w2⟩ := C_number hkt T1 (u := t + 2) (m := 20) (by omega) k2 hv (by decide) w1
  have h1 : st_I S1 (ky kt 2) = nI (pc P 2) := by
    rw [(o1 _ (kO_n (by decide) (by decide) (Or.inr (by decide)))).1]; exact hi.2.2.1
  have oA : on (kO kt [8, 17, 18]) S1 (up_A S2 (ky kt 8) (upd (st_A S2 (ky kt 8)) (pc P 2) (nI (tkV B n (t + 2))))) := on_trans (kO_mono (by decide) o2) (kO_A _ 8 _ (by decide))
  have TA := TKC_kO hkt (by decide) oA T1
  have nA := CN_kO (by decide) oA n1
  have wA := cwst_kO (fs := [8]) (by decide) (kO_A S2 8 (upd (st_A S2 (ky kt 8)) (pc P 2) (nI (tkV B n (t + 2)))) (by decide)) w2
  obtain ⟨S3, e3, o3, w3⟩ := C_named hkt TA (u := t + 3) (s := 0) (by omega) k3 (by decide) nA u1 wA
  rw [(b1 (tkL B n (t + 3)) 0 (by decide)).1] at e3
  rw [(b1 (tkL B n (t + 3)) 0 (by decide)).2] at w3
  have hA : st_I (up_A S2 (ky kt 8) (upd (st_A S2 (ky kt 8)) (pc P 2) (nI (tkV B n (t + 2))))) (ky kt 2) = nI (pc P 2) := by
    rw [(oA _ (kO_n (by decide) (by decide) (Or.inr (by decide)))).1]; exact h1
  have h3 : st_I S3 (ky kt 2) = nI (pc P 2) := by
    rw [(o3 _ (kO_n (by decide) (by decide) (Or.inr (by decide)))).1]; exact hA
  have h3b : ∀ f, st_I (up_A S3 (ky kt 9) f) (ky kt 2) = nI (pc P 2) := fun _ => h3
  have h3c : ∀ f g, st_I (up_A (up_A S3 (ky kt 9) f) (ky kt 10) g) (ky kt 2) = nI (pc P 2) := fun _ _ => h3
  have eF : tkF (tkK B n) (tkL B n) (tkV B n) P t = ow (ow (dupP P (tkL B n (t + 1)) (t + 1)) (numF 20 (tkV B n (t + 2)) (t + 2))) (lkP P (tkL B n (t + 3)) 0 (t + 3)) := by unfold tkF; rw [c22]; rfl
  have eP : tkP (tkK B n) (tkL B n) (tkV B n) P t brs = (inc (pc P) 2, addN (pn P) (nN P) (tkL B n (t + 1), 1, pc P 2), setR (setR (pr P) 2 (pc P 2) (tkV B n (t + 2))) 3 (pc P 2) (lkv P (tkL B n (t + 3)) 0), pl P, pk P, pd P) := by unfold tkP; rw [c22]; rfl
  have oB : on (kO kt [2, 9, 10]) S3 (up_I (up_A (up_A S3 (ky kt 9) (upd (st_A S3 (ky kt 9)) (pc P 2) (lkI (lk (nN P) (pn P) (tkL B n (t + 3)) 0)))) (ky kt 10) (upd (st_A S3 (ky kt 10)) (pc P 2) 0)) (ky kt 2) (nI (pc P 2 + 1))) := on_trans (on_trans (kO_A _ 9 _ (by decide)) (kO_A _ 10 _ (by decide))) (kO_I _ 2 _ (by decide))
  have oo : on (kO kt [2, 8, 9, 10, 13, 14, 15, 17, 18]) S (up_I (up_A (up_A S3 (ky kt 9) (upd (st_A S3 (ky kt 9)) (pc P 2) (lkI (lk (nN P) (pn P) (tkL B n (t + 3)) 0)))) (ky kt 10) (upd (st_A S3 (ky kt 10)) (pc P 2) 0)) (ky kt 2) (nI (pc P 2 + 1))) := on_trans (kO_mono (by decide) o1) (on_trans (kO_mono (by decide) oA) (on_trans (kO_mono (by decide) o3) (kO_mono (by decide) oB)))
  have g10 : ∀ f, st_A (up_A S3 (ky kt 9) f) (ky kt 10) = st_A S3 (ky kt 10) := fun f => by
    rw [gA_A, if_neg (ky_ne (by decide) (by decide) (by omega))]
  refine ⟨_, ?_, kTx_kO (by decide) oo, ?_, fun z => ⟨[], ?_, by show 0 + t ≤ d; omega⟩⟩
  · rw [take_e hkt T (by omega) c22, if_neg (by decide), if_neg (by decide), if_pos (show ckd 22 = 202 from rfl)]
    unfold f_X4_takeMan
    rw [nI_1, show nI t + (2 : Int32) = nI (t + 2) from nI_add t 2, show nI t + (3 : Int32) = nI (t + 3) from nI_add t 3, show nI t + (5 : Int32) = nI (t + 5) from nI_add t 5, hi.2.2.1, show f_X4_declare kt S (nI (t + 1)) (1 : Int32) (nI (pc P 2)) = some S1 from e1, bnd, show f_X4_number kt S1 (nI (t + 2)) (20 : Int32) = _ from e2, bnd, h1, put_nI (tx_n hkt).2.1 (by omega) (by decide), bnd, show f_X4_named kt _ (nI (t + 3)) (0 : Int32) = _ from e3, bnd, hA, put_nI (tx_n hkt).2.2.1 (by omega) (by decide), bnd, h3b, put_nI (tx_n hkt).2.2.2.1 (by omega) (by decide), bnd, lt_e, h3c, g10, nI_1, bnd, hdt]
  · rw [eF]
    exact cwst_kO (by decide) oB w3
  · rw [eF] at z
    obtain ⟨z1, z2⟩ := ow_none z
    obtain ⟨z3, z4⟩ := ow_none z1
    obtain ⟨v2, q2⟩ := lkF_none z2
    obtain ⟨rfl, rfl⟩ := a1 z3
    rw [eP, List.append_nil]
    have f8 : st_A (up_I (up_A (up_A S3 (ky kt 9) (upd (st_A S3 (ky kt 9)) (pc P 2) (lkI (lk (nN P) (pn P) (tkL B n (t + 3)) 0)))) (ky kt 10) (upd (st_A S3 (ky kt 10)) (pc P 2) 0)) (ky kt 2) (nI (pc P 2 + 1))) (ky kt 8) = upd (st_A S (ky kt 8)) (pc P 2) (nI (tkV B n (t + 2))) := by
      rw [(oB _ (kO_n (by decide) (by decide) (Or.inr (by decide)))).2.1, (o3 _ (kO_n (by decide) (by decide) (Or.inr (by decide)))).2.1, gAs, (o2 _ (kO_n (by decide) (by decide) (Or.inr (by decide)))).2.1, (o1 _ (kO_n (by decide) (by decide) (Or.inr (by decide)))).2.1]
    have f9 : st_A (up_I (up_A (up_A S3 (ky kt 9) (upd (st_A S3 (ky kt 9)) (pc P 2) (lkI (lk (nN P) (pn P) (tkL B n (t + 3)) 0)))) (ky kt 10) (upd (st_A S3 (ky kt 10)) (pc P 2) 0)) (ky kt 2) (nI (pc P 2 + 1))) (ky kt 9) = upd (st_A S (ky kt 9)) (pc P 2) (nI v2) := by
      rw [gA_I, gA_A, if_neg (ky_ne (by decide) (by decide) (by omega)), gAs, q2, (o3 _ (kO_n (by decide) (by decide) (Or.inr (by decide)))).2.1, (oA _ (kO_n (by decide) (by decide) (Or.inr (by decide)))).2.1, (o1 _ (kO_n (by decide) (by decide) (Or.inr (by decide)))).2.1]
      rfl
    have f10 : st_A (up_I (up_A (up_A S3 (ky kt 9) (upd (st_A S3 (ky kt 9)) (pc P 2) (lkI (lk (nN P) (pn P) (tkL B n (t + 3)) 0)))) (ky kt 10) (upd (st_A S3 (ky kt 10)) (pc P 2) 0)) (ky kt 2) (nI (pc P 2 + 1))) (ky kt 10) = upd (st_A S (ky kt 10)) (pc P 2) 0 := by
      rw [gA_I, gAs, (o3 _ (kO_n (by decide) (by decide) (Or.inr (by decide)))).2.1, (oA _ (kO_n (by decide) (by decide) (Or.inr (by decide)))).2.1, (o1 _ (kO_n (by decide) (by decide) (Or.inr (by decide)))).2.1]
    have g6 : st_I (up_I (up_A (up_A S3 (ky kt 9) (upd (st_A S3 (ky kt 9)) (pc P 2) (lkI (lk (nN P) (pn P) (tkL B n (t + 3)) 0)))) (ky kt 10) (upd (st_A S3 (ky kt 10)) (pc P 2) 0)) (ky kt 2) (nI (pc P 2 + 1))) (ky kt 6) = st_I S (ky kt 6) := (oo _ (kO_n (by decide) (by decide) (Or.inr (by decide)))).1
    refine ⟨⟨?_, ?_, ?_, ?_⟩, CBk_on ⟨rfl, rfl⟩ (by decide) oo hk, ?_, CBd_on ⟨rfl, fun _ _ => ⟨rfl, rfl⟩⟩ (by decide) oo hd1, ?_, CBh_on ⟨rfl, fun _ _ => ⟨rfl, rfl⟩⟩ (by decide) oo hh, ?_, ?_, ?_⟩
    · rw [(oo _ (kO_n (by decide) (by decide) (Or.inr (by decide)))).1]; exact hi.1
    · rw [(oo _ (kO_n (by decide) (by decide) (Or.inr (by decide)))).1]; exact hi.2.1
    · exact (gI_I ..).trans (if_pos rfl)
    · rw [(oo _ (kO_n (by decide) (by decide) (Or.inr (by decide)))).1]; exact hi.2.2.2
    · have en : nN (inc (pc P) 2, addN (pn P) (nN P) (tkL B n (t + 1), 1, pc P 2), setR (setR (pr P) 2 (pc P 2) (tkV B n (t + 2))) 3 (pc P 2) (lkv P (tkL B n (t + 3)) 0), pl P, pk P, pd P) = nN P + 1 := by
        show pc P 0 + (pc P 2 + 1) + pc P 4 = pc P 0 + pc P 2 + pc P 4 + 1
        omega
      rw [en]
      exact CN_kO (by decide) oB (CN_kO (by decide) o3 nA)
    · intro x hx
      have hx' : x < pc P 2 + 1 := hx
      have hv2 : lkv P (tkL B n (t + 3)) 0 = v2 := by unfold lkv; rw [q2]; rfl
      rw [f8, f9, hv2]
      show _ = nI (setR (setR (pr P) 2 (pc P 2) (tkV B n (t + 2))) 3 (pc P 2) v2 2 x) ∧ _ = nI (setR (setR (pr P) 2 (pc P 2) (tkV B n (t + 2))) 3 (pc P 2) v2 3 x)
      by_cases e : x = pc P 2
      · subst e
        rw [upd_s, upd_s]
        unfold setR
        rw [if_neg (by omega), if_pos ⟨rfl, rfl⟩, if_pos ⟨rfl, rfl⟩]
        exact ⟨rfl, rfl⟩
      · rw [upd_n e, upd_n e]
        unfold setR
        rw [if_neg (by omega), if_neg (by omega), if_neg (by omega), if_neg (by omega)]
        exact hm x (by omega)
    · intro x hx
      have hx' : x < pc P 2 + 1 := hx
      rw [f10]
      show ∃ p, p < 512 ∧ _ = nI p ∧ lawAt o 0 (pl P x) p
      by_cases e : x = pc P 2
      · subst e
        rw [upd_s, hg.2.1 _ (Nat.le_refl _) hb.1]
        exact ⟨0, by decide, rfl, rfl⟩
      · rw [upd_n e]
        exact hl.1 x (by omega)
    · rw [g6]
      exact hl.2.1
    · have g3 : ∀ f, f < 5 → ¬ kO kt [2, 8, 9, 10, 13, 14, 15, 17, 18] (ky (kt + 2) f) := fun f h1 => kO_n (by decide) (by omega) (Or.inl (by omega))
      unfold clO
      rw [(oo _ (g3 2 (by decide))).1, (oo _ (g3 0 (by decide))).2.1, (oo _ (g3 1 (by decide))).2.1]
      exact hl.2.2
theorem lk_man {P : TP} (hg : gP P) {l : List Nat} {v : Nat} (e : lk (nN P) (pn P) l 1 = some v) : v < pc P 2 := by
  unfold lk at e
  cases q : lkN (nN P) (pn P) l 1 with
  | none => rw [q] at e; cases e
  | some j =>
    rw [q] at e
    have hj := s_fst_lt q
    have e2 : (pn P j).2.2 = v := Option.some.inj e
    rw [← e2]
    exact hg.2.2 j hj.1 (of_decide_eq_true hj.2).2
theorem kLw_tx {kt f : Nat} (hf : f < 100) : ¬ kLw (kt + 2) (ky kt f) := fun ⟨g, hg, e⟩ => by
  have := ky_inj hf (show g < 100 by omega) e
  omega
theorem CB_law {S S' : St} {P P' : TP} {o : CL} (e1 : pc P' 0 = pc P 0 ∧ pc P' 1 = pc P 1 ∧ pc P' 2 = pc P 2 ∧ pc P' 4 = pc P 4) (e2 : pn P' = pn P ∧ pr P' = pr P ∧ pk P' = pk P ∧ pd P' = pd P) (oo : on (kLw (kt + 2)) S S') (hi : CBi kt S P) (hk : CBk kt S P) (hn : CN kt S (nN P) (pn P)) (hd1 : CBd kt S P) (hm : CBm kt S P) (hh : CBh kt S P) (hl : CBl kt S' P' o) : CB kt S' P' o := by
  have g : ∀ f, f < 100 → _ := fun f hf => oo (ky kt f) (kLw_tx hf)
  have en : nN P' = nN P := by unfold nN; rw [e1.1, e1.2.2.1, e1.2.2.2]
  refine ⟨?_, ?_, ?_, ?_, ?_, ?_, hl⟩
  · unfold CBi
    rw [e1.1, e1.2.1, e1.2.2.1, e1.2.2.2, (g 0 (by decide)).1, (g 1 (by decide)).1, (g 2 (by decide)).1, (g 3 (by decide)).1]
    exact hi
  · unfold CBk
    rw [e2.2.2.1, e2.2.2.2, (g 4 (by decide)).1, (g 5 (by decide)).1]
    exact hk
  · rw [en, e2.1]
    exact CN_on (fun f h1 h2 => kLw_tx (by omega)) oo hn
  · unfold CBd
    rw [e1.2.1, e2.2.1, (g 7 (by decide)).2.1]
    exact hd1
  · unfold CBm
    rw [e1.2.2.1, e2.2.1, (g 8 (by decide)).2.1, (g 9 (by decide)).2.1]
    exact hm
  · unfold CBh
    rw [e1.2.2.2, e2.2.1, (g 11 (by decide)).2.1, (g 12 (by decide)).2.1]
    exact hh
theorem C_take25 (hkt : isTx kt) {S : St} {P : TP} {o : CL} {t d e : Nat} {brs : List BR} (T : TKC B n N S) (hd : d ≤ N) (hb : pc P 2 ≤ 6) (ho : o.length ≤ 4 + t) (h : CB kt S P o) (hw : cwst B n kt S none) (c25 : tkK B n t = 25) (k5 : tkK B n (t + 1) = 5) (hL : LawT (tkK B n) (tkV B n) e brs (t + 2)) (hdt : d = e + 1) : CTc B n kt S P o t d brs := by
  obtain ⟨hi, hk, hn, hd1, hm, hh, hl⟩ := h
  have hlt := LawT_lt hL
  have h400 := T.2.1
  have oA : on (kO kt [6]) S (up_I S (ky kt 6) (nI o.length)) := kO_I _ 6 _ (by decide)
  have TA := TKC_kO hkt (by decide) oA T
  have g3 : ∀ f, f < 5 → ¬ kO kt [6] (ky (kt + 2) f) := fun f h1 => kO_n (by decide) (by omega) (Or.inl (by omega))
  have cA : clO (kt + 2) (up_I S (ky kt 6) (nI o.length)) o := by
    unfold clO
    rw [(oA _ (g3 2 (by decide))).1, (oA _ (g3 0 (by decide))).2.1, (oA _ (g3 1 (by decide))).2.1]
    exact hl.2.2
  obtain ⟨S1, e1, c1, o1⟩ := C_compile (tx_L hkt) k5 hL (by omega) TA cA (by omega)
  have eF : tkF (tkK B n) (tkL B n) (tkV B n) P t = none := by unfold tkF; rw [c25]; rfl
  have eP : tkP (tkK B n) (tkL B n) (tkV B n) P t brs = (inc (pc P) 5, pn P, pr P, setL (pl P) (some 6) brs, pk P, pd P) := by unfold tkP; rw [c25]; rfl
  refine ⟨S1, ?_, on_trans (kTx_kO (by decide) oA) (kTx_Lw o1), ?_, fun _ => ⟨clB o.length brs, ?_, ?_⟩⟩
  · rw [take_e hkt T (by omega) c25, if_neg (by decide), if_neg (by decide), if_neg (by decide), if_neg (by decide), if_neg (by decide), if_pos (show ckd 25 = 205 from rfl), nI_1, hl.2.2.1, lt_e, e1, bnd, hdt]
  · rw [eF]
    exact cwst_on (kLw_tx (by decide)) (kLw_tx (by decide)) o1 (cwst_kO (by decide) oA hw)
  · rw [eP]
    refine CB_law (P := P) ⟨rfl, rfl, rfl, rfl⟩ ⟨rfl, rfl, rfl, rfl⟩ o1 (CBi_on ⟨rfl, rfl, rfl, rfl⟩ (by decide) oA hi) (CBk_on ⟨rfl, rfl⟩ (by decide) oA hk) (CN_kO (by decide) oA hn) (CBd_on ⟨rfl, fun _ _ => ⟨rfl, rfl⟩⟩ (by decide) oA hd1) (CBm_on ⟨rfl, fun _ _ => ⟨rfl, rfl⟩⟩ (by decide) oA hm) (CBh_on ⟨rfl, fun _ _ => ⟨rfl, rfl⟩⟩ (by decide) oA hh) ⟨fun a ha => ?_, ⟨o.length, by omega, ?_, ?_⟩, c1⟩
    · rw [(o1 _ (kLw_tx (by decide))).2.1, (oA _ (kO_n (by decide) (by decide) (Or.inr (by decide)))).2.1]
      have ha' : a < pc P 2 := ha
      obtain ⟨p, p1, p2, p3⟩ := hl.1 a ha'
      refine ⟨p, p1, p2, ?_⟩
      have hb : pl (inc (pc P) 5, pn P, pr P, setL (pl P) (some 6) brs, pk P, pd P) a = if some 6 = some a then some brs else pl P a := rfl
      by_cases c : a = 6
      · omega
      · rw [hb, if_neg (fun z => c (Option.some.inj z).symm)]
        exact lawAt_app p3 _
    · rw [(o1 _ (kLw_tx (by decide))).1]
      exact (gI_I ..).trans (if_pos rfl)
    · have hb : pl (inc (pc P) 5, pn P, pr P, setL (pl P) (some 6) brs, pk P, pd P) 6 = some brs := rfl
      rw [hb]
      exact ⟨o, [], by rw [List.append_nil], rfl⟩
  · have := clB_len o.length hL
    omega
theorem C_take23 (hkt : isTx kt) {S : St} {P : TP} {o : CL} {t d e : Nat} {brs : List BR} (T : TKC B n N S) (hd : d ≤ N) (hb : pc P 2 ≤ 6) (ho : o.length ≤ 4 + t) (hg : gP P) (h : CB kt S P o) (hw : cwst B n kt S none) (c23 : tkK B n t = 23) (k1 : tkK B n (t + 1) = 1) (k5 : tkK B n (t + 2) = 5) (hL : LawT (tkK B n) (tkV B n) e brs (t + 3)) (hdt : d = e + 1) : CTc B n kt S P o t d brs := by
  obtain ⟨hi, hk, hn, hd1, hm, hh, hl⟩ := h
  have hlt := LawT_lt hL
  have h400 := T.2.1
  obtain ⟨S1, e1, o1, w1⟩ := C_named hkt T (u := t + 1) (s := 1) (by omega) k1 (by decide) hn hg.1 hw
  have eF : tkF (tkK B n) (tkL B n) (tkV B n) P t = lkP P (tkL B n (t + 1)) 1 (t + 1) := by unfold tkF; rw [c23]; rfl
  have eP : tkP (tkK B n) (tkL B n) (tkV B n) P t brs = (inc (pc P) 3, pn P, pr P, setL (pl P) (lk (nN P) (pn P) (tkL B n (t + 1)) 1) brs, pk P, pd P) := by unfold tkP; rw [c23]; rfl
  have g3 : ∀ f, f < 5 → ¬ kO kt [10, 17, 18] (ky (kt + 2) f) := fun f h1 => kO_n (by decide) (by omega) (Or.inl (by omega))
  have put : ∃ SA, f_X5_put (ky kt 10) S1 (lkI (lk (nN P) (pn P) (tkL B n (t + 1)) 1)) (nI o.length) = some SA ∧ on (kO kt [10]) S1 SA ∧ ∀ v, lk (nN P) (pn P) (tkL B n (t + 1)) 1 = some v → SA = up_A S1 (ky kt 10) (upd (st_A S1 (ky kt 10)) v (nI o.length)) := by
    cases q : lk (nN P) (pn P) (tkL B n (t + 1)) 1 with
    | none =>
      refine ⟨S1, ?_, on_refl _ _, fun v hv => by cases hv⟩
      unfold f_X5_put
      rw [if_pos (show lkI none < 0 by decide)]
    | some v =>
      have := lk_man hg q
      refine ⟨_, put_nI (tx_n hkt).2.2.2.1 (by omega) (by decide), kO_A _ 10 _ (by decide), fun v' hv => by cases hv; rfl⟩
  obtain ⟨SA, eA, oA1, fA⟩ := put
  have oA : on (kO kt [10, 17, 18]) S SA := on_trans (kO_mono (by decide) o1) (kO_mono (by decide) oA1)
  have TA := TKC_kO hkt (by decide) oA T
  have cA : clO (kt + 2) SA o := by
    unfold clO
    rw [(oA _ (g3 2 (by decide))).1, (oA _ (g3 0 (by decide))).2.1, (oA _ (g3 1 (by decide))).2.1]
    exact hl.2.2
  obtain ⟨S2, e2, c2, o2⟩ := C_compile (tx_L hkt) k5 hL (by omega) TA cA (by omega)
  have c1 : st_I S1 (ky (kt + 2) 2) = nI o.length := by
    rw [(o1 _ (kO_n (by decide) (by decide) (Or.inl (by omega)))).1]
    exact hl.2.2.1
  refine ⟨S2, ?_, on_trans (kTx_kO (by decide) oA) (kTx_Lw o2), ?_, fun z => ⟨clB o.length brs, ?_, ?_⟩⟩
  · rw [take_e hkt T (by omega) c23, if_neg (by decide), if_neg (by decide), if_neg (by decide), if_pos (show ckd 23 = 203 from rfl), nI_1, show nI t + (2 : Int32) = nI (t + 2) from nI_add t 2, show f_X4_named kt S (nI (t + 1)) (1 : Int32) = _ from e1, bnd, c1, eA, bnd, e2, bnd, hdt]
  · rw [eF]
    exact cwst_on (kLw_tx (by decide)) (kLw_tx (by decide)) o2 (cwst_kO (by decide) oA1 w1)
  · rw [eF] at z
    obtain ⟨v, q⟩ := lkF_none z
    have hv := lk_man hg q
    have eA2 := fA v q
    rw [eP]
    refine CB_law (P := P) ⟨rfl, rfl, rfl, rfl⟩ ⟨rfl, rfl, rfl, rfl⟩ o2 (CBi_on ⟨rfl, rfl, rfl, rfl⟩ (by decide) oA hi) (CBk_on ⟨rfl, rfl⟩ (by decide) oA hk) (CN_kO (by decide) oA hn) (CBd_on ⟨rfl, fun _ _ => ⟨rfl, rfl⟩⟩ (by decide) oA hd1) (CBm_on ⟨rfl, fun _ _ => ⟨rfl, rfl⟩⟩ (by decide) oA hm) (CBh_on ⟨rfl, fun _ _ => ⟨rfl, rfl⟩⟩ (by decide) oA hh) ⟨fun a ha => ?_, ?_, c2⟩
    · have ha' : a < pc P 2 := ha
      rw [(o2 _ (kLw_tx (by decide))).2.1, eA2, gAs, q]
      have hb : pl (inc (pc P) 3, pn P, pr P, setL (pl P) (some v) brs, pk P, pd P) a = if some v = some a then some brs else pl P a := rfl
      rw [hb]
      by_cases c : a = v
      · rw [c, upd_s, if_pos rfl]
        exact ⟨o.length, by omega, rfl, o, [], by rw [List.append_nil], rfl⟩
      · rw [upd_n c, if_neg (fun z => c (Option.some.inj z).symm), (o1 _ (kO_n (by decide) (by decide) (Or.inr (by decide)))).2.1]
        obtain ⟨p, p1, p2, p3⟩ := hl.1 a ha'
        exact ⟨p, p1, p2, lawAt_app p3 _⟩
    · rw [(o2 _ (kLw_tx (by decide))).1, (oA _ (kO_n (by decide) (by decide) (Or.inr (by decide)))).1, q]
      have hb : pl (inc (pc P) 3, pn P, pr P, setL (pl P) (some v) brs, pk P, pd P) 6 = if some v = some 6 then some brs else pl P 6 := rfl
      rw [hb, if_neg (fun z => by have := Option.some.inj z; omega)]
      obtain ⟨p, p1, p2, p3⟩ := hl.2.1
      exact ⟨p, p1, p2, lawAt_app p3 _⟩
  · have := clB_len o.length hL
    omega
end CT
