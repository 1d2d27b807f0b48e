/-! A WHOLE TEXT, tell by tell. -/
def TBd (P : TP) : Prop := pc P 0 ≤ 8 ∧ pc P 1 ≤ 12 ∧ pc P 2 ≤ 6 ∧ pc P 4 ≤ 8
def xk (l : CL) : Prop := dpF l = some 1 ∧ ∀ x ∈ l, cdR x
def lawG : List BR → Prop
  | [] => False
  | (none, l3) :: r => r = [] ∧ xk l3
  | (some (l1, l2), l3) :: r => xk l1 ∧ xk l2 ∧ xk l3 ∧ lawG r
theorem LawT_G {tk tv : Nat → Nat} {d : Nat} : ∀ {brs : List BR} {t : Nat}, LawT tk tv d brs t → lawG brs
  | [], _, h => absurd h id
  | (none, _) :: _, _, h => by
    obtain ⟨e, _, hx, _, rfl⟩ := h
    exact ⟨e, hx.2.1.1, hx.2.1.2.1⟩
  | (some (_, _), _) :: _, t, h => by
    obtain ⟨_, a, b, c, x1, _, x2, _, x3, _, rfl, rfl, rfl, hr⟩ := h
    exact ⟨⟨x1.2.1.1, x1.2.1.2.1⟩, ⟨x2.2.1.1, x2.2.1.2.1⟩, ⟨x3.2.1.1, x3.2.1.2.1⟩, LawT_G hr⟩
/-- rows that are sound -/
def gR (P : TP) : Prop := (∀ j, j < nN P → (pn P j).2.1 = 0 → (pn P j).2.2 < pc P 0) ∧ (pk P ≤ 100 ∧ pd P ≤ 9999) ∧ (∀ d, d < pc P 1 → pr P 0 d < pc P 0 ∧ pr P 1 d < pc P 0 ∧ pr P 0 d ≠ pr P 1 d) ∧ (∀ a, a < pc P 2 → pr P 2 a ≤ 20 ∧ pr P 3 a < pc P 0) ∧ (∀ m, m < pc P 4 → pr P 4 m < pc P 0 ∧ pr P 5 m < pc P 2) ∧ ∀ i brs, pl P i = some brs → lawG brs
theorem lk_roo {P : TP} (hg : gR P) {l : List Nat} {v : Nat} (e : lk (nN P) (pn P) l 0 = some v) : v < pc P 0 := by
  unfold lk at e
  cases q : lkN (nN P) (pn P) l 0 with
  | none => rw [q] at e; cases e
  | some j =>
    rw [q] at e
    have hj := s_fst_lt q
    have e2 : (pn P j).2.2 = v := Option.some.inj e
    rw [← e2]
    exact hg.1 j hj.1 (of_decide_eq_true hj.2).2
theorem dup_none {N u : Nat} {nl : NL} {l : List Nat} (h : dupF N nl l u = none) : s_fst (fun j => decide ((nl j).1 = l)) N = none := by
  unfold dupF at h
  cases e : s_fst (fun j => decide ((nl j).1 = l)) N with
  | none => rfl
  | some j =>
    rw [e, if_pos (show (some j).isSome = true from rfl)] at h
    cases h
theorem num_none {m v u : Nat} (h : numF m v u = none) : v ≤ m := by
  unfold numF at h
  split at h
  · cases h
  · omega
theorem addN_o {nl : NL} {N j : Nat} {x : List Nat × Nat × Nat} (h : j ≠ N) : addN nl N x j = nl j := if_neg h
theorem addN_s {nl : NL} {N : Nat} {x : List Nat × Nat × Nat} : addN nl N x N = x := if_pos rfl
theorem setR_2 {r : Nat → Nat → Nat} {i v w x : Nat} {a b : Nat} (hab : a ≠ b) (hx : x ≠ i) : setR (setR r a i v) b i w a x = r a x ∧ setR (setR r a i v) b i w b x = r b x := by
  unfold setR
  rw [if_neg (by omega), if_neg (by omega), if_neg (by omega), if_neg (by omega)]
  exact ⟨rfl, rfl⟩
theorem setR_i {r : Nat → Nat → Nat} {i v w : Nat} {a b : Nat} (hab : a ≠ b) : setR (setR r a i v) b i w a i = v ∧ setR (setR r a i v) b i w b i = w := by
  unfold setR
  rw [if_neg (by omega), if_pos ⟨rfl, rfl⟩, if_pos ⟨rfl, rfl⟩]
  exact ⟨rfl, rfl⟩
theorem setR_x {r : Nat → Nat → Nat} {i v w x c : Nat} {a b : Nat} (h1 : c ≠ a) (h2 : c ≠ b) : setR (setR r a i v) b i w c x = r c x := by
  unfold setR
  rw [if_neg (by omega), if_neg (by omega)]
section TR
variable {tk : Nat → Nat} {L : Nat → List Nat} {V : Nat → Nat}
/-- soundness is kept -/
theorem g_step {P : TP} {t d : Nat} {brs : List BR} (hs : shp tk V t d brs) (hF : tkF tk L V P t = none) (hB : TBd (tkP tk L V P t brs)) (hg : gP P) (hr : gR P) : gP (tkP tk L V P t brs) ∧ gR (tkP tk L V P t brs) := by
  obtain ⟨g1, g2, g3⟩ := hg
  obtain ⟨r1, r2, r3, r4, r5, r6⟩ := hr
  rcases hs with ⟨ct, _⟩ | ⟨ct, _⟩ | ⟨ct, _⟩ | ⟨ct, _, _, e, _, hL, _⟩ | ⟨ct, _⟩ | ⟨ct, _, e, _, hL, _⟩ | ⟨ct, _⟩ | ⟨ct, _⟩
  · have eP : tkP tk L V P t brs = (inc (pc P) 0, addN (pn P) (nN P) (L (t + 1), 0, pc P 0), pr P, pl P, pk P, pd P) := by unfold tkP; rw [if_pos ct]
    have eF : tkF tk L V P t = dupP P (L (t + 1)) (t + 1) := by unfold tkF; rw [if_pos ct]
    rw [eF] at hF
    rw [eP]
    have en : nN (inc (pc P) 0, addN (pn P) (nN P) (L (t + 1), 0, pc P 0), pr P, pl P, pk P, pd P) = nN P + 1 := by
      show (pc P 0 + 1) + pc P 2 + pc P 4 = pc P 0 + pc P 2 + pc P 4 + 1
      omega
    refine ⟨⟨?_, g2, ?_⟩, ?_, r2, fun x hx => ?_, fun x hx => ?_, fun x hx => ?_, r6⟩
    · rw [en]; exact UN_add g1 (dup_none hF)
    · intro j hj hs
      rw [en] at hj
      have hs' : (addN (pn P) (nN P) (L (t + 1), 0, pc P 0) j).2.1 = 1 := hs
      show (addN (pn P) (nN P) (L (t + 1), 0, pc P 0) j).2.2 < pc P 2
      by_cases c : j = nN P
      · rw [c, addN_s] at hs'; cases hs'
      · rw [addN_o c] at hs' ⊢
        exact g3 j (by omega) hs'
    · intro j hj hs
      rw [en] at hj
      have hs' : (addN (pn P) (nN P) (L (t + 1), 0, pc P 0) j).2.1 = 0 := hs
      show (addN (pn P) (nN P) (L (t + 1), 0, pc P 0) j).2.2 < pc P 0 + 1
      by_cases c : j = nN P
      · rw [c, addN_s]; exact Nat.lt_succ_self _
      · rw [addN_o c] at hs' ⊢
        have := r1 j (by omega) hs'
        omega
    · have h := r3 x hx
      exact ⟨Nat.lt_succ_of_lt h.1, Nat.lt_succ_of_lt h.2.1, h.2.2⟩
    · have h := r4 x hx
      exact ⟨h.1, Nat.lt_succ_of_lt h.2⟩
    · have h := r5 x hx
      exact ⟨Nat.lt_succ_of_lt h.1, h.2⟩
  · have eP : tkP tk L V P t brs = (inc (pc P) 1, pn P, setR (setR (pr P) 0 (pc P 1) (lkv P (L (t + 1)) 0)) 1 (pc P 1) (lkv P (L (t + 2)) 0), pl P, pk P, pd P) := by unfold tkP; rw [ct]; rfl
    have eF : tkF tk L V P t = ow (ow (lkP P (L (t + 1)) 0 (t + 1)) (lkP P (L (t + 2)) 0 (t + 2))) (if lk (nN P) (pn P) (L (t + 1)) 0 = lk (nN P) (pn P) (L (t + 2)) 0 then some (3, t + 2) else none) := by unfold tkF; rw [ct]; rfl
    rw [eF] at hF
    obtain ⟨z1, z2⟩ := ow_none hF
    obtain ⟨z3, z4⟩ := ow_none z1
    obtain ⟨v1, q1⟩ := lkF_none z3
    obtain ⟨v2, q2⟩ := lkF_none z4
    have hv1 : lkv P (L (t + 1)) 0 = v1 := by unfold lkv; rw [q1]; rfl
    have hv2 : lkv P (L (t + 2)) 0 = v2 := by unfold lkv; rw [q2]; rfl
    rw [eP, hv1, hv2]
    refine ⟨⟨g1, g2, g3⟩, r1, r2, fun x hx => ?_, fun x hx => ?_, fun x hx => ?_, r6⟩
    · have hx' : x < pc P 1 + 1 := hx
      show setR (setR (pr P) 0 (pc P 1) v1) 1 (pc P 1) v2 0 x < pc P 0 ∧ setR (setR (pr P) 0 (pc P 1) v1) 1 (pc P 1) v2 1 x < pc P 0 ∧ setR (setR (pr P) 0 (pc P 1) v1) 1 (pc P 1) v2 0 x ≠ setR (setR (pr P) 0 (pc P 1) v1) 1 (pc P 1) v2 1 x
      by_cases c : x = pc P 1
      · rw [c, (setR_i (by decide)).1, (setR_i (by decide)).2]
        refine ⟨lk_roo ⟨r1, r2, r3, r4, r5, r6⟩ q1, lk_roo ⟨r1, r2, r3, r4, r5, r6⟩ q2, fun e => ?_⟩
        rw [q1, q2, e, if_pos rfl] at z2
        cases z2
      · rw [(setR_2 (by decide) c).1, (setR_2 (by decide) c).2]
        exact r3 x (by omega)
    · show setR (setR (pr P) 0 (pc P 1) v1) 1 (pc P 1) v2 2 x ≤ 20 ∧ setR (setR (pr P) 0 (pc P 1) v1) 1 (pc P 1) v2 3 x < pc P 0
      rw [setR_x (by decide) (by decide), setR_x (by decide) (by decide)]
      exact r4 x hx
    · show setR (setR (pr P) 0 (pc P 1) v1) 1 (pc P 1) v2 4 x < pc P 0 ∧ setR (setR (pr P) 0 (pc P 1) v1) 1 (pc P 1) v2 5 x < pc P 2
      rw [setR_x (by decide) (by decide), setR_x (by decide) (by decide)]
      exact r5 x hx
  · have eP : tkP tk L V P t brs = (inc (pc P) 2, addN (pn P) (nN P) (L (t + 1), 1, pc P 2), setR (setR (pr P) 2 (pc P 2) (V (t + 2))) 3 (pc P 2) (lkv P (L (t + 3)) 0), pl P, pk P, pd P) := by unfold tkP; rw [ct]; rfl
    have eF : tkF tk L V P t = ow (ow (dupP P (L (t + 1)) (t + 1)) (numF 20 (V (t + 2)) (t + 2))) (lkP P (L (t + 3)) 0 (t + 3)) := by unfold tkF; rw [ct]; rfl
    rw [eF] at hF
    obtain ⟨z1, z2⟩ := ow_none hF
    obtain ⟨z3, z4⟩ := ow_none z1
    obtain ⟨v2, q2⟩ := lkF_none z2
    have hv2 : lkv P (L (t + 3)) 0 = v2 := by unfold lkv; rw [q2]; rfl
    rw [eP, hv2]
    have en : nN (inc (pc P) 2, addN (pn P) (nN P) (L (t + 1), 1, pc P 2), setR (setR (pr P) 2 (pc P 2) (V (t + 2))) 3 (pc P 2) v2, pl P, pk P, pd P) = nN P + 1 := by
      show pc P 0 + (pc P 2 + 1) + pc P 4 = pc P 0 + pc P 2 + pc P 4 + 1
      omega
    refine ⟨⟨?_, fun i h1 h2 => ?_, ?_⟩, ?_, r2, fun x hx => ?_, fun x hx => ?_, fun x hx => ?_, r6⟩
    · rw [en]; exact UN_add g1 (dup_none z3)
    · have h1' : pc P 2 + 1 ≤ i := h1
      exact g2 i (by omega) h2
    · intro j hj hs
      rw [en] at hj
      have hs' : (addN (pn P) (nN P) (L (t + 1), 1, pc P 2) j).2.1 = 1 := hs
      show (addN (pn P) (nN P) (L (t + 1), 1, pc P 2) j).2.2 < pc P 2 + 1
      by_cases c : j = nN P
      · rw [c, addN_s]; exact Nat.lt_succ_self _
      · rw [addN_o c] at hs' ⊢
        have := g3 j (by omega) hs'
        omega
    · intro j hj hs
      rw [en] at hj
      have hs' : (addN (pn P) (nN P) (L (t + 1), 1, pc P 2) j).2.1 = 0 := hs
      show (addN (pn P) (nN P) (L (t + 1), 1, pc P 2) j).2.2 < pc P 0
      by_cases c : j = nN P
      · rw [c, addN_s] at hs'; cases hs'
      · rw [addN_o c] at hs' ⊢
        exact r1 j (by omega) hs'
    · show setR (setR (pr P) 2 (pc P 2) (V (t + 2))) 3 (pc P 2) v2 0 x < pc P 0 ∧ setR (setR (pr P) 2 (pc P 2) (V (t + 2))) 3 (pc P 2) v2 1 x < pc P 0 ∧ setR (setR (pr P) 2 (pc P 2) (V (t + 2))) 3 (pc P 2) v2 0 x ≠ setR (setR (pr P) 2 (pc P 2) (V (t + 2))) 3 (pc P 2) v2 1 x
      rw [setR_x (by decide) (by decide), setR_x (by decide) (by decide)]
      exact r3 x hx
    · have hx' : x < pc P 2 + 1 := hx
      show setR (setR (pr P) 2 (pc P 2) (V (t + 2))) 3 (pc P 2) v2 2 x ≤ 20 ∧ setR (setR (pr P) 2 (pc P 2) (V (t + 2))) 3 (pc P 2) v2 3 x < pc P 0
      by_cases c : x = pc P 2
      · rw [c, (setR_i (by decide)).1, (setR_i (by decide)).2]
        exact ⟨num_none z4, lk_roo ⟨r1, r2, r3, r4, r5, r6⟩ q2⟩
      · rw [(setR_2 (by decide) c).1, (setR_2 (by decide) c).2]
        exact r4 x (by omega)
    · show setR (setR (pr P) 2 (pc P 2) (V (t + 2))) 3 (pc P 2) v2 4 x < pc P 0 ∧ setR (setR (pr P) 2 (pc P 2) (V (t + 2))) 3 (pc P 2) v2 5 x < pc P 2 + 1
      rw [setR_x (by decide) (by decide), setR_x (by decide) (by decide)]
      have h := r5 x hx
      exact ⟨h.1, Nat.lt_succ_of_lt h.2⟩
  · have eP : tkP tk L V P t brs = (inc (pc P) 3, pn P, pr P, setL (pl P) (lk (nN P) (pn P) (L (t + 1)) 1) brs, pk P, pd P) := by unfold tkP; rw [ct]; rfl
    have eF : tkF tk L V P t = lkP P (L (t + 1)) 1 (t + 1) := by unfold tkF; rw [ct]; rfl
    rw [eF] at hF
    obtain ⟨v, q⟩ := lkF_none hF
    have hv := lk_man ⟨g1, g2, g3⟩ q
    rw [eP, q]
    refine ⟨⟨g1, fun i h1 h2 => ?_, g3⟩, r1, r2, r3, r4, r5, fun i b hb => ?_⟩
    · have h1' : pc P 2 ≤ i := h1
      show (if some v = some i then some brs else pl P i) = none
      rw [if_neg (fun z => by have := Option.some.inj z; omega)]
      exact g2 i h1' h2
    · have hb' : (if some v = some i then some brs else pl P i) = some b := hb
      by_cases c : some v = some i
      · rw [if_pos c] at hb'
        rw [← Option.some.inj hb']
        exact LawT_G hL
      · rw [if_neg c] at hb'
        exact r6 i b hb'
  · have eP : tkP tk L V P t brs = (inc (pc P) 4, addN (pn P) (nN P) (L (t + 1), 2, pc P 4), setR (setR (pr P) 4 (pc P 4) (lkv P (L (t + 2)) 0)) 5 (pc P 4) (lkv P (L (t + 3)) 1), pl P, pk P, pd P) := by unfold tkP; rw [ct]; rfl
    have eF : tkF tk L V P t = ow (ow (dupP P (L (t + 1)) (t + 1)) (lkP P (L (t + 2)) 0 (t + 2))) (lkP P (L (t + 3)) 1 (t + 3)) := by unfold tkF; rw [ct]; rfl
    rw [eF] at hF
    obtain ⟨z1, z2⟩ := ow_none hF
    obtain ⟨z3, z4⟩ := ow_none z1
    obtain ⟨v1, q1⟩ := lkF_none z4
    obtain ⟨v2, q2⟩ := lkF_none z2
    have hv1 : lkv P (L (t + 2)) 0 = v1 := by unfold lkv; rw [q1]; rfl
    have hv2 : lkv P (L (t + 3)) 1 = v2 := by unfold lkv; rw [q2]; rfl
    rw [eP, hv1, hv2]
    have en : nN (inc (pc P) 4, addN (pn P) (nN P) (L (t + 1), 2, pc P 4), setR (setR (pr P) 4 (pc P 4) v1) 5 (pc P 4) v2, pl P, pk P, pd P) = nN P + 1 := by
      show pc P 0 + pc P 2 + (pc P 4 + 1) = pc P 0 + pc P 2 + pc P 4 + 1
      omega
    refine ⟨⟨?_, g2, ?_⟩, ?_, r2, fun x hx => ?_, fun x hx => ?_, fun x hx => ?_, r6⟩
    · rw [en]; exact UN_add g1 (dup_none z3)
    · intro j hj hs
      rw [en] at hj
      have hs' : (addN (pn P) (nN P) (L (t + 1), 2, pc P 4) j).2.1 = 1 := hs
      show (addN (pn P) (nN P) (L (t + 1), 2, pc P 4) j).2.2 < pc P 2
      by_cases c : j = nN P
      · rw [c, addN_s] at hs'; cases hs'
      · rw [addN_o c] at hs' ⊢
        exact g3 j (by omega) hs'
    · intro j hj hs
      rw [en] at hj
      have hs' : (addN (pn P) (nN P) (L (t + 1), 2, pc P 4) j).2.1 = 0 := hs
      show (addN (pn P) (nN P) (L (t + 1), 2, pc P 4) j).2.2 < pc P 0
      by_cases c : j = nN P
      · rw [c, addN_s] at hs'; cases hs'
      · rw [addN_o c] at hs' ⊢
        exact r1 j (by omega) hs'
    · show setR (setR (pr P) 4 (pc P 4) v1) 5 (pc P 4) v2 0 x < pc P 0 ∧ setR (setR (pr P) 4 (pc P 4) v1) 5 (pc P 4) v2 1 x < pc P 0 ∧ setR (setR (pr P) 4 (pc P 4) v1) 5 (pc P 4) v2 0 x ≠ setR (setR (pr P) 4 (pc P 4) v1) 5 (pc P 4) v2 1 x
      rw [setR_x (by decide) (by decide), setR_x (by decide) (by decide)]
      exact r3 x hx
    · show setR (setR (pr P) 4 (pc P 4) v1) 5 (pc P 4) v2 2 x ≤ 20 ∧ setR (setR (pr P) 4 (pc P 4) v1) 5 (pc P 4) v2 3 x < pc P 0
      rw [setR_x (by decide) (by decide), setR_x (by decide) (by decide)]
      exact r4 x hx
    · have hx' : x < pc P 4 + 1 := hx
      show setR (setR (pr P) 4 (pc P 4) v1) 5 (pc P 4) v2 4 x < pc P 0 ∧ setR (setR (pr P) 4 (pc P 4) v1) 5 (pc P 4) v2 5 x < pc P 2
      by_cases c : x = pc P 4
      · rw [c, (setR_i (by decide)).1, (setR_i (by decide)).2]
        exact ⟨lk_roo ⟨r1, r2, r3, r4, r5, r6⟩ q1, lk_man ⟨g1, g2, g3⟩ q2⟩
      · rw [(setR_2 (by decide) c).1, (setR_2 (by decide) c).2]
        exact r5 x (by omega)
  · have eP : tkP tk L V P t brs = (inc (pc P) 5, pn P, pr P, setL (pl P) (some 6) brs, pk P, pd P) := by unfold tkP; rw [ct]; rfl
    rw [eP]
    refine ⟨⟨g1, fun i h1 h2 => ?_, g3⟩, r1, r2, r3, r4, r5, fun i b hb => ?_⟩
    · have h1' : pc P 2 ≤ i := h1
      show (if some 6 = some i then some brs else pl P i) = none
      rw [if_neg (fun z => by have := Option.some.inj z; omega)]
      exact g2 i h1' h2
    · have hb' : (if some 6 = some i then some brs else pl P i) = some b := hb
      by_cases c : some 6 = some i
      · rw [if_pos c] at hb'
        rw [← Option.some.inj hb']
        exact LawT_G hL
      · rw [if_neg c] at hb'
        exact r6 i b hb'
  · have eP : tkP tk L V P t brs = (inc (pc P) 6, pn P, pr P, pl P, V (t + 1), pd P) := by unfold tkP; rw [ct]; rfl
    have eF : tkF tk L V P t = numF 100 (V (t + 1)) (t + 1) := by unfold tkF; rw [ct]; rfl
    rw [eF] at hF
    rw [eP]
    exact ⟨⟨g1, g2, g3⟩, r1, ⟨num_none hF, r2.2⟩, r3, r4, r5, r6⟩
  · have eP : tkP tk L V P t brs = (inc (pc P) 7, pn P, pr P, pl P, pk P, V (t + 1)) := by unfold tkP; rw [ct]; rfl
    have eF : tkF tk L V P t = numF 9999 (V (t + 1)) (t + 1) := by unfold tkF; rw [ct]; rfl
    rw [eF] at hF
    rw [eP]
    exact ⟨⟨g1, g2, g3⟩, r1, ⟨r2.1, num_none hF⟩, r3, r4, r5, r6⟩
end TR
abbrev TL : Type := List (Nat × List BR)
/-- the tells of a text, from token t to its end N -/
def TRc (tk : Nat → Nat) (L : Nat → List Nat) (V : Nat → Nat) (N : Nat) : TL → Nat → TP → Prop
  | [], t, _ => t = N ∧ tk N = 0
  | (d, brs) :: r, t, P => tk t ≠ 0 ∧ t < d ∧ shp tk V t d brs ∧ TBd (tkP tk L V P t brs) ∧ TRc tk L V N r d (tkP tk L V P t brs)
def TRf (tk : Nat → Nat) (L : Nat → List Nat) (V : Nat → Nat) : TL → Nat → TP → Option (Nat × Nat)
  | [], _, _ => none
  | (d, brs) :: r, t, P => ow (tkF tk L V P t) (TRf tk L V r d (tkP tk L V P t brs))
def TRp (tk : Nat → Nat) (L : Nat → List Nat) (V : Nat → Nat) : TL → Nat → TP → TP
  | [], _, P => P
  | (d, brs) :: r, t, P => TRp tk L V r d (tkP tk L V P t brs)
theorem TRc_le {tk : Nat → Nat} {L : Nat → List Nat} {V : Nat → Nat} {N : Nat} : ∀ {l : TL} {t : Nat} {P : TP}, TRc tk L V N l t P → l.length + t ≤ N
  | [], t, P, h => by
    show 0 + t ≤ N
    have := h.1
    omega
  | (d, brs) :: r, t, P, h => by
    have := TRc_le h.2.2.2.2
    have := h.2.1
    show r.length + 1 + t ≤ N
    omega
theorem TR_good {tk : Nat → Nat} {L : Nat → List Nat} {V : Nat → Nat} {N : Nat} : ∀ {l : TL} {t : Nat} {P : TP}, TRc tk L V N l t P → TRf tk L V l t P = none → TBd P → gP P → gR P → TBd (TRp tk L V l t P) ∧ gP (TRp tk L V l t P) ∧ gR (TRp tk L V l t P)
  | [], t, P, _, _, hb, hg, hr => ⟨hb, hg, hr⟩
  | (d, brs) :: r, t, P, h, hf, hb, hg, hr => by
    obtain ⟨z1, z2⟩ := ow_none (w := tkF tk L V P t) (x := TRf tk L V r d (tkP tk L V P t brs)) hf
    have g := g_step h.2.2.1 z1 h.2.2.2.1 hg hr
    have q := TR_good (l := r) (t := d) (P := tkP tk L V P t brs) h.2.2.2.2 z2 h.2.2.2.1 g.1 g.2
    exact q
