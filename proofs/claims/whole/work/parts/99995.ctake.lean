/-! THE CLASS TAKES A TELL: names, numbers, faults. -/
def kO (k : Nat) (fs : List Nat) : Nat → Prop := fun q => ∃ f ∈ fs, q = ky k f
theorem kO_n {k k' : Nat} {fs : List Nat} {g : Nat} (hf : ∀ f ∈ fs, f < 100) (hg : g < 100) (h : k' ≠ k ∨ g ∉ fs) : ¬ kO k fs (ky k' g) := by
  rintro ⟨f, hf1, e⟩
  have := (ky_iff hg (hf f hf1)).mp e
  rcases h with h | h
  · exact h this.1
  · rw [this.2] at h
    exact h hf1
theorem kO_mono {k : Nat} {fs fs' : List Nat} (h : ∀ f ∈ fs, f ∈ fs') {S S' : St} (o : on (kO k fs) S S') : on (kO k fs') S S' := on_mono (fun q ⟨f, hf, e⟩ => ⟨f, h f hf, e⟩) o
theorem kO_I {k : Nat} {fs : List Nat} (S : St) (g : Nat) (x : Int32) (h : g ∈ fs) : on (kO k fs) S (up_I S (ky k g) x) := on_I _ _ _ ⟨g, h, rfl⟩
theorem kO_A {k : Nat} {fs : List Nat} (S : St) (g : Nat) (f : Nat → Int32) (h : g ∈ fs) : on (kO k fs) S (up_A S (ky k g) f) := on_A _ _ _ ⟨g, h, rfl⟩
theorem kO_L {k : Nat} {fs : List Nat} (S : St) (g : Nat) (f : Nat → Int64) (h : g ∈ fs) : on (kO k fs) S (up_L S (ky k g) f) := on_L _ _ _ ⟨g, h, rfl⟩
/-- the class's fault -/
def cwst (B : Nat → Nat) (n kt : Nat) (S : St) (w : Option (Nat × Nat)) : Prop := match w with
  | none => st_I S (ky kt 17) = 0 ∧ st_I S (ky kt 18) = -1
  | some a => (3 ≤ a.1 ∧ a.1 ≤ 5) ∧ st_I S (ky kt 17) = nI a.1 ∧ st_I S (ky kt 18) = nI (ps B n a.2)
theorem cwst_on {B : Nat → Nat} {n kt : Nat} {S S' : St} {w : Option (Nat × Nat)} {K : Nat → Prop} (h17 : ¬ K (ky kt 17)) (h18 : ¬ K (ky kt 18)) (o : on K S S') (h : cwst B n kt S w) : cwst B n kt S' w := by
  cases w with
  | none => exact ⟨(o _ h17).1.trans h.1, (o _ h18).1.trans h.2⟩
  | some a => exact ⟨h.1, (o _ h17).1.trans h.2.1, (o _ h18).1.trans h.2.2⟩
def CN (kt : Nat) (S : St) (N : Nat) (nl : NL) : Prop := st_I S (ky kt 15) = nI N ∧ N ≤ 22 ∧ ∀ j, j < N → st_L S (ky kt 13) j = lN (codeB 32 (nl j).1) ∧ vL (nl j).1 ∧ st_A S (ky kt 14) j = nI (100 * (nl j).2.1 + (nl j).2.2) ∧ (nl j).2.1 < 3 ∧ (nl j).2.2 < 8
def UN (N : Nat) (nl : NL) : Prop := ∀ i j, i < N → j < N → (nl i).1 = (nl j).1 → i = j
theorem CN_on {kt : Nat} {S S' : St} {N : Nat} {nl : NL} {K : Nat → Prop} (hK : ∀ f, 13 ≤ f → f ≤ 15 → ¬ K (ky kt f)) (o : on K S S') (h : CN kt S N nl) : CN kt S' N nl := by
  refine ⟨?_, h.2.1, ?_⟩
  · rw [(o _ (hK 15 (by decide) (by decide))).1]; exact h.1
  · rw [(o _ (hK 13 (by decide) (by decide))).2.2.2.1, (o _ (hK 14 (by decide) (by decide))).2.1]; exact h.2.2
def isTx (kt : Nat) : Prop := kt = 2 ∨ kt = 3
theorem tx_n {kt : Nat} (h : isTx kt) : wk_n wd_C (ky kt 7) = 24 ∧ wk_n wd_C (ky kt 8) = 6 ∧ wk_n wd_C (ky kt 9) = 6 ∧ wk_n wd_C (ky kt 10) = 6 ∧ wk_n wd_C (ky kt 11) = 8 ∧ wk_n wd_C (ky kt 12) = 8 ∧ wk_n wd_C (ky kt 14) = 22 ∧ wk_m wd_C (ky kt 13) = 22 := by
  rcases h with rfl | rfl
  · exact ⟨rfl, rfl, rfl, rfl, rfl, rfl, rfl, rfl⟩
  · exact ⟨rfl, rfl, rfl, rfl, rfl, rfl, rfl, rfl⟩
theorem tx_L {kt : Nat} (h : isTx kt) : isLw (kt + 2) := by
  rcases h with rfl | rfl
  · exact Or.inl rfl
  · exact Or.inr rfl
section CT
variable {B : Nat → Nat} {n N kt : Nat}
theorem tok_v {S : St} {u : Nat} (T : TKC B n N S) (hu : u < N) : f_X5_longAt (ky 1 3) S (nI u) = some (st_L S (ky 1 3) u) := longAt_nI (n := 400) rfl (by have := T.2.1; omega) (by decide)
theorem C_fail (hkt : isTx kt) {S : St} {w : Option (Nat × Nat)} {u k : Nat} (T : TKC B n N S) (hu : u < N) (hk : 3 ≤ k ∧ k ≤ 5) (hw : cwst B n kt S w) : ∃ S', f_X4_fail kt S (nI k) (nI u) = some S' ∧ on (kO kt [17, 18]) S S' ∧ cwst B n kt S' (ow w (some (k, u))) := by
  unfold f_X4_fail
  cases w with
  | some a =>
    rw [hw.2.1, if_neg (nI_nz (by have := hw.1; omega) (by have := hw.1; omega))]
    exact ⟨S, rfl, on_refl _ _, hw⟩
  | none =>
    have T2 : TKC B n N (up_I S (ky kt 17) (nI k)) := TKC_on (fun f hf => kO_n (fs := [17, 18]) (by decide) hf (Or.inl (by rcases hkt with rfl | rfl <;> decide))) (kO_I S 17 _ (by decide)) T
    rw [hw.1, if_pos rfl, lt_e, at_nI (n := 400) rfl (by have := T.2.1; omega) (by decide), bnd, lt_e, (T2.2.2.2 u hu).2.1]
    refine ⟨_, rfl, on_trans (kO_I S 17 _ (by decide)) (kO_I _ 18 _ (by decide)), hk, ?_, ?_⟩
    · rw [gI_I, if_neg (ky_ne (by decide) (by decide) (by omega)), gI_I, if_pos rfl]
    · rw [gI_I, if_pos rfl]
/-- what a name means -/
def mean (N : Nat) (nl : NL) (l : List Nat) : Int32 := match s_fst (fun j => decide ((nl j).1 = l)) N with
  | none => -1
  | some j => nI (100 * (nl j).2.1 + (nl j).2.2)
theorem C_mean (hkt : isTx kt) {S : St} {M : Nat} {nl : NL} {l : List Nat} (h : CN kt S M nl) (hl : vL l) : f_X4_meaningOf kt S (lN (codeB 32 l)) = some (mean M nl l) := by
  have hM := h.2.1
  have main : ∃ z, iter (f_X4_meaningOf_L2 kt S (lN (codeB 32 l))) FU (0 : Int32) = some z ∧ z = (match s_fst (fun j => decide ((nl j).1 = l)) M with
      | none => .inr (-1 : Int32)
      | some j => .inl (nI j)) := by
    refine iter_invF (fun k z => z = nI k ∧ s_fst (fun j => decide ((nl j).1 = l)) k = none) _ M (by omega) ⟨rfl, rfl⟩ ?_ ?_
    · rintro k z hk ⟨rfl, h0⟩
      obtain ⟨a, b, c, d, e⟩ := h.2.2 k hk
      unfold f_X4_meaningOf_L2
      rw [h.1, if_neg (nI_ge hk (by omega)), longAt_nI (tx_n hkt).2.2.2.2.2.2.2 (by omega) (by decide), a, bnd]
      by_cases q : (nl k).1 = l
      · rw [if_pos ((code_eq (by decide) (by decide) b hl).mpr q)]
        refine Or.inr ⟨_, rfl, ?_⟩
        have e1 : s_fst (fun j => decide ((nl j).1 = l)) (k + 1) = some k := by
          rw [s_fst_succ h0, if_pos (decide_eq_true q)]
        have e2 : ∀ m, s_fst (fun j => decide ((nl j).1 = l)) (k + 1 + m) = some k := fun m => by
          induction m with
          | zero => exact e1
          | succ m ih => exact s_fst_stay ih
        rw [show M = k + 1 + (M - (k + 1)) by omega, e2]
      · rw [if_neg (fun z => q ((code_eq (by decide) (by decide) b hl).mp z)), nI_1]
        refine Or.inl ⟨_, rfl, rfl, ?_⟩
        rw [s_fst_succ h0, if_neg (fun z => q (of_decide_eq_true z))]
    · rintro z ⟨rfl, h0⟩
      unfold f_X4_meaningOf_L2
      rw [h.1, if_pos (Int32.le_refl _), h0]
      exact ⟨_, rfl, rfl⟩
  obtain ⟨z, e1, e2⟩ := main
  unfold f_X4_meaningOf mean
  rw [e1, bnd]
  cases q : s_fst (fun j => decide ((nl j).1 = l)) M with
  | none =>
    rw [q] at e2
    subst e2
    rfl
  | some j =>
    rw [q] at e2
    subst e2
    have hj := s_fst_lt q
    show (f_X5_at (ky kt 14) S (nI j)).bind (fun (q5 : Int32) => some q5) = _
    rw [at_nI (tx_n hkt).2.2.2.2.2.2.1 (by omega) (by decide), bnd, (h.2.2 j hj.1).2.2.1]
/-- the name stands among the names, as one of the sort -/
theorem lkN_of {M : Nat} {nl : NL} {l : List Nat} {s : Nat} (hU : UN M nl) : lkN M nl l s = (match s_fst (fun j => decide ((nl j).1 = l)) M with
    | none => none
    | some j => if (nl j).2.1 = s then some j else none) := by
  cases q : s_fst (fun j => decide ((nl j).1 = l)) M with
  | none =>
    cases r : lkN M nl l s with
    | none => rfl
    | some j =>
      have h1 := s_fst_lt r
      have h2 := s_fst_none q j h1.1
      exact absurd (of_decide_eq_true h1.2).1 (of_decide_eq_false h2)
  | some j =>
    have h1 := s_fst_lt q
    have h1' := of_decide_eq_true h1.2
    show _ = if (nl j).2.1 = s then some j else none
    by_cases c : (nl j).2.1 = s
    · rw [if_pos c]
      cases r : lkN M nl l s with
      | none =>
        have h2 := s_fst_none r j h1.1
        exact absurd ⟨h1', c⟩ (of_decide_eq_false h2)
      | some i =>
        have h2 := s_fst_lt r
        have h2' := of_decide_eq_true h2.2
        rw [hU i j h2.1 h1.1 (h2'.1.trans h1'.symm)]
    · rw [if_neg c]
      cases r : lkN M nl l s with
      | none => rfl
      | some i =>
        have h2 := s_fst_lt r
        have h2' := of_decide_eq_true h2.2
        have : i = j := hU i j h2.1 h1.1 (h2'.1.trans h1'.symm)
        rw [this] at h2'
        exact absurd h2'.2 c
def lkI (x : Option Nat) : Int32 := match x with
  | none => -1
  | some v => nI v
theorem C_named (hkt : isTx kt) {S : St} {w : Option (Nat × Nat)} {u s M : Nat} {nl : NL} (T : TKC B n N S) (hu : u < N) (k1 : tkK B n u = 1) (hs : s < 3) (hN : CN kt S M nl) (hU : UN M nl) (hw : cwst B n kt S w) : ∃ S', f_X4_named kt S (nI u) (nI s) = some (lkI (lk M nl (tkL B n u) s), S') ∧ on (kO kt [17, 18]) S S' ∧ cwst B n kt S' (ow w (lkF M nl (tkL B n u) s u)) := by
  have hl := tk_vL k1
  have e100 : nI s * (100 : Int32) = nI (s * 100) := pk_mul s 100
  have e200 : nI s * (100 : Int32) + (100 : Int32) = nI (s * 100 + 100) := by rw [e100]; exact nI_add _ 100
  obtain ⟨S1, f1, f2, f3⟩ := C_fail hkt T hu (show 3 ≤ 4 ∧ 4 ≤ 5 by decide) hw
  have j43 : f_X4_named_J43 kt S (nI u) = some ((-1 : Int32), S1) := by
    unfold f_X4_named_J43
    rw [show f_X4_fail kt S (4 : Int32) (nI u) = some S1 from f1, bnd]
  unfold f_X4_named
  rw [tok_v T hu, (T.2.2.2 u hu).2.2.1 k1, bnd, C_mean hkt hN hl, bnd, e200, e100]
  have hk := lkN_of (l := tkL B n u) (s := s) hU
  unfold lk lkF mean
  rw [hk]
  cases q : s_fst (fun j => decide ((nl j).1 = tkL B n u)) M with
  | none =>
    show ∃ S', (if (-1 : Int32) < nI (s * 100) then _ else _) = some ((-1 : Int32), S') ∧ _ ∧ cwst B n kt S' (ow w (some (4, u)))
    rw [if_pos (Int32.lt_of_lt_of_le (by decide : (-1 : Int32) < 0) (nI_pos' (by omega)))]
    exact ⟨S1, j43, f2, f3⟩
  | some j =>
    have h1 := s_fst_lt q
    obtain ⟨_, _, _, b1, b2⟩ := hN.2.2 j h1.1
    show ∃ S', (if nI (100 * (nl j).2.1 + (nl j).2.2) < nI (s * 100) then _ else _) = some (lkI (match (if (nl j).2.1 = s then some j else none) with
      | none => none
      | some j => some (nl j).2.2), S') ∧ _ ∧ cwst B n kt S' (ow w (if (if (nl j).2.1 = s then some j else none).isSome = true then none else some (4, u)))
    by_cases c : (nl j).2.1 = s
    · rw [if_pos c, if_neg (nI_nlt (by omega) (by omega)), if_neg (nI_ge (by omega) (by omega))]
      refine ⟨S, ?_, on_refl _ _, by rw [if_pos (show (some j).isSome = true from rfl), ow_N]; exact hw⟩
      have : nI (100 * (nl j).2.1 + (nl j).2.2) - nI (s * 100) = nI (nl j).2.2 := by
        rw [c, ← nI_add, show 100 * s = s * 100 from Nat.mul_comm _ _]
        rw [Int32.add_comm, Int32.add_sub_cancel]
      rw [this]
      rfl
    · rw [if_neg c]
      refine ⟨S1, ?_, f2, by rw [if_neg (show ¬ (none : Option Nat).isSome = true by decide)]; exact f3⟩
      by_cases d : (nl j).2.1 < s
      · rw [if_pos (nI_lt (by omega) (by omega)), j43]
        rfl
      · rw [if_neg (nI_nlt (by omega) (by omega)), if_pos (nI_le (by omega) (by omega)), j43]
        rfl
theorem C_number (hkt : isTx kt) {S : St} {w : Option (Nat × Nat)} {u m : Nat} (T : TKC B n N S) (hu : u < N) (k2 : tkK B n u = 2) (hv : tkV B n u < 2 ^ 31) (hm : m < 10000) (hw : cwst B n kt S w) : ∃ S', f_X4_number kt S (nI u) (nI m) = some (nI (tkV B n u), S') ∧ on (kO kt [17, 18]) S S' ∧ cwst B n kt S' (ow w (numF m (tkV B n u) u)) := by
  obtain ⟨S1, f1, f2, f3⟩ := C_fail hkt T hu (show 3 ≤ 5 ∧ 5 ≤ 5 by decide) hw
  unfold f_X4_number numF
  rw [tok_v T hu, (T.2.2.2 u hu).2.2.2 k2, bnd, lN_i]
  by_cases c : m < tkV B n u
  · rw [if_neg (nI_ge c hv), if_pos c, show f_X4_fail kt S (5 : Int32) (nI u) = some S1 from f1, bnd]
    exact ⟨S1, rfl, f2, f3⟩
  · rw [if_pos (nI_le (by omega) (by omega)), if_neg c, ow_N]
    exact ⟨S, rfl, on_refl _ _, hw⟩
theorem vpL_s {f : Nat → Int64} {i : Nat} {x : Int64} : vp_updL f i x i = x := pk_uLs
theorem vpL_n {f : Nat → Int64} {i j : Nat} {x : Int64} (h : j ≠ i) : vp_updL f i x j = f j := pk_uLn h
theorem UN_add {M : Nat} {nl : NL} {l : List Nat} {p : Nat × Nat} (hU : UN M nl) (h : s_fst (fun j => decide ((nl j).1 = l)) M = none) : UN (M + 1) (addN nl M (l, p)) := by
  have g : ∀ i, i < M → (addN nl M (l, p) i).1 ≠ l := fun i hi => by
    have := of_decide_eq_false (s_fst_none h i hi)
    unfold addN
    rw [if_neg (by omega)]
    exact this
  have gM : (addN nl M (l, p) M).1 = l := by
    unfold addN
    rw [if_pos rfl]
  have gi : ∀ i, i < M → addN nl M (l, p) i = nl i := fun i hi => by
    unfold addN
    rw [if_neg (by omega)]
  intro i j hi hj e
  by_cases a : i = M
  · by_cases b : j = M
    · omega
    · rw [a, gM] at e
      exact absurd e.symm (g j (by omega))
  · by_cases b : j = M
    · rw [b, gM] at e
      exact absurd e (g i (by omega))
    · rw [gi i (by omega), gi j (by omega)] at e
      exact hU i j (by omega) (by omega) e
theorem lkN_add {M : Nat} {nl : NL} {l l' : List Nat} {s s' c : Nat} (h : s' ≠ s) : lkN (M + 1) (addN nl M (l, s, c)) l' s' = lkN M nl l' s' := by
  have e1 : s_fst (fun j => decide ((addN nl M (l, s, c) j).1 = l' ∧ (addN nl M (l, s, c) j).2.1 = s')) M = lkN M nl l' s' := s_fst_cg M (fun i hi => by
    unfold addN
    rw [if_neg (by omega)])
  unfold lkN at *
  have e2 : decide ((addN nl M (l, s, c) M).1 = l' ∧ (addN nl M (l, s, c) M).2.1 = s') = false := by
    apply decide_eq_false
    unfold addN
    rw [if_pos rfl]
    exact fun z => h z.2.symm
  rw [s_fst, e1, e2]
  cases s_fst (fun j => decide ((nl j).1 = l' ∧ (nl j).2.1 = s')) M with
  | none => rfl
  | some i => rfl
theorem lk_add {M : Nat} {nl : NL} {l l' : List Nat} {s s' c : Nat} (h : s' ≠ s) : lk (M + 1) (addN nl M (l, s, c)) l' s' = lk M nl l' s' := by
  unfold lk
  rw [lkN_add h]
  cases q : lkN M nl l' s' with
  | none => rfl
  | some i =>
    have := (s_fst_lt q).1
    show some (addN nl M (l, s, c) i).2.2 = some (nl i).2.2
    unfold addN
    rw [if_neg (by omega)]
theorem lkF_add {M u : Nat} {nl : NL} {l l' : List Nat} {s s' c : Nat} (h : s' ≠ s) : lkF (M + 1) (addN nl M (l, s, c)) l' s' u = lkF M nl l' s' u := by
  unfold lkF
  rw [lkN_add h]
/-- what a declared name comes to -/
theorem C_declare (hkt : isTx kt) {S : St} {w : Option (Nat × Nat)} {u s c M : Nat} {nl : NL} (T : TKC B n N S) (hu : u < N) (k1 : tkK B n u = 1) (hs : s < 3) (hc : c < 8) (hM : M < 22) (hN : CN kt S M nl) (hU : UN M nl) (hw : cwst B n kt S w) : ∃ S' M' nl', f_X4_declare kt S (nI u) (nI s) (nI c) = some S' ∧ on (kO kt [13, 14, 15, 17, 18]) S S' ∧ cwst B n kt S' (ow w (dupF M nl (tkL B n u) u)) ∧ CN kt S' M' nl' ∧ UN M' nl' ∧ (∀ l' s', s' ≠ s → lk M' nl' l' s' = lk M nl l' s' ∧ ∀ v, lkF M' nl' l' s' v = lkF M nl l' s' v) ∧ (dupF M nl (tkL B n u) u = none → M' = M + 1 ∧ nl' = addN nl M (tkL B n u, s, c)) := by
  have hl := tk_vL k1
  unfold f_X4_declare
  rw [tok_v T hu, (T.2.2.2 u hu).2.2.1 k1, bnd, C_mean hkt hN hl, bnd]
  unfold dupF mean
  cases q : s_fst (fun j => decide ((nl j).1 = tkL B n u)) M with
  | some j =>
    have h1 := s_fst_lt q
    obtain ⟨_, _, _, b1, b2⟩ := hN.2.2 j h1.1
    obtain ⟨S1, f1, f2, f3⟩ := C_fail hkt T hu (show 3 ≤ 3 ∧ 3 ≤ 5 by decide) hw
    refine ⟨S1, M, nl, ?_, kO_mono (by decide) f2, f3, CN_on (fun f h1 h2 => kO_n (by decide) (by omega) (Or.inr (fun z => by
      have : f = 17 ∨ f = 18 := by simpa using z
      omega))) f2 hN, hU, fun _ _ _ => ⟨rfl, fun _ => rfl⟩, fun z => by cases z⟩
    show (if nI (100 * (nl j).2.1 + (nl j).2.2) = (-1 : Int32) then _ else _) = _
    rw [if_neg (nI_m1 (by omega)), show f_X4_fail kt S (3 : Int32) (nI u) = some S1 from f1, bnd]
  | none =>
    have h15 := hN.1
    have e1 : (if (-1 : Int32) = (-1 : Int32) then ((f_X5_putLong (ky kt 13) S (st_I S (ky kt 15)) (lN (codeB 32 (tkL B n u)))).bind (fun (q4 : St) => (f_X5_put (ky kt 14) q4 (st_I q4 (ky kt 15)) ((nI s * (100 : Int32)) + nI c)).bind (fun (q5 : St) => lt_v (up_I q5 (ky kt 15) ((st_I q5 (ky kt 15)) + (1 : Int32))) (fun (S6 : St) => some S6)))) else ((f_X4_fail kt S (3 : Int32) (nI u)).bind (fun (q7 : St) => some q7))) = some (up_I (up_A (up_L S (ky kt 13) (vp_updL (st_L S (ky kt 13)) M (lN (codeB 32 (tkL B n u))))) (ky kt 14) (upd (st_A S (ky kt 14)) M (nI (100 * s + c)))) (ky kt 15) (nI (M + 1))) := by
      rw [if_pos rfl, h15, putLong_nI (tx_n hkt).2.2.2.2.2.2.2 (by omega) (by decide), bnd]
      have h15b : ∀ f, st_I (up_L S (ky kt 13) f) (ky kt 15) = nI M := fun _ => h15
      have h15c : ∀ f g, st_I (up_A (up_L S (ky kt 13) f) (ky kt 14) g) (ky kt 15) = nI M := fun _ _ => h15
      have ev : nI s * (100 : Int32) + nI c = nI (100 * s + c) := by
        rw [show nI s * (100 : Int32) = nI (s * 100) from pk_mul s 100, nI_add, Nat.mul_comm]
      rw [h15b, put_nI (tx_n hkt).2.2.2.2.2.2.1 (by omega) (by decide), bnd, lt_e, h15c, ev, nI_1]
      rfl
    refine ⟨_, M + 1, addN nl M (tkL B n u, s, c), e1, on_trans (on_trans (kO_L S 13 _ (by decide)) (kO_A _ 14 _ (by decide))) (kO_I _ 15 _ (by decide)), ?_, ⟨?_, by omega, fun j hj => ?_⟩, UN_add hU q, fun l' s' h => ⟨lk_add h, fun v => lkF_add h⟩, fun _ => ⟨rfl, rfl⟩⟩
    · rw [if_neg (show ¬ (none : Option Nat).isSome = true by decide), ow_N]
      refine cwst_on (K := kO kt [13, 14, 15]) (kO_n (by decide) (by decide) (Or.inr (by decide))) (kO_n (by decide) (by decide) (Or.inr (by decide))) (on_trans (on_trans (kO_L S 13 _ (by decide)) (kO_A _ 14 _ (by decide))) (kO_I _ 15 _ (by decide))) hw
    · rw [gI_I, if_pos rfl]
    · have g13 : st_L (up_I (up_A (up_L S (ky kt 13) (vp_updL (st_L S (ky kt 13)) M (lN (codeB 32 (tkL B n u))))) (ky kt 14) (upd (st_A S (ky kt 14)) M (nI (100 * s + c)))) (ky kt 15) (nI (M + 1))) (ky kt 13) = vp_updL (st_L S (ky kt 13)) M (lN (codeB 32 (tkL B n u))) := gLs _ _ _
      have g14 : st_A (up_I (up_A (up_L S (ky kt 13) (vp_updL (st_L S (ky kt 13)) M (lN (codeB 32 (tkL B n u))))) (ky kt 14) (upd (st_A S (ky kt 14)) M (nI (100 * s + c)))) (ky kt 15) (nI (M + 1))) (ky kt 14) = upd (st_A S (ky kt 14)) M (nI (100 * s + c)) := gAs _ _ _
      rw [g13, g14]
      unfold addN
      by_cases z : j = M
      · rw [if_pos z, z, vpL_s, upd_s]
        exact ⟨rfl, hl, rfl, hs, hc⟩
      · rw [if_neg z, vpL_n z, upd_n z]
        exact hN.2.2 j (by omega)
end CT
