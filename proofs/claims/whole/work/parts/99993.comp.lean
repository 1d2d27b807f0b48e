/-! THE CLASS COMPILES A LAW. -/
def clB : Nat → List BR → CL
  | _, [] => []
  | b, (none, l3) :: r => l3.map cc ++ (3, 0) :: clB (b + l3.length + 1) r
  | b, (some (l1, l2), l3) :: r => l1.map cc ++ (l2.map cc ++ (2, b + l1.length + l2.length + l3.length + 2) :: (l3.map cc ++ (3, 0) :: clB (b + l1.length + l2.length + l3.length + 2) r))
theorem getD_mid {X Y : CL} {a b : Nat × Nat} {j : Nat} (h : j ≠ X.length) : (X ++ a :: Y).getD j (0, 0) = (X ++ b :: Y).getD j (0, 0) := by
  rw [List.getD_eq_getElem?_getD, List.getD_eq_getElem?_getD]
  by_cases c : j < X.length
  · rw [List.getElem?_append_left c, List.getElem?_append_left c]
  · rw [List.getElem?_append_right (by omega), List.getElem?_append_right (by omega)]
    obtain ⟨i, hi⟩ : ∃ i, j - X.length = i + 1 := ⟨j - X.length - 1, by omega⟩
    rw [hi, List.getElem?_cons_succ, List.getElem?_cons_succ]
theorem getD_at {X Y : CL} {a : Nat × Nat} : (X ++ a :: Y).getD X.length (0, 0) = a := by
  rw [List.getD_eq_getElem?_getD, List.getElem?_append_right (Nat.le_refl _), Nat.sub_self]
  rfl
theorem cds_set {A D : Nat → Int32} {X Y : CL} {c v : Nat} (v' : Nat) (h : cds A D 0 (X ++ (c, v) :: Y)) : cds A (upd D X.length (nI v')) 0 (X ++ (c, v') :: Y) := by
  intro j hj
  have hl : (X ++ (c, v') :: Y).length = (X ++ (c, v) :: Y).length := by
    rw [List.length_append, List.length_append]
    rfl
  have hh := h j (by rw [← hl]; exact hj)
  rw [Nat.zero_add] at *
  by_cases e : j = X.length
  · subst e
    rw [getD_at] at *
    rw [upd_s]
    exact ⟨hh.1, rfl⟩
  · rw [upd_n e, getD_mid (b := (c, v)) e]
    exact hh
theorem syPop_sum (st : Bool) : ∀ (wt : List Nat) (o : List (Nat × Nat)), (syPop st o wt).1.length + (syPop st o wt).2.length = o.length + wt.length
  | [], o => rfl
  | w :: r, o => by
    rw [syPop]
    by_cases c : w = 6 ∨ st = true ∧ (w = 8 ∨ w = 9)
    · rw [if_pos c]
    · rw [if_neg c, syPop_sum st r, List.length_append]
      show o.length + 1 + r.length = o.length + (r.length + 1)
      omega
theorem syStep_sum (s : CL × List Nat) (k v : Nat) : (syStep s k v).1.length + (syStep s k v).2.length ≤ s.1.length + s.2.length + 1 := by
  have p1 := syPop_sum false s.2 s.1
  have p2 := syPop_sum (decide (k = 10 ∨ k = 15)) s.2 s.1
  unfold syStep
  by_cases c2 : k = 2
  · rw [if_pos c2]
    show (s.1 ++ [(0, v)]).length + s.2.length ≤ _
    rw [List.length_append]
    show s.1.length + 1 + s.2.length ≤ _
    omega
  rw [if_neg c2]
  by_cases c31 : 31 ≤ k
  · rw [if_pos c31]
    show (s.1 ++ [(1, k - 31)]).length + s.2.length ≤ _
    rw [List.length_append]
    show s.1.length + 1 + s.2.length ≤ _
    omega
  rw [if_neg c31]
  by_cases c6 : k = 6
  · rw [if_pos c6]
    show s.1.length + (s.2.length + 1) ≤ _
    omega
  rw [if_neg c6]
  by_cases c7 : k = 7
  · rw [if_pos c7]
    show (syPop false s.1 s.2).1.length + (syPop false s.1 s.2).2.tail.length ≤ _
    rw [List.length_tail]
    omega
  rw [if_neg c7]
  show (syPop (decide (k = 10 ∨ k = 15)) s.1 s.2).1.length + ((syPop (decide (k = 10 ∨ k = 15)) s.1 s.2).2.length + 1) ≤ _
  omega
theorem sy_sum (tk tv : Nat → Nat) (t : Nat) : ∀ d, (sy tk tv t d).1.length + (sy tk tv t d).2.length ≤ d
  | 0 => Nat.le_refl _
  | d + 1 => by
    have := sy_sum tk tv t d
    have := syStep_sum (sy tk tv t d) (tk (t + d)) (tv (t + d))
    rw [sy]
    omega
def TKC (B : Nat → Nat) (n N : Nat) (S : St) : Prop := st_I S (ky 1 4) = nI N ∧ N ≤ 400 ∧ (∀ j, j < n → B j < 256) ∧ ∀ u, u < N → tokC B n S u
theorem TKC_on {B : Nat → Nat} {n N : Nat} {K : Nat → Prop} {S S' : St} (hK : ∀ f, f < 100 → ¬ K (ky 1 f)) (o : on K S S') (h : TKC B n N S) : TKC B n N S' := by
  refine ⟨?_, h.2.1, h.2.2.1, fun u hu => ?_⟩
  · rw [(o _ (hK 4 (by decide))).1]; exact h.1
  · have := h.2.2.2 u hu
    unfold tokC at *
    rw [(o _ (hK 1 (by decide))).2.1, (o _ (hK 2 (by decide))).2.1, (o _ (hK 3 (by decide))).2.2.2.1]
    exact this
theorem kLw_1 {kl : Nat} (h : isLw kl) : ∀ f, f < 100 → ¬ kLw kl (ky 1 f) := fun f hf ⟨g, hg, e⟩ => by
  have := ky_inj hf (show g < 100 by omega) e
  rcases h with rfl | rfl <;> omega
section CO
variable {B : Nat → Nat} {n N kl : Nat}
theorem TKC_37 {S : St} (T : TKC B n N S) (t : Nat) : tkK B n t < 37 := by
  rcases tkK_lt (t := t) T.2.2.1 with e | e
  · omega
  · exact (ckN_lt _ e).1
theorem tok_k {S : St} {u : Nat} (T : TKC B n N S) (hu : u < N) : f_X5_at (ky 1 1) S (nI u) = some (ckd (tkK B n u)) := by
  rw [at_nI (n := 400) rfl (by have := T.2.1; omega) (by decide), (T.2.2.2 u hu).1]
theorem L10_in {S : St} {u : Nat} (br : Int32) (T : TKC B n N S) (hu : u < N) : ¬ st_I S (ky 1 4) ≤ nI u := by
  rw [T.1]
  exact nI_ge hu (by have := T.2.1; omega)
theorem J131_n {S : St} (x3 : Int32) (u k : Nat) (hk : k ≠ 4) (h37 : k < 37) : f_X1_compile_J131 kl S x3 (nI u) (ckd k) = some (.inl (x3, nI (u + 1), S)) := by
  unfold f_X1_compile_J131
  have : ¬ ckd k = (59 : Int32) := by
    have hh : ∀ k : Nat, k < 37 → k ≠ 4 → ¬ ckd k = (59 : Int32) := by decide
    exact hh k h37 hk
  rw [if_neg this, nI_1]
/-- one token of an expression -/
theorem C_tok (hk : isLw kl) {S : St} {u : Nat} (br : Int32) (T : TKC B n N S) (hu : u < N) {base : CL} {s : CL × List Nat} (h : clS kl S (base ++ s.1.map cc) s.2) (hx : exTok (tkK B n u)) (hl : s.2.length ≤ 30) (hb : base.length + s.1.length + s.2.length ≤ 500) : ∃ S', f_X1_compile_L10 kl (br, nI u, S) = some (.inl (br, nI (u + 1), S')) ∧ clS kl S' (base ++ (syStep s (tkK B n u) (tkV B n u)).1.map cc) (syStep s (tkK B n u) (tkV B n u)).2 ∧ on (kLw kl) S S' := by
  have h37 := TKC_37 T u
  have tv := (T.2.2.2 u hu).2.2.2
  have hlen : (base ++ s.1.map cc).length = base.length + s.1.length := by rw [List.length_append, List.length_map]
  unfold f_X1_compile_L10
  rw [if_neg (L10_in br T hu), tok_k T hu, bnd]
  generalize tkK B n u = k at *
  generalize tkV B n u = v at *
  unfold syStep
  by_cases c2 : k = 2
  · subst c2
    rw [if_pos (show ckd 2 = (2 : Int32) from rfl), longAt_nI (n := 400) rfl (by have := T.2.1; omega) (by decide), tv rfl, bnd, lN_i]
    obtain ⟨S1, e1, e2, e3⟩ := C_put1 hk h (by omega) (0, v)
    rw [show f_X1_emit kl S (0 : Int32) (nI v) = some S1 from e1, bnd, J131_n _ _ 2 (by decide) (by decide), if_pos rfl]
    refine ⟨S1, rfl, ?_, e3⟩
    rw [List.map_append, ← List.append_assoc]
    exact e2
  rw [if_neg c2]
  by_cases c31 : 31 ≤ k
  · have ek : ckd k = nI (211 + (k - 31)) := by
      have : ckN k = 180 + k := by unfold ckN; rw [if_pos (by omega)]
      unfold ckd
      rw [this]
      congr 1
      omega
    have e211 : ckd k - (211 : Int32) = nI (k - 31) := by
      have hh : ∀ k : Nat, k < 37 → 31 ≤ k → ckd k - (211 : Int32) = nI (k - 31) := by decide
      exact hh k h37 c31
    have n2 : ¬ ckd k = (2 : Int32) := by
      have hh : ∀ k : Nat, k < 37 → 31 ≤ k → ¬ ckd k = (2 : Int32) := by decide
      exact hh k h37 c31
    have n211 : ¬ ckd k < (211 : Int32) := by
      have hh : ∀ k : Nat, k < 37 → 31 ≤ k → ¬ ckd k < (211 : Int32) := by decide
      exact hh k h37 c31
    obtain ⟨S1, e1, e2, e3⟩ := C_put1 hk h (by omega) (1, k - 31)
    rw [if_neg n2, if_neg n211, e211, show f_X1_emit kl S (1 : Int32) (nI (k - 31)) = some S1 from e1, bnd, J131_n _ _ k (by omega) h37, if_pos c31]
    refine ⟨S1, rfl, ?_, e3⟩
    rw [List.map_append, ← List.append_assoc]
    exact e2
  rw [if_neg c31]
  have hx' : k = 6 ∨ k = 7 ∨ k = 8 ∨ k = 9 ∨ k = 10 ∨ k = 15 := by
    unfold exTok at hx
    omega
  have n2 : ¬ ckd k = (2 : Int32) := by rcases hx' with rfl | rfl | rfl | rfl | rfl | rfl <;> decide
  have n211 : ckd k < (211 : Int32) := by rcases hx' with rfl | rfl | rfl | rfl | rfl | rfl <;> decide
  rw [if_neg n2, if_pos n211]
  by_cases c6 : k = 6
  · subst c6
    obtain ⟨S1, e1, e2, e3⟩ := C_putOff hk (w := 6) h (by omega) (Or.inl rfl)
    rw [if_pos (show ckd 6 = (40 : Int32) from rfl), show f_X1_putOff kl S (ckd 6) = some S1 from e1, bnd, J131_n _ _ 6 (by decide) (by decide), if_pos rfl]
    exact ⟨S1, rfl, e2, e3⟩
  rw [if_neg c6]
  have n40 : ¬ ckd k = (40 : Int32) := by rcases hx' with rfl | rfl | rfl | rfl | rfl | rfl <;> first | decide | exact absurd rfl c6
  rw [if_neg n40]
  by_cases c7 : k = 7
  · subst c7
    obtain ⟨S1, e1, e2, e3⟩ := C_unwind hk (st := false) (b := 0) (Or.inr ⟨rfl, Or.inl rfl⟩) (by omega) (by omega) h
    rw [show f_X1_isOperator (ckd 7) = some (0 : Int32) from rfl, bnd, if_pos rfl, e1, bnd]
    unfold f_X1_endPart
    rw [if_pos (show ckd 7 = (41 : Int32) from rfl), lt_e, bnd, J131_n _ _ 7 (by decide) (by decide), if_pos rfl]
    refine ⟨_, rfl, ?_, on_trans e3 (on_I _ _ _ (kLw_ (by decide)))⟩
    have e4 : i_max (st_I S1 (ky kl 4) - (1 : Int32)) (0 : Int32) = nI (syPop false s.1 s.2).2.tail.length := by
      rw [e2.2.2.1, List.length_tail]
      have hle := syPop_len false s.2 s.1
      generalize (syPop false s.1 s.2).2.length = m at *
      cases m with
      | zero => decide
      | succ m =>
        rw [nI_pred]
        show (if nI m < (0 : Int32) then (0 : Int32) else nI m) = _
        rw [if_neg (nI_pos (by omega))]
        rfl
    rw [e4]
    refine ⟨?_, ?_, ?_, ?_, fun w hw => e2.2.2.2.2 w (List.mem_of_mem_tail hw)⟩
    · rw [gI_I, if_neg (ky_ne (by decide) (by decide) (by omega))]
      exact e2.1
    · exact e2.2.1
    · rw [gI_I, if_pos rfl]
    · show stk (st_A S1 (ky kl 3)) ((syPop false s.1 s.2).2.tail.map ckN)
      have := e2.2.2.2.1
      generalize (syPop false s.1 s.2).2 = p at *
      cases p with
      | nil => trivial
      | cons x r => exact this.2
  rw [if_neg c7]
  have hx2 : k = 8 ∨ k = 9 ∨ k = 10 ∨ k = 15 := by omega
  have hop : f_X1_isOperator (ckd k) = some (1 : Int32) := by rcases hx2 with rfl | rfl | rfl | rfl <;> rfl
  obtain ⟨g1, g2, g3⟩ := ckN_op hx2
  have g1' : f_X1_bindingOf (ckd k) = some (if k = 8 ∨ k = 9 then (1 : Int32) else 2) := g1
  have hbd : bdOK (decide (k = 10 ∨ k = 15)) (if k = 8 ∨ k = 9 then (1 : Int32) else 2) := by
    rcases hx2 with rfl | rfl | rfl | rfl
    · exact Or.inr ⟨by decide, Or.inr (by decide)⟩
    · exact Or.inr ⟨by decide, Or.inr (by decide)⟩
    · exact Or.inl ⟨by decide, by decide⟩
    · exact Or.inl ⟨by decide, by decide⟩
  obtain ⟨S1, e1, e2, e3⟩ := C_unwind hk hbd (by omega) (by omega) h
  have hle := syPop_len (decide (k = 10 ∨ k = 15)) s.2 s.1
  obtain ⟨S2, f1, f2, f3⟩ := C_putOff hk (w := k) e2 (by omega) (by omega)
  rw [hop, bnd, if_neg (show ¬ (1 : Int32) = 0 by decide), g1', bnd, e1, bnd, show f_X1_putOff kl S1 (ckd k) = some S2 from f1, bnd, J131_n _ _ k (by omega) h37]
  exact ⟨S2, rfl, f2, on_trans e3 f3⟩
/-- all its tokens -/
theorem C_exp (hk : isLw kl) {t t' : Nat} (hx : exT (tkK B n) (tkV B n) t t') (hN : t' ≤ N) (br : Int32) {S : St} {base : CL} (T : TKC B n N S) (h : clS kl S base []) (hb : base.length ≤ 4 + t) : ∀ d, t + d ≤ t' → ∃ S', (∀ f, iter (f_X1_compile_L10 kl) (f + d) (br, nI t, S) = iter (f_X1_compile_L10 kl) f (br, nI (t + d), S')) ∧ clS kl S' (base ++ (sy (tkK B n) (tkV B n) t d).1.map cc) (sy (tkK B n) (tkV B n) t d).2 ∧ on (kLw kl) S S'
  | 0, _ => ⟨S, fun f => rfl, by
    rw [sy]
    show clS kl S (base ++ []) []
    rw [List.append_nil]
    exact h, on_refl _ _⟩
  | d + 1, hd => by
    obtain ⟨S1, e1, e2, e3⟩ := C_exp hk hx hN br T h hb d (by omega)
    have T1 := TKC_on (kLw_1 hk) e3 T
    have hu := hx.2.2 (t + d) (by omega) (by omega)
    have hl := hu.2
    rw [show t + d - t = d by omega] at hl
    have hs := sy_sum (tkK B n) (tkV B n) t d
    have := T.2.1
    obtain ⟨S2, f1, f2, f3⟩ := C_tok hk br T1 (u := t + d) (by omega) e2 hu.1 (by omega) (by omega)
    refine ⟨S2, fun f => ?_, ?_, on_trans e3 f3⟩
    · rw [show f + (d + 1) = (f + 1) + d by omega, e1, iter, f1]
      rfl
    · rw [sy]
      exact f2
/-- what ends an expression, or stands before one -/
theorem C_sep {S : St} {u : Nat} (br : Int32) (T : TKC B n N S) (hu : u < N) {k : Nat} (ek : tkK B n u = k) (hk : k = 4 ∨ k = 5 ∨ k = 13 ∨ k = 28 ∨ k = 29 ∨ k = 30) : f_X1_compile_L10 kl (br, nI u, S) = (f_X1_unwind kl S (0 : Int32)).bind (fun (q9 : St) => (f_X1_endPart kl q9 (ckd k) br).bind (fun (q10 : Int32 × St) => f_X1_compile_J131 kl q10.2 q10.1 (nI u) (ckd k))) := by
  unfold f_X1_compile_L10
  rw [if_neg (L10_in br T hu), tok_k T hu, ek, bnd]
  have a : ¬ ckd k = (2 : Int32) ∧ ckd k < (211 : Int32) ∧ ¬ ckd k = (40 : Int32) ∧ f_X1_isOperator (ckd k) = some (0 : Int32) := by
    rcases hk with rfl | rfl | rfl | rfl | rfl | rfl
    · exact ⟨by decide, by decide, by decide, rfl⟩
    · exact ⟨by decide, by decide, by decide, rfl⟩
    · exact ⟨by decide, by decide, by decide, rfl⟩
    · exact ⟨by decide, by decide, by decide, rfl⟩
    · exact ⟨by decide, by decide, by decide, rfl⟩
    · exact ⟨by decide, by decide, by decide, rfl⟩
  rw [if_neg a.1, if_pos a.2.1, if_neg a.2.2.1, a.2.2.2, bnd, if_pos rfl]
theorem C_unw0 (hk : isLw kl) {S : St} {base : CL} (h : clS kl S base []) (hb : base.length ≤ 500) : ∃ S', f_X1_unwind kl S (0 : Int32) = some S' ∧ clS kl S' base [] ∧ on (kLw kl) S S' := by
  have h' : clS kl S (base ++ ([] : CL).map cc) [] := by
    show clS kl S (base ++ []) []
    rw [List.append_nil]
    exact h
  obtain ⟨S1, e1, e2, e3⟩ := C_unwind hk (st := false) (b := 0) (Or.inr ⟨rfl, Or.inl rfl⟩) (show ([] : List Nat).length ≤ 60 by decide) (by show base.length + 0 + 0 ≤ 511; omega) h'
  have e2' : clS kl S1 (base ++ []) [] := e2
  rw [List.append_nil] at e2'
  exact ⟨S1, e1, e2', e3⟩
/-- an expression and the unwinding behind it -/
theorem C_expW (hk : isLw kl) {t t' : Nat} (hx : exT (tkK B n) (tkV B n) t t') (hN : t' ≤ N) (br : Int32) {S : St} {base : CL} (T : TKC B n N S) (h : clS kl S base []) (hb : base.length ≤ 4 + t) : ∃ S1 S2, (∀ f, iter (f_X1_compile_L10 kl) (f + (t' - t)) (br, nI t, S) = iter (f_X1_compile_L10 kl) f (br, nI t', S1)) ∧ TKC B n N S1 ∧ f_X1_unwind kl S1 (0 : Int32) = some S2 ∧ clS kl S2 (base ++ (xo (tkK B n) (tkV B n) t t').map cc) [] ∧ on (kLw kl) S S2 ∧ TKC B n N S2 := by
  have := hx.1
  have := T.2.1
  obtain ⟨S1, e1, e2, e3⟩ := C_exp hk hx hN br T h hb (t' - t) (by omega)
  have hs := sy_sum (tkK B n) (tkV B n) t (t' - t)
  have T1 := TKC_on (kLw_1 hk) e3 T
  have hw : (sy (tkK B n) (tkV B n) t (t' - t)).2.length ≤ 60 := by
    obtain ⟨d, hd⟩ : ∃ d, t' - t = d + 1 := ⟨t' - t - 1, by omega⟩
    have hu := hx.2.2 (t + d) (by omega) (by omega)
    have hl := hu.2
    rw [show t + d - t = d by omega] at hl
    rw [hd, sy]
    generalize sy (tkK B n) (tkV B n) t d = s at *
    generalize tkK B n (t + d) = k at *
    have p1 := syPop_len false s.2 s.1
    have p2 := syPop_len (decide (k = 10 ∨ k = 15)) s.2 s.1
    unfold syStep
    split
    · show s.2.length ≤ 60
      omega
    split
    · show s.2.length ≤ 60
      omega
    split
    · show s.2.length + 1 ≤ 60
      omega
    split
    · show (syPop false s.1 s.2).2.tail.length ≤ 60
      rw [List.length_tail]
      omega
    · show (syPop (decide (k = 10 ∨ k = 15)) s.1 s.2).2.length + 1 ≤ 60
      omega
  obtain ⟨S2, f1, f2, f3⟩ := C_unwind hk (st := false) (b := 0) (Or.inr ⟨rfl, Or.inl rfl⟩) hw (by omega) e2
  rw [hx.2.1.2.2.2] at f2
  refine ⟨S1, S2, fun f => ?_, T1, f1, f2, on_trans e3 f3, TKC_on (kLw_1 hk) f3 T1⟩
  rw [e1, show t + (t' - t) = t' by omega]
theorem endP_0 {k : Nat} (S : St) (br : Int32) (hk : k = 5 ∨ k = 13 ∨ k = 28) : f_X1_endPart kl S (ckd k) br = some (br, S) := by
  unfold f_X1_endPart
  rcases hk with rfl | rfl | rfl <;> rfl
theorem endP_29 (hk : isLw kl) {S : St} {o : CL} (h : clS kl S o []) (hl : o.length < 500) (br : Int32) : ∃ S', f_X1_endPart kl S (ckd 29) br = some (nI o.length, S') ∧ clS kl S' (o ++ [(2, 0)]) [] ∧ on (kLw kl) S S' := by
  obtain ⟨S1, e1, e2, e3⟩ := C_put1 hk h (by omega) (2, 0)
  refine ⟨S1, ?_, e2, e3⟩
  unfold f_X1_endPart
  rw [if_neg (show ¬ ckd 29 = (41 : Int32) by decide), if_pos (show ckd 29 = (209 : Int32) from rfl), show f_X1_emit kl S (2 : Int32) (0 : Int32) = some S1 from e1, bnd, e2.1, List.length_append]
  show some (nI (o.length + 1) - 1, S1) = _
  rw [nI_pred]
theorem endP_4 (hk : isLw kl) {S : St} {o : CL} (h : clS kl S o []) (hl : o.length < 500) (br : Int32) : ∃ S', f_X1_endPart kl S (ckd 4) br = some (br, S') ∧ clS kl S' (o ++ [(3, 0)]) [] ∧ on (kLw kl) S S' := by
  obtain ⟨S1, e1, e2, e3⟩ := C_put1 hk h (by omega) (3, 0)
  refine ⟨S1, ?_, e2, e3⟩
  unfold f_X1_endPart
  rw [if_neg (show ¬ ckd 4 = (41 : Int32) by decide), if_neg (show ¬ ckd 4 = (209 : Int32) by decide), if_neg (show ¬ ckd 4 = (210 : Int32) by decide), if_pos (show ckd 4 = (59 : Int32) from rfl), show f_X1_emit kl S (3 : Int32) (0 : Int32) = some S1 from e1, bnd]
theorem endP_30 (hk : isLw kl) {S : St} {X Y : CL} {v : Nat} (h : clS kl S (X ++ (2, v) :: Y) []) (hl : (X ++ (2, v) :: Y).length < 500) : ∃ S', f_X1_endPart kl S (ckd 30) (nI X.length) = some (nI X.length, S') ∧ clS kl S' (X ++ (2, (X ++ (2, v) :: Y).length + 1) :: (Y ++ [(3, 0)])) [] ∧ on (kLw kl) S S' := by
  obtain ⟨S1, e1, e2, e3⟩ := C_put1 hk h (by omega) (3, 0)
  have hX : X.length < (X ++ (2, v) :: Y).length := by
    rw [List.length_append]
    show X.length < X.length + (Y.length + 1)
    omega
  have h2 : st_I S1 (ky kl 2) = nI ((X ++ (2, v) :: Y).length + 1) := by
    rw [e2.1, List.length_append]
    rfl
  refine ⟨up_A S1 (ky kl 1) (upd (st_A S1 (ky kl 1)) X.length (nI ((X ++ (2, v) :: Y).length + 1))), ?_, ⟨?_, ?_, e2.2.2.1, ?_, e2.2.2.2.2⟩, on_trans e3 (on_A _ _ _ (kLw_ (by decide)))⟩
  · unfold f_X1_endPart
    rw [if_neg (show ¬ ckd 30 = (41 : Int32) by decide), if_neg (show ¬ ckd 30 = (209 : Int32) by decide), if_pos (show ckd 30 = (210 : Int32) from rfl), show f_X1_emit kl S (3 : Int32) (0 : Int32) = some S1 from e1, bnd, h2, put_nI (lw_n hk).2.1 (by omega) (by decide), bnd]
  · show st_I S1 (ky kl 2) = _
    rw [h2, List.length_append, List.length_append]
    show nI (X.length + (Y.length + 1) + 1) = nI (X.length + ((Y ++ [(3, 0)]).length + 1))
    rw [List.length_append]
    rfl
  · rw [gA_A, if_neg (ky_ne (by decide) (by decide) (by omega)), gAs]
    have := e2.2.1
    rw [List.append_assoc] at this
    exact cds_set _ this
  · rw [gA_A, if_neg (ky_ne (by decide) (by decide) (by omega))]
    trivial
end CO
