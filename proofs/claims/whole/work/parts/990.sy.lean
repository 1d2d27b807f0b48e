/-! POSTFIX: what is emitted, what waits. Codes: 0 an int, 1 a variable, 2 plus, 3 minus, 4 times, 5 over. -/
def opC (k : Nat) : Nat := if k = 8 then 2 else if k = 9 then 3 else if k = 10 then 4 else 5
def syPop (st : Bool) (o : List (Nat × Nat)) : List Nat → List (Nat × Nat) × List Nat
  | [] => (o, [])
  | w :: r => if w = 6 ∨ st = true ∧ (w = 8 ∨ w = 9) then (o, w :: r) else syPop st (o ++ [(opC w, 0)]) r
def syStep (s : List (Nat × Nat) × List Nat) (k v : Nat) : List (Nat × Nat) × List Nat :=
  if k = 2 then (s.1 ++ [(0, v)], s.2) else if 31 ≤ k then (s.1 ++ [(1, k - 31)], s.2) else if k = 6 then (s.1, 6 :: s.2) else if k = 7 then ((syPop false s.1 s.2).1, (syPop false s.1 s.2).2.tail) else ((syPop (decide (k = 10 ∨ k = 15)) s.1 s.2).1, k :: (syPop (decide (k = 10 ∨ k = 15)) s.1 s.2).2)
/-- after d tokens from t on -/
def sy (tk tv : Nat → Nat) (t : Nat) : Nat → List (Nat × Nat) × List Nat
  | 0 => ([], [])
  | d + 1 => syStep (sy tk tv t d) (tk (t + d)) (tv (t + d))
def stk (A : Nat → Int32) : List Nat → Prop
  | [] => True
  | w :: r => A r.length = nI w ∧ stk A r
theorem stk_upd {A : Nat → Int32} {i : Nat} {x : Int32} : ∀ {wt : List Nat}, wt.length ≤ i → stk A wt → stk (upd A i x) wt
  | [], _, _ => trivial
  | w :: r, h, hs => by
    have h2 : r.length + 1 ≤ i := h
    exact ⟨by rw [upd_n (by omega)]; exact hs.1, stk_upd (by omega) hs.2⟩
theorem stk_push {A : Nat → Int32} {wt : List Nat} (w : Nat) (h : stk A wt) : stk (upd A wt.length (nI w)) (w :: wt) := ⟨upd_s, stk_upd (Nat.le_refl _) h⟩
def cds (A D : Nat → Int32) (c0 : Nat) (o : List (Nat × Nat)) : Prop := ∀ j, j < o.length → A (c0 + j) = nI (o.getD j (0, 0)).1 ∧ D (c0 + j) = nI (o.getD j (0, 0)).2
theorem cds_app {A D : Nat → Int32} {c0 : Nat} {o : List (Nat × Nat)} (x : Nat × Nat) (h : cds A D c0 o) : cds (upd A (c0 + o.length) (nI x.1)) (upd D (c0 + o.length) (nI x.2)) c0 (o ++ [x]) := by
  intro j hj
  rw [List.length_append] at hj
  have hj2 : j < o.length + 1 := hj
  by_cases c : j = o.length
  · subst c
    rw [upd_s, upd_s]
    have : (o ++ [x]).getD o.length (0, 0) = x := by
      rw [List.getD_eq_getElem?_getD, List.getElem?_append_right (Nat.le_refl _), Nat.sub_self]
      rfl
    rw [this]
    exact ⟨rfl, rfl⟩
  · have hlt : j < o.length := by omega
    rw [upd_n (by omega), upd_n (by omega)]
    have : (o ++ [x]).getD j (0, 0) = o.getD j (0, 0) := by
      rw [List.getD_eq_getElem?_getD, List.getD_eq_getElem?_getD, List.getElem?_append_left hlt]
    rw [this]
    exact h j hlt
def exM (c0 : Nat) (S : St) (s : List (Nat × Nat) × List Nat) : Prop := st_I S (ky 0 48) = nI s.2.length ∧ stk (st_A S (ky 0 47)) s.2 ∧ st_I S (ky 0 44) = nI (c0 + s.1.length) ∧ cds (st_A S (ky 0 45)) (st_A S (ky 0 46)) c0 s.1 ∧ ∀ w ∈ s.2, w = 6 ∨ w = 8 ∨ w = 9 ∨ w = 10 ∨ w = 15
abbrev fsEm : List Nat := [44, 45, 46, 48]
def upEm (S : St) (c : Nat) (x1 x2 : Int32) : St := up_I (up_A (up_A S (ky 0 45) (upd (st_A S (ky 0 45)) c x1)) (ky 0 46) (upd (st_A S (ky 0 46)) c x2)) (ky 0 44) (nI (c + 1))
theorem upEm_on (S : St) (c : Nat) (x1 x2 : Int32) : on (kM fsEm) S (upEm S c x1 x2) := on_trans (on_trans (on_A _ _ _ ⟨45, by decide, rfl⟩) (on_A _ _ _ ⟨46, by decide, rfl⟩)) (on_I _ _ _ ⟨44, by decide, rfl⟩)
theorem M_emit {S : St} {c : Nat} (h : st_I S (ky 0 44) = nI c) (hc : c < 840) (x1 x2 : Int32) : f_X6_emit S x1 x2 = some (upEm S c x1 x2) := by
  have h1 : ∀ f, st_I (up_A S (ky 0 45) f) (ky 0 44) = nI c := fun _ => h
  have h2 : ∀ f g, st_I (up_A (up_A S (ky 0 45) f) (ky 0 46) g) (ky 0 44) = nI c := fun _ _ => h
  have hi : ib (nI c) 840 := ib_nI hc (by decide)
  have hc2 : (nI c).toNatClampNeg = c := nI_clamp (by omega)
  unfold f_X6_emit
  rw [h, chk_t hi, hc2, lt_e, h1, chk_t hi, hc2, lt_e, h2, nI_1, lt_e]
  rfl
theorem ex_em {c0 : Nat} {S : St} {s : List (Nat × Nat) × List Nat} (h : exM c0 S s) (x : Nat × Nat) : exM c0 (upEm S (c0 + s.1.length) (nI x.1) (nI x.2)) (s.1 ++ [x], s.2) := ⟨h.1, h.2.1, by
  show nI (c0 + s.1.length + 1) = nI (c0 + (s.1 ++ [x]).length)
  rw [List.length_append]
  rfl, cds_app x h.2.2.2.1, h.2.2.2.2⟩
theorem M_comesOut (st : Bool) : ∀ (wt : List Nat) (fuel c0 : Nat) (S : St) (o : List (Nat × Nat)), wt.length < fuel → wt.length ≤ 60 → c0 + o.length + wt.length ≤ 840 → exM c0 S (o, wt) → ∃ S', iter (f_X6_comesOut_L0 (b2 st)) fuel S = some S' ∧ exM c0 S' (syPop st o wt) ∧ on (kM fsEm) S S' := by
  intro wt
  induction wt with
  | nil =>
    intro fuel c0 S o h1 h2 h3 h
    obtain ⟨f, rfl⟩ : ∃ f, fuel = f + 1 := ⟨fuel - 1, by have : 0 < fuel := h1; omega⟩
    refine ⟨S, ?_, h, on_refl _ _⟩
    rw [iter]
    unfold f_X6_comesOut_L0
    have e : st_I S (ky 0 48) = 0 := h.1
    rw [e, if_pos (Int32.le_refl _)]
  | cons w r ih =>
    intro fuel c0 S o h1 h2 h3 h
    have h1' : r.length + 1 < fuel := h1
    have h2' : r.length + 1 ≤ 60 := h2
    have h3' : c0 + o.length + (r.length + 1) ≤ 840 := h3
    obtain ⟨f, rfl⟩ : ∃ f, fuel = f + 1 := ⟨fuel - 1, by omega⟩
    have e48 : st_I S (ky 0 48) = nI (r.length + 1) := h.1
    have e47 : st_A S (ky 0 47) r.length = nI w := h.2.1.1
    have hw := h.2.2.2.2 w (List.mem_cons_self ..)
    have hS5 : exM c0 (up_I S (ky 0 48) (nI r.length)) (o, r) := ⟨rfl, h.2.1.2, h.2.2.1, h.2.2.2.1, fun x hx => h.2.2.2.2 x (List.mem_cons_of_mem _ hx)⟩
    have o5 : on (kM fsEm) S (up_I S (ky 0 48) (nI r.length)) := on_I _ _ _ ⟨48, by decide, rfl⟩
    have hS9 := ex_em hS5 (opC w, 0)
    have o9 : on (kM fsEm) S (upEm (up_I S (ky 0 48) (nI r.length)) (c0 + o.length) (nI (opC w)) (nI 0)) := on_trans o5 (upEm_on _ _ _ _)
    obtain ⟨S', g1, g2, g3⟩ := ih f c0 _ (o ++ [(opC w, 0)]) (by omega) (by omega) (by rw [List.length_append]; show c0 + (o.length + 1) + r.length ≤ 840; omega) hS9
    have wk : ∀ j : Nat, j < 100 → (nI w = nI j ↔ w = j) := fun j hj => nI_eq (by omega) (by omega)
    have w6 : (nI w = (6 : Int32)) ↔ w = 6 := wk 6 (by decide)
    have w8 : (nI w = (8 : Int32)) ↔ w = 8 := wk 8 (by decide)
    have w9 : (nI w = (9 : Int32)) ↔ w = 9 := wk 9 (by decide)
    have w10 : (nI w = (10 : Int32)) ↔ w = 10 := wk 10 (by decide)
    have j84 : ∀ (x1 : Int32) (y : Nat), f_X6_comesOut_J84 (up_I S (ky 0 48) (nI r.length)) x1 (nI y) = some (.inl (upEm (up_I S (ky 0 48) (nI r.length)) (c0 + o.length) (nI y) (nI 0))) := fun x1 y => by
      unfold f_X6_comesOut_J84
      rw [M_emit (c := c0 + o.length) hS5.2.2.1 (by omega), bnd]
      rfl
    have j42 : ∀ x1 : Int32, w ≠ 6 → f_X6_comesOut_J42 S x1 (nI w) = some (.inl (upEm (up_I S (ky 0 48) (nI r.length)) (c0 + o.length) (nI (opC w)) (nI 0))) := fun x1 n6 => by
      unfold f_X6_comesOut_J42
      rw [e48, nI_pred, lt_e]
      unfold opC
      by_cases c8 : w = 8
      · rw [if_pos (w8.mpr c8), if_pos c8]; exact j84 _ 2
      rw [if_neg (fun z => c8 (w8.mp z)), if_neg c8]
      by_cases c9 : w = 9
      · rw [if_pos (w9.mpr c9), if_pos c9]; exact j84 _ 3
      rw [if_neg (fun z => c9 (w9.mp z)), if_neg c9]
      by_cases c10 : w = 10
      · rw [if_pos (w10.mpr c10), if_pos c10]; exact j84 _ 4
      rw [if_neg (fun z => c10 (w10.mp z)), if_neg c10]
      exact j84 _ 5
    have start : f_X6_comesOut_L0 (b2 st) S = if w = 6 ∨ st = true ∧ (w = 8 ∨ w = 9) then some (.inr S) else some (.inl (upEm (up_I S (ky 0 48) (nI r.length)) (c0 + o.length) (nI (opC w)) (nI 0))) := by
      unfold f_X6_comesOut_L0
      rw [e48, if_neg (show ¬ nI (r.length + 1) ≤ 0 from nI_nle (by omega) (by omega)), nI_pred, chk_t (ib_nI (by omega) (by decide)), nI_clamp (by omega), e47, lt_e]
      by_cases c6 : w = 6
      · rw [if_pos (w6.mpr c6), if_pos (Or.inl c6)]
      rw [if_neg (fun z => c6 (w6.mp z)), j42 _ c6]
      cases st with
      | false =>
        rw [if_pos (show b2 false = 0 from rfl), if_neg (fun z => z.elim c6 (fun y => absurd y.1 (by decide)))]
      | true =>
        rw [if_neg (show ¬ b2 true = 0 from ne01)]
        by_cases c8 : w = 8
        · rw [if_pos (w8.mpr c8), if_pos (Or.inr ⟨rfl, Or.inl c8⟩)]
        rw [if_neg (fun z => c8 (w8.mp z))]
        by_cases c9 : w = 9
        · rw [if_pos (w9.mpr c9), if_pos (Or.inr ⟨rfl, Or.inr c9⟩)]
        rw [if_neg (fun z => c9 (w9.mp z)), if_neg (fun z => z.elim c6 (fun y => y.2.elim c8 c9))]
    rw [iter, start, syPop]
    by_cases c : w = 6 ∨ st = true ∧ (w = 8 ∨ w = 9)
    · rw [if_pos c, if_pos c]
      exact ⟨S, rfl, h, on_refl _ _⟩
    · rw [if_neg c, if_neg c]
      exact ⟨S', g1, g2, on_trans o9 g3⟩
