/-! POSTFIX: what is emitted, what waits. Codes: 0 an int, 1 a variable, 2 plus, 3 minus, 4 times, 5 over. -/
def opC (k : Nat) : Nat := if k = 8 then 2 else if k = 9 then 3 else if k = 10 then 4 else 5
def syPop (st : Bool) (o : List (Nat × Nat)) : List Nat → List (Nat × Nat) × List Nat
  | [] => (o, [])
  | w :: r => if w = 6 ∨ st = true ∧ (w = 8 ∨ w = 9) then (o, w :: r) else syPop st (o ++ [(opC w, 0)]) r
def syStep (s : List (Nat × Nat) × List Nat) (k v : Nat) : List (Nat × Nat) × List Nat :=
  if k = 2 then (s.1 ++ [(0, v)], s.2) else if 31 ≤ k then (s.1 ++ [(1, k - 31)], s.2) else if k = 6 then (s.1, 6 :: s.2) else if k = 7 then ((syPop false s.1 s.2).1, (syPop false s.1 s.2).2.tail) else ((syPop (decide (k = 10 ∨ k = 15)) s.1 s.2).1, k :: (syPop (decide (k = 10 ∨ k = 15)) s.1 s.2).2)
/-- after d tokens from t on -/
def sy (tk tv : Nat → Nat) (t : Nat) : Nat → List (Nat × Nat) × List Nat
  | 0 => ([], [])
  | d + 1 => syStep (sy tk tv t d) (tk (t + d)) (tv (t + d))
def stk (A : Nat → Int32) : List Nat → Prop
  | [] => True
  | w :: r => A r.length = nI w ∧ stk A r
theorem stk_upd {A : Nat → Int32} {i : Nat} {x : Int32} : ∀ {wt : List Nat}, wt.length ≤ i → stk A wt → stk (upd A i x) wt
  | [], _, _ => trivial
  | w :: r, h, hs => by
    have h2 : r.length + 1 ≤ i := h
    exact ⟨by rw [upd_n (by omega)]; exact hs.1, stk_upd (by omega) hs.2⟩
theorem stk_push {A : Nat → Int32} {wt : List Nat} (w : Nat) (h : stk A wt) : stk (upd A wt.length (nI w)) (w :: wt) := ⟨upd_s, stk_upd (Nat.le_refl _) h⟩
def cds (A D : Nat → Int32) (c0 : Nat) (o : List (Nat × Nat)) : Prop := ∀ j, j < o.length → A (c0 + j) = nI (o.getD j (0, 0)).1 ∧ D (c0 + j) = nI (o.getD j (0, 0)).2
theorem cds_app {A D : Nat → Int32} {c0 : Nat} {o : List (Nat × Nat)} (x : Nat × Nat) (h : cds A D c0 o) : cds (upd A (c0 + o.length) (nI x.1)) (upd D (c0 + o.length) (nI x.2)) c0 (o ++ [x]) := by
  intro j hj
  rw [List.length_append] at hj
  have hj2 : j < o.length + 1 := hj
  by_cases c : j = o.length
  · subst c
    rw [upd_s, upd_s]
    have : (o ++ [x]).getD o.length (0, 0) = x := by
      rw [List.getD_eq_getElem?_getD, List.getElem?_append_right (Nat.le_refl _), Nat.sub_self]
      rfl
    rw [this]
    exact ⟨rfl, rfl⟩
  · have hlt : j < o.length := by omega
    rw [upd_n (by omega), upd_n (by omega)]
    have : (o ++ [x]).getD j (0, 0) = o.getD j (0, 0) := by
      rw [List.getD_eq_getElem?_getD, List.getD_eq_getElem?_getD, List.getElem?_append_left hlt]
    rw [this]
    exact h j hlt
def exM (c0 : Nat) (S : St) (s : List (Nat × Nat) × List Nat) : Prop := st_I S (ky 0 48) = nI s.2.length ∧ stk (st_A S (ky 0 47)) s.2 ∧ st_I S (ky 0 44) = nI (c0 + s.1.length) ∧ cds (st_A S (ky 0 45)) (st_A S (ky 0 46)) c0 s.1 ∧ ∀ w ∈ s.2, w = 6 ∨ w = 8 ∨ w = 9 ∨ w = 10 ∨ w = 15
abbrev fsEm : List Nat := [44, 45, 46, 48]
def upEm (S : St) (c : Nat) (x1 x2 : Int32) : St := up_I (up_A (up_A S (ky 0 45) (upd (st_A S (ky 0 45)) c x1)) (ky 0 46) (upd (st_A S (ky 0 46)) c x2)) (ky 0 44) (nI (c + 1))
theorem kM_mono {fs fs' : List Nat} (h : ∀ f ∈ fs, f ∈ fs') {S S' : St} (o : on (kM fs) S S') : on (kM fs') S S' := on_mono (fun q ⟨f, hf, e⟩ => ⟨f, h f hf, e⟩) o
/-- nothing changes but those fields, and of the text's rows the side's part alone -/
def oh (sd : Nat) (fs : List Nat) (S S' : St) : Prop := on (kM fs) S S' ∧ ∀ f, 24 ≤ f → f ≤ 46 → ∀ j, ¬ (wd f * sd ≤ j ∧ j < wd f * sd + wd f) → st_A S' (ky 0 f) j = st_A S (ky 0 f) j
theorem oh_refl (sd : Nat) (fs : List Nat) (S : St) : oh sd fs S S := ⟨on_refl _ _, fun _ _ _ _ _ => rfl⟩
theorem oh_trans {sd : Nat} {fs : List Nat} {S S1 S2 : St} (a : oh sd fs S S1) (b : oh sd fs S1 S2) : oh sd fs S S2 := ⟨on_trans a.1 b.1, fun f h1 h2 j h => (b.2 f h1 h2 j h).trans (a.2 f h1 h2 j h)⟩
theorem oh_mono {sd : Nat} {fs fs' : List Nat} (h : ∀ f ∈ fs, f ∈ fs') {S S' : St} (o : oh sd fs S S') : oh sd fs' S S' := ⟨kM_mono h o.1, o.2⟩
theorem oh_of {sd : Nat} {fs fs' : List Nat} (h : ∀ f ∈ fs, f ∈ fs') (h2 : ∀ f ∈ fs, f < 100 ∧ (f < 24 ∨ f = 38 ∨ f = 44 ∨ 46 < f)) {S S' : St} (h38 : st_A S' (ky 0 38) = st_A S (ky 0 38)) (h44 : st_A S' (ky 0 44) = st_A S (ky 0 44)) (o : on (kM fs) S S') : oh sd fs' S S' := ⟨kM_mono h o, fun f a b j _ => by
  by_cases c : f = 38
  · rw [c, h38]
  by_cases c2 : f = 44
  · rw [c2, h44]
  rw [(o _ (kM_n (fun g hg => (h2 g hg).1) (by omega) (fun z => by have := h2 f z; omega))).2.1]⟩
theorem oh_ofS {sd : Nat} {fs fs' : List Nat} (h : ∀ f ∈ fs, f ∈ fs') (h2 : ∀ f ∈ fs, f < 100 ∧ (f < 24 ∨ 46 < f)) {S S' : St} (o : on (kM fs) S S') : oh sd fs' S S' := ⟨kM_mono h o, fun f a b j _ => by
  rw [(o _ (kM_n (fun g hg => (h2 g hg).1) (by omega) (fun z => by have := h2 f z; omega))).2.1]⟩
theorem oh_I {sd : Nat} {fs : List Nat} (S : St) (g : Nat) (x : Int32) (h : g ∈ fs) : oh sd fs S (up_I S (ky 0 g) x) := ⟨on_I _ _ _ ⟨g, h, rfl⟩, fun _ _ _ _ _ => rfl⟩
theorem oh_A {sd : Nat} {fs : List Nat} (S : St) (g : Nat) (f : Nat → Int32) (h : g ∈ fs) (hg : g < 24 ∨ 46 < g ∧ g < 100) : oh sd fs S (up_A S (ky 0 g) f) := ⟨on_A _ _ _ ⟨g, h, rfl⟩, fun q a b j _ => by
  rw [gA_A, if_neg (ky_ne (by omega) (by omega) (by omega))]⟩
/-- one of the side's own -/
theorem oh_U {sd : Nat} {fs : List Nat} (S : St) (g i : Nat) (x : Int32) (h : g ∈ fs) (hg : g < 100) (h1 : wd g * sd ≤ i) (h2 : i < wd g * sd + wd g) : oh sd fs S (up_A S (ky 0 g) (upd (st_A S (ky 0 g)) i x)) := ⟨on_A _ _ _ ⟨g, h, rfl⟩, fun q a b j hj => by
  by_cases c : q = g
  · subst c
    rw [gA_A, if_pos rfl, upd_n (by intro e; subst e; exact hj ⟨h1, h2⟩)]
  · rw [gA_A, if_neg (ky_ne (by omega) hg (by omega))]⟩
theorem upEm_oh (sd : Nat) (S : St) (c : Nat) (x1 x2 : Int32) (h1 : 420 * sd ≤ c) (h2 : c < 420 * sd + 420) : oh sd fsEm S (upEm S c x1 x2) := oh_trans (oh_trans (oh_U S 45 c x1 (by decide) (by decide) h1 h2) (oh_U _ 46 c x2 (by decide) (by decide) h1 h2)) (oh_I _ 44 _ (by decide))
theorem M_emit {S : St} {c : Nat} (h : st_I S (ky 0 44) = nI c) (hc : c < 840) (x1 x2 : Int32) : f_X6_emit S x1 x2 = some (upEm S c x1 x2) := by
  have h1 : ∀ f, st_I (up_A S (ky 0 45) f) (ky 0 44) = nI c := fun _ => h
  have h2 : ∀ f g, st_I (up_A (up_A S (ky 0 45) f) (ky 0 46) g) (ky 0 44) = nI c := fun _ _ => h
  have hi : ib (nI c) 840 := ib_nI hc (by decide)
  have hc2 : (nI c).toNatClampNeg = c := nI_clamp (by omega)
  unfold f_X6_emit
  rw [h, chk_t hi, hc2, lt_e, h1, chk_t hi, hc2, lt_e, h2, nI_1, lt_e]
  rfl
theorem ex_em {c0 : Nat} {S : St} {s : List (Nat × Nat) × List Nat} (h : exM c0 S s) (x : Nat × Nat) : exM c0 (upEm S (c0 + s.1.length) (nI x.1) (nI x.2)) (s.1 ++ [x], s.2) := ⟨h.1, h.2.1, by
  show nI (c0 + s.1.length + 1) = nI (c0 + (s.1 ++ [x]).length)
  rw [List.length_append]
  rfl, cds_app x h.2.2.2.1, h.2.2.2.2⟩
theorem M_comesOut (st : Bool) : ∀ (wt : List Nat) (fuel sd : Nat) (S : St) (o : List (Nat × Nat)), wt.length < fuel → wt.length ≤ 60 → sd < 2 ∧ o.length + wt.length ≤ 420 → exM (420 * sd) S (o, wt) → ∃ S', iter (f_X6_comesOut_L0 (b2 st)) fuel S = some S' ∧ exM (420 * sd) S' (syPop st o wt) ∧ oh sd fsEm S S' := by
  intro wt
  induction wt with
  | nil =>
    intro fuel sd S o h1 h2 h3 h
    obtain ⟨f, rfl⟩ : ∃ f, fuel = f + 1 := ⟨fuel - 1, by have : 0 < fuel := h1; omega⟩
    refine ⟨S, ?_, h, oh_refl _ _ _⟩
    rw [iter]
    unfold f_X6_comesOut_L0
    have e : st_I S (ky 0 48) = 0 := h.1
    rw [e, if_pos (Int32.le_refl _)]
  | cons w r ih =>
    intro fuel sd S o h1 h2 h3 h
    have h1' : r.length + 1 < fuel := h1
    have h2' : r.length + 1 ≤ 60 := h2
    have h3' : sd < 2 ∧ o.length + (r.length + 1) ≤ 420 := h3
    obtain ⟨f, rfl⟩ : ∃ f, fuel = f + 1 := ⟨fuel - 1, by omega⟩
    have e48 : st_I S (ky 0 48) = nI (r.length + 1) := h.1
    have e47 : st_A S (ky 0 47) r.length = nI w := h.2.1.1
    have hw := h.2.2.2.2 w (List.mem_cons_self ..)
    have hS5 : exM (420 * sd) (up_I S (ky 0 48) (nI r.length)) (o, r) := ⟨rfl, h.2.1.2, h.2.2.1, h.2.2.2.1, fun x hx => h.2.2.2.2 x (List.mem_cons_of_mem _ hx)⟩
    have o5 : oh sd fsEm S (up_I S (ky 0 48) (nI r.length)) := oh_I _ _ _ (by decide)
    have hS9 := ex_em hS5 (opC w, 0)
    have o9 : oh sd fsEm S (upEm (up_I S (ky 0 48) (nI r.length)) ((420 * sd) + o.length) (nI (opC w)) (nI 0)) := oh_trans o5 (upEm_oh sd _ _ _ _ (by omega) (by omega))
    obtain ⟨S', g1, g2, g3⟩ := ih f sd _ (o ++ [(opC w, 0)]) (by omega) (by omega) (by rw [List.length_append]; show sd < 2 ∧ (o.length + 1) + r.length ≤ 420; omega) hS9
    have wk : ∀ j : Nat, j < 100 → (nI w = nI j ↔ w = j) := fun j hj => nI_eq (by omega) (by omega)
    have w6 : (nI w = (6 : Int32)) ↔ w = 6 := wk 6 (by decide)
    have w8 : (nI w = (8 : Int32)) ↔ w = 8 := wk 8 (by decide)
    have w9 : (nI w = (9 : Int32)) ↔ w = 9 := wk 9 (by decide)
    have w10 : (nI w = (10 : Int32)) ↔ w = 10 := wk 10 (by decide)
    have j84 : ∀ (x1 : Int32) (y : Nat), f_X6_comesOut_J84 (up_I S (ky 0 48) (nI r.length)) x1 (nI y) = some (.inl (upEm (up_I S (ky 0 48) (nI r.length)) ((420 * sd) + o.length) (nI y) (nI 0))) := fun x1 y => by
      unfold f_X6_comesOut_J84
      rw [M_emit (c := (420 * sd) + o.length) hS5.2.2.1 (by omega), bnd]
      rfl
    have j42 : ∀ x1 : Int32, w ≠ 6 → f_X6_comesOut_J42 S x1 (nI w) = some (.inl (upEm (up_I S (ky 0 48) (nI r.length)) ((420 * sd) + o.length) (nI (opC w)) (nI 0))) := fun x1 n6 => by
      unfold f_X6_comesOut_J42
      rw [e48, nI_pred, lt_e]
      unfold opC
      by_cases c8 : w = 8
      · rw [if_pos (w8.mpr c8), if_pos c8]; exact j84 _ 2
      rw [if_neg (fun z => c8 (w8.mp z)), if_neg c8]
      by_cases c9 : w = 9
      · rw [if_pos (w9.mpr c9), if_pos c9]; exact j84 _ 3
      rw [if_neg (fun z => c9 (w9.mp z)), if_neg c9]
      by_cases c10 : w = 10
      · rw [if_pos (w10.mpr c10), if_pos c10]; exact j84 _ 4
      rw [if_neg (fun z => c10 (w10.mp z)), if_neg c10]
      exact j84 _ 5
    have start : f_X6_comesOut_L0 (b2 st) S = if w = 6 ∨ st = true ∧ (w = 8 ∨ w = 9) then some (.inr S) else some (.inl (upEm (up_I S (ky 0 48) (nI r.length)) ((420 * sd) + o.length) (nI (opC w)) (nI 0))) := by
      unfold f_X6_comesOut_L0
      rw [e48, if_neg (show ¬ nI (r.length + 1) ≤ 0 from nI_nle (by omega) (by omega)), nI_pred, chk_t (ib_nI (by omega) (by decide)), nI_clamp (by omega), e47, lt_e]
      by_cases c6 : w = 6
      · rw [if_pos (w6.mpr c6), if_pos (Or.inl c6)]
      rw [if_neg (fun z => c6 (w6.mp z)), j42 _ c6]
      cases st with
      | false =>
        rw [if_pos (show b2 false = 0 from rfl), if_neg (fun z => z.elim c6 (fun y => absurd y.1 (by decide)))]
      | true =>
        rw [if_neg (show ¬ b2 true = 0 from ne01)]
        by_cases c8 : w = 8
        · rw [if_pos (w8.mpr c8), if_pos (Or.inr ⟨rfl, Or.inl c8⟩)]
        rw [if_neg (fun z => c8 (w8.mp z))]
        by_cases c9 : w = 9
        · rw [if_pos (w9.mpr c9), if_pos (Or.inr ⟨rfl, Or.inr c9⟩)]
        rw [if_neg (fun z => c9 (w9.mp z)), if_neg (fun z => z.elim c6 (fun y => y.2.elim c8 c9))]
    rw [iter, start, syPop]
    by_cases c : w = 6 ∨ st = true ∧ (w = 8 ∨ w = 9)
    · rw [if_pos c, if_pos c]
      exact ⟨S, rfl, h, oh_refl _ _ _⟩
    · rw [if_neg c, if_neg c]
      exact ⟨S', g1, g2, oh_trans o9 g3⟩
