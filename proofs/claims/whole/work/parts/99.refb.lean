/-! THE REFERENCE READS: its small steps. -/
def tkM (B : Nat → Nat) (n : Nat) (S : St) : Prop := (∀ j, j < n → B j < 256) ∧ ∀ t, t ≤ 400 → (∀ u, u < t → tkK B n u ≠ 0) → tokM B n S t
def atM (B : Nat → Nat) (n : Nat) (S : St) (t : Nat) : Prop := st_I S (ky 0 13) = 0 ∧ st_I S (ky 0 11) = nI t ∧ t ≤ 400 ∧ (∀ u, u < t → tkK B n u ≠ 0) ∧ tkM B n S
def fltM (B : Nat → Nat) (n : Nat) (S : St) (c : Nat × Nat) : Prop := (c.1 = 1 ∨ c.1 = 2) ∧ st_I S (ky 0 13) = nI c.1 ∧ st_I S (ky 0 14) = nI (ps B n c.2)
abbrev fsS : List Nat := [11, 13, 14]
theorem tkM_on {B : Nat → Nat} {n : Nat} {S S' : St} {fs : List Nat} (hf : ∀ f ∈ fs, f < 100 ∧ (f < 5 ∨ 8 < f)) (h : tkM B n S) (o : on (kM fs) S S') : tkM B n S' := by
  have g : ∀ f, 5 ≤ f → f ≤ 8 → ¬ kM fs (ky 0 f) := fun f h1 h2 => kM_n (fun f hf2 => (hf f hf2).1) (by omega) (fun z => by have := hf f z; omega)
  refine ⟨h.1, fun t h1 h2 => ?_⟩
  unfold tokM
  rw [(o _ (g 5 (by decide) (by decide))).2.1, (o _ (g 6 (by decide) (by decide))).2.1, (o _ (g 7 (by decide) (by decide))).2.1, (o _ (g 8 (by decide) (by decide))).2.2.2.1]
  exact h.2 t h1 h2
theorem tkK_lt {B : Nat → Nat} {n t : Nat} (h : ∀ j, j < n → B j < 256) : tkK B n t = 0 ∨ okK (tkK B n t) := by
  unfold tkK
  by_cases c : n ≤ ps B n t
  · rw [if_pos c]; exact Or.inl rfl
  · rw [if_neg c]; exact Or.inr (kd_ok (h _ (by omega)))
section MS
variable {B : Nat → Nat} {n : Nat} {S : St} {t : Nat} {c : Nat × Nat}
theorem flt_p (h : fltM B n S c) : ¬ st_I S (ky 0 13) ≤ 0 ∧ ¬ st_I S (ky 0 13) = 0 ∧ 0 < st_I S (ky 0 13) := by
  rw [h.2.1]
  rcases h.1 with e | e
  · rw [e]; decide
  · rw [e]; decide
theorem flt_on {S' : St} {fs : List Nat} (h : fltM B n S c) (hf : ∀ f ∈ fs, f < 100 ∧ f ≠ 13 ∧ f ≠ 14) (o : on (kM fs) S S') : fltM B n S' c := by
  refine ⟨h.1, ?_, ?_⟩
  · rw [(o _ (kM_n (fun f hf2 => (hf f hf2).1) (by decide) (fun z => by have := hf 13 z; omega))).1]; exact h.2.1
  · rw [(o _ (kM_n (fun f hf2 => (hf f hf2).1) (by decide) (fun z => by have := hf 14 z; omega))).1]; exact h.2.2
theorem M_isF (h : fltM B n S c) (k : Int32) : f_X6_is S k = some 0 := by
  unfold f_X6_is
  rw [if_neg (flt_p h).2.1]
theorem M_failF (h : fltM B n S c) (k : Int32) : f_X6_fail S k = some S := by
  unfold f_X6_fail
  rw [if_neg (flt_p h).1]
theorem M_mustF (h : fltM B n S c) (k : Int32) : f_X6_must S k = some S := by
  unfold f_X6_must
  rw [M_isF h, bnd, if_pos rfl, M_failF h, bnd]
theorem tkK_37 (h : tkM B n S) (t : Nat) : tkK B n t < 37 := by
  rcases tkK_lt (t := t) h.1 with e | e
  · omega
  · exact (ckN_lt _ e).1
theorem at_tok (h : atM B n S t) : tokM B n S t := h.2.2.2.2.2 t h.2.2.1 h.2.2.2.1
theorem at_ib (h : atM B n S t) : ib (st_I S (ky 0 11)) 403 := by
  rw [h.2.1]
  exact ib_nI (by have := h.2.2.1; omega) (by decide)
theorem at_k (h : atM B n S t) : st_A S (ky 0 5) (st_I S (ky 0 11)).toNatClampNeg = nI (tkK B n t) := by
  rw [h.2.1, nI_clamp (by have := h.2.2.1; omega)]
  exact (at_tok h).1
theorem M_is (h : atM B n S t) (k : Nat) (hk : k < 2 ^ 31) : f_X6_is S (nI k) = some (if tkK B n t = k then 1 else 0) := by
  have h37 := tkK_37 h.2.2.2.2 t
  unfold f_X6_is
  rw [h.1, if_pos rfl, chk_t (at_ib h), at_k h]
  by_cases c : tkK B n t = k
  · rw [if_pos c, if_pos (by rw [c])]
  · rw [if_neg c, if_neg (nI_eq' (by omega) hk c)]
def upFl (S : St) (k p : Int32) : St := up_I (up_I S (ky 0 13) k) (ky 0 14) p
theorem upFl_on (S : St) (k p : Int32) : on (kM fsS) S (upFl S k p) := on_trans (on_I _ _ _ ⟨13, by decide, rfl⟩) (on_I _ _ _ ⟨14, by decide, rfl⟩)
theorem M_fail (h : atM B n S t) {k : Nat} (hk : k = 1 ∨ k = 2) : f_X6_fail S (nI k) = some (upFl S (nI k) (nI (ps B n t))) ∧ fltM B n (upFl S (nI k) (nI (ps B n t))) (k, t) := by
  refine ⟨?_, hk, rfl, rfl⟩
  unfold f_X6_fail
  rw [h.1, if_pos (Int32.le_refl _), lt_e]
  have e : st_I (up_I S (ky 0 13) (nI k)) (ky 0 11) = nI t := h.2.1
  rw [e, chk_t (ib_nI (by have := h.2.2.1; omega) (by decide)), nI_clamp (by have := h.2.2.1; omega), lt_e]
  have e2 : st_A (up_I S (ky 0 13) (nI k)) (ky 0 6) t = nI (ps B n t) := (at_tok h).2.1
  rw [e2]
  rfl
theorem at_up (h : atM B n S t) (h4 : t < 400) (hk : tkK B n t ≠ 0) : atM B n (up_I S (ky 0 11) (nI (t + 1))) (t + 1) := ⟨h.1, rfl, h4, fun u hu => by
  by_cases q : u = t
  · rw [q]; exact hk
  · exact h.2.2.2.1 u (by omega), h.2.2.2.2⟩
theorem up11_on (S : St) (x : Int32) : on (kM fsS) S (up_I S (ky 0 11) x) := on_I _ _ _ ⟨11, by decide, rfl⟩
theorem M_goesOn (h : atM B n S t) (hk : tkK B n t ≠ 0) : (t = 400 ∧ ∃ S', f_X6_goesOn S = some S' ∧ fltM B n S' (2, t) ∧ on (kM fsS) S S') ∨ (t < 400 ∧ f_X6_goesOn S = some (up_I S (ky 0 11) (nI (t + 1))) ∧ atM B n (up_I S (ky 0 11) (nI (t + 1))) (t + 1)) := by
  have h4 := h.2.2.1
  unfold f_X6_goesOn
  rw [h.2.1]
  by_cases c : t = 400
  · obtain ⟨e, f⟩ := M_fail h (k := 2) (Or.inr rfl)
    rw [if_pos (show nI t = (400 : Int32) by rw [c]; rfl), show f_X6_fail S (2 : Int32) = _ from e, bnd]
    exact Or.inl ⟨c, _, rfl, f, upFl_on _ _ _⟩
  · rw [if_neg (show ¬ nI t = (400 : Int32) from nI_eq' (b := 400) (by omega) (by decide) c), lt_e, nI_1]
    exact Or.inr ⟨by omega, rfl, at_up h (by omega) hk⟩
/-- what a step of the reference comes to, the text being at (t, q) -/
def stM (B : Nat → Nat) (n : Nat) (fs : List Nat) (S : St) (t : Nat) (q : QS) (S' : St) (P : Nat → QS → Prop) : Prop := on (kM fs) S S' ∧ (fltM B n S' (rn (tkK B n) t q) ∨ ∃ t' q', atM B n S' t' ∧ rn (tkK B n) t q = rn (tkK B n) t' q' ∧ P t' q')
theorem rn_no (h : atM B n S t) {q : QS} (h0 : q.1 ≠ 0) (hn : tkK B n t ≠ 0 → goQ q (tkK B n t) = none) : rn (tkK B n) t q = (1, t) := by
  rw [rn_e _ _ h.2.2.1]
  by_cases c : tkK B n t = 0
  · rw [if_pos c, if_neg h0]
  · rw [if_neg c, hn c, aft_n]
theorem rn_yes (h : atM B n S t) {q q' : QS} (h0 : tkK B n t ≠ 0) (hg : goQ q (tkK B n t) = some q') (hm : many q' = false) : rn (tkK B n) t q = if t = 400 then (2, t) else rn (tkK B n) (t + 1) q' := by
  rw [rn_e _ _ h.2.2.1, if_neg h0, hg, aft_s]
  by_cases c : t = 400
  · rw [if_pos (Or.inl c), if_pos c]
  · rw [if_neg (by rw [hm]; simp [c]), if_neg c]
theorem M_go (h : atM B n S t) {q q' : QS} (h0 : tkK B n t ≠ 0) (hg : goQ q (tkK B n t) = some q') (hm : many q' = false) : (∃ S', f_X6_goesOn S = some S' ∧ on (kM fsS) S S' ∧ fltM B n S' (rn (tkK B n) t q)) ∨ (t < 400 ∧ f_X6_goesOn S = some (up_I S (ky 0 11) (nI (t + 1))) ∧ atM B n (up_I S (ky 0 11) (nI (t + 1))) (t + 1) ∧ rn (tkK B n) t q = rn (tkK B n) (t + 1) q') := by
  have e := rn_yes h h0 hg hm
  rcases M_goesOn h h0 with ⟨c, S', a, b, d⟩ | ⟨c, a, b⟩
  · rw [if_pos c] at e
    exact Or.inl ⟨S', a, d, by rw [e]; exact b⟩
  · rw [if_neg (by omega)] at e
    exact Or.inr ⟨c, a, b, e⟩
/-- a token that must come -/
theorem M_must (h : atM B n S t) {q q' : QS} {k : Nat} (hk0 : k ≠ 0) (hk : k < 100) (h0 : q.1 ≠ 0) (hg : ∀ j, j ≠ 0 → goQ q j = if j = k then some q' else none) (hm : many q' = false) : (∃ S', f_X6_must S (nI k) = some S' ∧ on (kM fsS) S S' ∧ fltM B n S' (rn (tkK B n) t q)) ∨ (t < 400 ∧ tkK B n t = k ∧ f_X6_must S (nI k) = some (up_I S (ky 0 11) (nI (t + 1))) ∧ atM B n (up_I S (ky 0 11) (nI (t + 1))) (t + 1) ∧ rn (tkK B n) t q = rn (tkK B n) (t + 1) q') := by
  unfold f_X6_must
  rw [M_is h k (by omega), bnd]
  by_cases c : tkK B n t = k
  · have h1 : tkK B n t ≠ 0 := by rw [c]; exact hk0
    rw [if_pos c, if_neg ne01]
    rcases M_go h (q := q) (q' := q') h1 (by rw [hg _ h1, if_pos c]) hm with ⟨S', a, b, d⟩ | ⟨a, b, d, e⟩
    · rw [a, bnd]
      exact Or.inl ⟨S', rfl, b, d⟩
    · rw [b, bnd]
      exact Or.inr ⟨a, c, rfl, d, e⟩
  · rw [if_neg c, if_pos rfl]
    obtain ⟨e, f⟩ := M_fail h (k := 1) (Or.inl rfl)
    rw [show f_X6_fail S (1 : Int32) = _ from e, bnd]
    refine Or.inl ⟨_, rfl, upFl_on _ _ _, ?_⟩
    rw [rn_no h h0 (fun z => by rw [hg _ z, if_neg c])]
    exact f
end MS
