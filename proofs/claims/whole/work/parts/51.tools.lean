/-! TOOLS: a bind that the kernel doesn't run; loops that fill an array; loops with an invariant; courts that agree. -/
theorem bnd {α β : Type} (a : α) (f : α → Option β) : (some a).bind f = f a := Eq.trans (Option.bind_some a f) rfl
theorem fill_loop {ρ : Type} {step : Int32 × St → Option ((Int32 × St) ⊕ ρ)} (S : St) (K a e b : Nat) (h : Nat → Int32) (r : St → ρ) (hae : a ≤ e) (he0 : e < 40000)
    (hs : ∀ (i : Nat) (A : Nat → Int32), a ≤ i → i < e → (∀ j, j < b + a ∨ b + i ≤ j → A j = st_A S K j) → step (nI i, up_A S K A) = some (.inl (nI (i + 1), up_A S K (upd A (b + i) (h i)))))
    (hz : ∀ A : Nat → Int32, step (nI e, up_A S K A) = some (.inr (r (up_A S K A)))) :
    iter step FU (nI a, S) = some (r (up_A S K (fun j => if b + a ≤ j ∧ j < b + e then h (j - b) else st_A S K j))) := by
  have e0 : (fun j => if b + a ≤ j ∧ j < b + (a + 0) then h (j - b) else st_A S K j) = st_A S K := by
    funext j
    rw [if_neg (by omega)]
  have hh := iter_FU (step := step) (r := r (up_A S K (fun j => if b + a ≤ j ∧ j < b + e then h (j - b) else st_A S K j))) (fun i => (nI (a + i), up_A S K (fun j => if b + a ≤ j ∧ j < b + (a + i) then h (j - b) else st_A S K j))) (e - a) (by omega) (fun i hi => ?_) ?_
  · rw [e0, upA_self] at hh
    exact hh
  · show step (nI (a + i), up_A S K _) = _
    rw [hs (a + i) _ (by omega) (by omega) (fun j hj => by rw [if_neg (by omega)])]
    have e2 : (upd (fun j => if b + a ≤ j ∧ j < b + (a + i) then h (j - b) else st_A S K j) (b + (a + i)) (h (a + i))) = (fun j => if b + a ≤ j ∧ j < b + (a + (i + 1)) then h (j - b) else st_A S K j) := by
      funext j
      rw [upd_e]
      by_cases c : j = b + (a + i)
      · rw [if_pos c, if_pos (by omega), c]
        congr 1
        omega
      · rw [if_neg c]
        by_cases c2 : b + a ≤ j ∧ j < b + (a + i)
        · rw [if_pos c2, if_pos (by omega)]
        · rw [if_neg c2, if_neg (by omega)]
    rw [e2]
    rfl
  · show step (nI (a + (e - a)), up_A S K _) = _
    have e3 : a + (e - a) = e := by omega
    rw [e3, hz]
theorem loop_P {ρ σ : Type} {step : Int32 × σ → Option ((Int32 × σ) ⊕ ρ)} (S : σ) (e : Nat) (r : σ → ρ) (P : Nat → σ → Prop) (he0 : e < 40000) (h0 : P 0 S)
    (hs : ∀ i z, i < e → P i z → ∃ z', step (nI i, z) = some (.inl (nI (i + 1), z')) ∧ P (i + 1) z')
    (hz : ∀ z, P e z → step (nI e, z) = some (.inr (r z))) : ∃ z, iter step FU ((0 : Int32), S) = some (r z) ∧ P e z := by
  have hi := iter_invF (step := step) (x := ((0 : Int32), S)) (fun i x => x.1 = nI i ∧ P i x.2) (fun w => ∃ z, w = r z ∧ P e z) e he0 ⟨rfl, h0⟩ ?_ ?_
  · obtain ⟨w, hw, z, rfl, hp⟩ := hi
    exact ⟨z, hw, hp⟩
  · rintro i ⟨j, z⟩ hlt ⟨rfl, hp⟩
    obtain ⟨z', h1, h2⟩ := hs i z hlt hp
    exact Or.inl ⟨(nI (i + 1), z'), h1, rfl, h2⟩
  · rintro ⟨j, z⟩ ⟨rfl, hp⟩
    exact ⟨r z, hz z hp, z, rfl, hp⟩
/-- the reference's court, by its arrays alone -/
def mC (p : Nat → Nat → Prop) (A : Nat → Int32) (n : Int32) (B C : Nat → Int32) (T : TX) (X : CT) : Prop := cb T X ∧ n = nI (cn X) ∧ (∀ t, t ≤ cn X → (∀ i, i < tn T 2 → A (36 * t + i) = nI (cf X 0 t i) ∧ A (36 * t + 6 + i) = nI (cf X 1 t i)) ∧ ∀ m, m < tn T 3 → A (36 * t + 12 + m) = nI (cf X 2 t m) ∧ A (36 * t + 20 + m) = (if cw X t m then 1 else 0) ∧ (p t m → A (36 * t + 28 + m) = nI (cf X 3 t m))) ∧ ∀ m, m < tn T 3 → B m = bkM (ck X m) ∧ (ck X m ≠ none → C m = oI (cz X m))
theorem mC_of {p : Nat → Nat → Prop} {a b c d : Nat} {S : St} {T : TX} {X : CT} (h : cMp p a b c d S T X) : mC p (st_A S (ky 0 a)) (st_I S (ky 0 b)) (st_A S (ky 0 c)) (st_A S (ky 0 d)) T X := h
theorem of_mC {p : Nat → Nat → Prop} {a b c d : Nat} {S : St} {T : TX} {X : CT} (h : mC p (st_A S (ky 0 a)) (st_I S (ky 0 b)) (st_A S (ky 0 c)) (st_A S (ky 0 d)) T X) : cMp p a b c d S T X := h
theorem mC_cg {p : Nat → Nat → Prop} {A A' B B' C C' : Nat → Int32} {n n' : Int32} {T : TX} {X : CT} (hT : tb T) (h : mC p A n B C T X) (ha : ∀ j, j < 36 * cn X + 36 → A' j = A j) (hn : n' = n) (hb : ∀ m, m < 8 → B' m = B m) (hc : ∀ m, m < 8 → C' m = C m) : mC p A' n' B' C' T X := by
  have h6 := hT.2.2.1
  have h8 := hT.2.2.2.1
  refine ⟨h.1, hn.trans h.2.1, fun t ht => ⟨fun i hi => ?_, fun m hm => ?_⟩, fun m hm => ?_⟩
  · rw [ha _ (by omega), ha _ (by omega)]
    exact (h.2.2.1 t ht).1 i hi
  · rw [ha _ (by omega), ha _ (by omega), ha _ (by omega)]
    exact (h.2.2.1 t ht).2 m hm
  · rw [hb m (by omega), hc m (by omega)]
    exact h.2.2.2 m hm
/-- the class's court, by what it holds -/
theorem cC_cg {p : Nat → Nat → Prop} {k k' kt : Nat} {S S' : St} {T : TX} {X : CT} (hT : tb T) (h : cCp p k kt S T X) (hk : cl_C k' = 0) (hP : st_P S' (ky k' 0) = kt) (hI : st_I S' (ky k' 1) = nI (cn X))
    (h2 : ∀ j, j < 6 * cn X + 6 → st_A S' (ky k' 2) j = st_A S (ky k 2) j) (h3 : ∀ j, j < 6 * cn X + 6 → st_A S' (ky k' 3) j = st_A S (ky k 3) j)
    (h4 : ∀ j, j < 8 * cn X + 8 → st_A S' (ky k' 4) j = st_A S (ky k 4) j) (h5 : ∀ j, j < 8 * cn X + 8 → st_A S' (ky k' 5) j = st_A S (ky k 5) j)
    (h6 : ∀ j, j < cn X + 1 → st_A S' (ky k' 6) j = st_A S (ky k 6) j) (h7 : ∀ j, j < 8 → st_A S' (ky k' 7) j = st_A S (ky k 7) j) (h8 : ∀ j, j < 8 → st_A S' (ky k' 8) j = st_A S (ky k 8) j) : cCp p k' kt S' T X := by
  have q6 := hT.2.2.1
  have q8 := hT.2.2.2.1
  refine ⟨h.1, hk, hP, hI, fun t ht => ⟨fun a ha => ?_, fun m hm => ?_, ?_⟩, fun m hm => ?_⟩
  · rw [h2 _ (by omega), h3 _ (by omega)]
    exact (h.2.2.2.2.1 t ht).1 a ha
  · rw [h4 _ (by omega), h5 _ (by omega)]
    exact (h.2.2.2.2.1 t ht).2.1 m hm
  · rw [h6 _ (by omega)]
    exact (h.2.2.2.2.1 t ht).2.2
  · rw [h7 m (by omega), h8 m (by omega)]
    exact h.2.2.2.2.2 m hm
