/-! WHAT A STATE KEEPS: outside the keys K nothing changes. -/
def on (K : Nat → Prop) (S S' : St) : Prop := ∀ q, ¬ K q → st_I S' q = st_I S q ∧ st_A S' q = st_A S q ∧ st_J S' q = st_J S q ∧ st_L S' q = st_L S q ∧ st_P S' q = st_P S q
theorem on_refl (K : Nat → Prop) (S : St) : on K S S := fun _ _ => ⟨rfl, rfl, rfl, rfl, rfl⟩
theorem on_trans {K : Nat → Prop} {S S1 S2 : St} (h : on K S S1) (g : on K S1 S2) : on K S S2 := fun q hq => ⟨(g q hq).1.trans (h q hq).1, (g q hq).2.1.trans (h q hq).2.1, (g q hq).2.2.1.trans (h q hq).2.2.1, (g q hq).2.2.2.1.trans (h q hq).2.2.2.1, (g q hq).2.2.2.2.trans (h q hq).2.2.2.2⟩
theorem on_mono {K K' : Nat → Prop} {S S1 : St} (hk : ∀ q, K q → K' q) (h : on K S S1) : on K' S S1 := fun q hq => h q (fun e => hq (hk q e))
theorem on_A {K : Nat → Prop} (S : St) (k : Nat) (f : Nat → Int32) (hk : K k) : on K S (up_A S k f) := fun q hq => ⟨gI_A .., (gA_A S k q f).trans (if_neg (fun e : q = k => hq (by rw [e]; exact hk))), gJ_A .., gL_A .., gP_A ..⟩
theorem on_I {K : Nat → Prop} (S : St) (k : Nat) (x : Int32) (hk : K k) : on K S (up_I S k x) := fun q hq => ⟨(gI_I S k q x).trans (if_neg (fun e : q = k => hq (by rw [e]; exact hk))), gA_I .., gJ_I .., gL_I .., gP_I ..⟩
theorem tC_on {K : Nat → Prop} {kt : Nat} {S S' : St} {T : TX} (h : tC kt S T) (o : on K S S') (h1 : ∀ f, f < 13 → ¬ K (ky kt f)) (h2 : ∀ f, f < 3 → ¬ K (ky (kt + 2) f)) : tC kt S' T := by
  have eI : ∀ f, f < 13 → st_I S' (ky kt f) = st_I S (ky kt f) := fun f hf => (o _ (h1 f hf)).1
  have eA : ∀ f, f < 13 → st_A S' (ky kt f) = st_A S (ky kt f) := fun f hf => (o _ (h1 f hf)).2.1
  have l0 := (o _ (h2 0 (by decide))).2.1
  have l1 := (o _ (h2 1 (by decide))).2.1
  have l2 := (o _ (h2 2 (by decide))).1
  refine ⟨h.1, h.2.1, fun i hi => ?_, fun d hd => ?_, fun a ha => ?_, fun m hm => ?_, fun a ha => ?_, ?_, h.2.2.2.2.2.2.2.2⟩
  · rw [eI i (by omega)]
    exact h.2.2.1 i hi
  · rw [eA 7 (by decide)]
    exact h.2.2.2.1 d hd
  · rw [eA 8 (by decide), eA 9 (by decide)]
    exact h.2.2.2.2.1 a ha
  · rw [eA 11 (by decide), eA 12 (by decide)]
    exact h.2.2.2.2.2.1 m hm
  · rw [eA 10 (by decide)]
    intro S2 a0 a1 a2
    exact h.2.2.2.2.2.2.1 a ha S2 (a0.trans l0) (a1.trans l1) (a2.trans l2)
  · rw [eI 6 (by decide)]
    intro S2 a0 a1 a2
    exact h.2.2.2.2.2.2.2.1 S2 (a0.trans l0) (a1.trans l1) (a2.trans l2)
theorem cC_on {K : Nat → Prop} {p : Nat → Nat → Prop} {k kt : Nat} {S S' : St} {T : TX} {X : CT} (h : cCp p k kt S T X) (o : on K S S') (h1 : ∀ f, f < 9 → ¬ K (ky k f)) : cCp p k kt S' T X := by
  have eA : ∀ f, f < 9 → st_A S' (ky k f) = st_A S (ky k f) := fun f hf => (o _ (h1 f hf)).2.1
  refine ⟨h.1, h.2.1, ?_, ?_, ?_⟩
  · rw [(o _ (h1 0 (by decide))).2.2.2.2]
    exact h.2.2.1
  · rw [(o _ (h1 1 (by decide))).1]
    exact h.2.2.2.1
  · rw [eA 2 (by decide), eA 3 (by decide), eA 4 (by decide), eA 5 (by decide), eA 6 (by decide), eA 7 (by decide), eA 8 (by decide)]
    exact h.2.2.2.2
/-- what a text's laws write while they run -/
def kL (kt : Nat) : Nat → Prop := fun q => q = ky (kt + 2) 5 ∨ q = ky (kt + 2) 6
/-- what a court's minutes write -/
def kC (k kt : Nat) : Nat → Prop := fun q => (∃ f, f < 9 ∧ 1 ≤ f ∧ q = ky k f) ∨ kL kt q
theorem tC_kC {k kt : Nat} {S S' : St} {T : TX} (hk : cl_C k = 0) (h : tC kt S T) (o : on (kC k kt) S S') : tC kt S' T := by
  have h2 := h.2.1
  refine tC_on h o (fun f hf q => ?_) (fun f hf q => ?_)
  · rcases q with ⟨g, hg, _, e⟩ | e | e
    · have := (ky_iff (by omega) (by omega)).mp e
      rcases h2 with rfl | rfl
      · rw [← this.1] at hk; cases hk
      · rw [← this.1] at hk; cases hk
    · have := (ky_iff (by omega) (by omega)).mp e
      omega
    · have := (ky_iff (by omega) (by omega)).mp e
      omega
  · rcases q with ⟨g, hg, _, e⟩ | e | e
    · have := (ky_iff (by omega) (by omega)).mp e
      rcases h2 with rfl | rfl
      · rw [← this.1] at hk; cases hk
      · rw [← this.1] at hk; cases hk
    · have := (ky_iff (by omega) (by omega)).mp e
      omega
    · have := (ky_iff (by omega) (by omega)).mp e
      omega
theorem cC_kL {p : Nat → Nat → Prop} {k kt : Nat} {S S' : St} {T : TX} {X : CT} (hT : tC kt S T) (h : cCp p k kt S T X) (o : on (kL kt) S S') : cCp p k kt S' T X := by
  have h2 := hT.2.1
  have hk := h.2.1
  refine cC_on h o (fun f hf q => ?_)
  rcases q with e | e
  · have := (ky_iff (by omega) (by omega)).mp e
    rcases h2 with rfl | rfl
    · rw [this.1] at hk; cases hk
    · rw [this.1] at hk; cases hk
  · have := (ky_iff (by omega) (by omega)).mp e
    rcases h2 with rfl | rfl
    · rw [this.1] at hk; cases hk
    · rw [this.1] at hk; cases hk
theorem on_law (kt : Nat) (S : St) (f g : Nat → Int32) : on (kL kt) S (up_A (up_A S (ky (kt + 2) 6) f) (ky (kt + 2) 5) g) := on_trans (on_A S _ f (Or.inr rfl)) (on_A _ _ g (Or.inl rfl))
