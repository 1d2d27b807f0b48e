/-! THE ROW OF LATENESS: the reference's. -/
def kM (fs : List Nat) : Nat → Prop := fun q => ∃ f ∈ fs, q = ky 0 f
theorem kM_n {fs : List Nat} {g : Nat} (hf : ∀ f ∈ fs, f < 100) (hg : g < 100) (h : g ∉ fs) : ¬ kM fs (ky 0 g) := by
  rintro ⟨f, hf1, e⟩
  have := (ky_iff hg (hf f hf1)).mp e
  rw [this.2] at h
  exact h hf1
theorem tM_on {K : Nat → Prop} {s : Nat} {S S' : St} {T : TX} (h : tM s S T) (o : on K S S') (h1 : ∀ f, 18 ≤ f → f < 47 → ¬ K (ky 0 f)) : tM s S' T := by
  have eA : ∀ f, 18 ≤ f → f < 47 → st_A S' (ky 0 f) = st_A S (ky 0 f) := fun f h3 h4 => (o _ (h1 f h3 h4)).2.1
  have eI : st_I S' (ky 0 18) = st_I S (ky 0 18) := (o _ (h1 18 (by decide) (by decide))).1
  have eL : ∀ q ∈ [36, 37, 39, 40, 41, 42, 43, 45, 46], st_A S' (ky 0 q) = st_A S (ky 0 q) := fun q hq => eA q ((by decide : ∀ q ∈ [36, 37, 39, 40, 41, 42, 43, 45, 46], 18 ≤ q) q hq) ((by decide : ∀ q ∈ [36, 37, 39, 40, 41, 42, 43, 45, 46], q < 47) q hq)
  refine ⟨h.1, h.2.1, ?_, ?_, ?_, ?_, ?_, fun a ha => ?_, ?_, h.2.2.2.2.2.2.2.2.2⟩
  · rw [eI]
    exact h.2.2.1
  · rw [eA 24 (by decide) (by decide), eA 25 (by decide) (by decide), eA 28 (by decide) (by decide), eA 31 (by decide) (by decide), eA 34 (by decide) (by decide), eA 35 (by decide) (by decide)]
    exact h.2.2.2.1
  · rw [eA 26 (by decide) (by decide), eA 27 (by decide) (by decide)]
    exact h.2.2.2.2.1
  · rw [eA 29 (by decide) (by decide), eA 30 (by decide) (by decide)]
    exact h.2.2.2.2.2.1
  · rw [eA 32 (by decide) (by decide), eA 33 (by decide) (by decide)]
    exact h.2.2.2.2.2.2.1
  · intro S2 a0 a1
    exact h.2.2.2.2.2.2.2.1 a ha S2 (fun q hq j b1 b2 => (a0 q hq j b1 b2).trans (congrFun (eL q hq) j)) (a1.trans eI)
  · intro S2 a0 a1
    exact h.2.2.2.2.2.2.2.2.1 S2 (fun q hq j b1 b2 => (a0 q hq j b1 b2).trans (congrFun (eL q hq) j)) (a1.trans eI)
theorem cM_on {K : Nat → Prop} {p : Nat → Nat → Prop} {a b c d : Nat} {S S' : St} {T : TX} {X : CT} (h : cMp p a b c d S T X) (o : on K S S') (ha : ¬ K (ky 0 a)) (hb : ¬ K (ky 0 b)) (hc : ¬ K (ky 0 c)) (hd : ¬ K (ky 0 d)) : cMp p a b c d S' T X := by
  refine ⟨h.1, ?_, ?_⟩
  · rw [(o _ hb).1]
    exact h.2.1
  · rw [(o _ ha).2.1, (o _ hc).2.1, (o _ hd).2.1]
    exact h.2.2
abbrev fsL : List Nat := [49, 50, 51]
abbrev fsC : List Nat := [49, 50, 51, 56, 57, 58, 59]
theorem fsL_C (q : Nat) (h : kM fsL q) : kM fsC q := by
  obtain ⟨f, hf, e⟩ := h
  exact ⟨f, (by decide : ∀ f ∈ fsL, f ∈ fsC) f hf, e⟩
theorem tM_fsC {s : Nat} {S S' : St} {T : TX} (h : tM s S T) (o : on (kM fsC) S S') : tM s S' T := tM_on h o (fun f h1 h2 => kM_n (by decide) (by omega) (fun q => by
  have := (by decide : ∀ f ∈ fsC, 49 ≤ f) f q
  omega))
theorem cM_fsL {p : Nat → Nat → Prop} {S S' : St} {T : TX} {X : CT} (h : cMp p 56 57 58 59 S T X) (o : on (kM fsL) S S') : cMp p 56 57 58 59 S' T X := cM_on h o (kM_n (by decide) (by decide) (by decide)) (kM_n (by decide) (by decide) (by decide)) (kM_n (by decide) (by decide) (by decide)) (kM_n (by decide) (by decide) (by decide))
theorem on_V (S : St) (f g : Nat → Int32) (x : Int32) : on (kM fsL) S (up_V S f g x) := on_trans (on_trans (on_A S _ f ⟨49, by decide, rfl⟩) (on_A _ _ g ⟨50, by decide, rfl⟩)) (on_I _ _ x ⟨51, by decide, rfl⟩)
theorem cM_p {p p' : Nat → Nat → Prop} {a b c d : Nat} {S : St} {T : TX} {X : CT} (h : cMp p a b c d S T X) (hp : ∀ t m, t ≤ cn X → m < tn T 3 → p' t m → p t m) : cMp p' a b c d S T X := ⟨h.1, h.2.1, fun t ht => ⟨(h.2.2.1 t ht).1, fun m hm => ⟨((h.2.2.1 t ht).2 m hm).1, ((h.2.2.1 t ht).2 m hm).2.1, fun q => ((h.2.2.1 t ht).2 m hm).2.2 (hp t m ht hm q)⟩⟩, h.2.2.2⟩
theorem M_putLate {p : Nat → Nat → Prop} {S : St} {T : TX} {X : CT} (hb : tb T) (h : cMp p 56 57 58 59 S T X) {t m : Nat} (hm : m < tn T 3) : cMp (fun t' m' => p t' m' ∨ (t' = t ∧ m' = m)) 56 57 58 59 (up_A S (ky 0 56) (upd (st_A S (ky 0 56)) (36 * t + 28 + m) (nI (cf X 3 t m)))) T X := by
  have h8 := hb.2.2.2.1
  have h6 := hb.2.2.1
  have e : ∀ f, f < 100 → f ≠ 56 → st_A (up_A S (ky 0 56) (upd (st_A S (ky 0 56)) (36 * t + 28 + m) (nI (cf X 3 t m)))) (ky 0 f) = st_A S (ky 0 f) := fun f hf hn => by rw [gA_A, if_neg (ky_ne (by omega) (by decide) (by omega))]
  refine ⟨h.1, h.2.1, fun t' ht' => ?_, ?_⟩
  · rw [gA_A, if_pos rfl]
    have g := h.2.2.1 t' ht'
    refine ⟨fun i hi => ?_, fun m' hm' => ⟨?_, ?_, fun hp => ?_⟩⟩
    · rw [upd_n (by omega), upd_n (by omega)]
      exact g.1 i hi
    · rw [upd_n (by omega)]
      exact (g.2 m' hm').1
    · rw [upd_n (by omega)]
      exact (g.2 m' hm').2.1
    · rw [upd_e]
      by_cases hq : 36 * t' + 28 + m' = 36 * t + 28 + m
      · have q1 : t' = t := by omega
        have q2 : m' = m := by omega
        rw [if_pos hq, q1, q2]
      · rw [if_neg hq]
        rcases hp with hp | ⟨q1, q2⟩
        · exact (g.2 m' hm').2.2 hp
        · rw [q1, q2] at hq
          exact absurd rfl hq
  · rw [e 58 (by decide) (by decide), e 59 (by decide) (by decide)]
    exact h.2.2.2
theorem i8 (s m : Nat) : (8 : Int32) * nI s + nI m = nI (8 * s + m) := by rw [show (8 : Int32) = nI 8 from rfl, pk_mul, nI_add]
theorem i6' (t m : Nat) : (36 : Int32) * nI t + 6 + nI m = nI (36 * t + 6 + m) := i36 t 6 m
theorem M_owner {p : Nat → Nat → Prop} {s : Nat} {S : St} {T : TX} {X : CT} (hT : tM s S T) (h : cMp p 56 57 58 59 S T X) {m : Nat} (hm : m < tn T 3) : f_X6_rankOfOwner S (nI m) = some (nI (cf X 1 (cn X) (tf T 5 m))) := by
  have h1 := h.1.1
  have h8 := hT.1.2.2.2.1
  have h6 := hT.1.2.2.1
  have hs := hT.2.1
  have ho := (hT.1.2.2.2.2.2.2.2.2 m hm).2
  unfold f_X6_rankOfOwner
  rw [hT.2.2.1, i8, chk_t (ib_nI (by omega) (by decide)), nI_clamp (by omega), (hT.2.2.2.2.2.2.1 m hm).2, h.2.1, i6', chk_t (ib_nI (by omega) (by decide)), nI_clamp (by omega), ((h.2.2.1 (cn X) (Nat.le_refl _)).1 _ ho).2]
