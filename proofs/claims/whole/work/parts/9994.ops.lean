/-! WHAT A TEXT TELLS, tell by tell; the reference's small steps with the second sort of fault. -/
/-- letters of a name -/
def vL (l : List Nat) : Prop := (∀ x, x ∈ l → 1 ≤ x ∧ x < 27) ∧ l.length ≤ 8
theorem fr_lt {b : Nat} (hb : 0 < b) : ∀ l : List Nat, (∀ x, x ∈ l → x < b) → l.foldr (fun x c => b * c + x) 0 < b ^ l.length
  | [], _ => by show 0 < 1; omega
  | x :: l, h => by
    have h1 := fr_lt hb l (fun y hy => h y (List.mem_cons_of_mem _ hy))
    have h2 := h x (List.mem_cons_self ..)
    show b * (l.foldr (fun x c => b * c + x) 0) + x < b ^ (l.length + 1)
    rw [Nat.pow_succ, Nat.mul_comm (b ^ l.length) b]
    have h3 : b * (l.foldr (fun x c => b * c + x) 0) + b ≤ b * b ^ l.length := by
      rw [← Nat.mul_succ]
      exact Nat.mul_le_mul_left _ h1
    omega
theorem code_lt {b : Nat} (hb : 27 ≤ b) (h32 : b ≤ 32) {l : List Nat} (h : vL l) : codeB b l < 2 ^ 63 := by
  rw [codeB_r]
  refine Nat.lt_of_lt_of_le (fr_lt (by omega) _ (fun x hx => by have := h.1 x (List.mem_reverse.mp hx); omega)) ?_
  rw [List.length_reverse]
  exact Nat.le_trans (Nat.pow_le_pow_left h32 _) (Nat.le_trans (Nat.pow_le_pow_right (by decide) h.2) (by decide))
theorem code_eq {b : Nat} (hb : 27 ≤ b) (h32 : b ≤ 32) {l l' : List Nat} (h : vL l) (h' : vL l') : lg_cmp (lN (codeB b l)) (lN (codeB b l')) = 0 ↔ l = l' := by
  rw [lg_eq (code_lt hb h32 h) (code_lt hb h32 h')]
  exact ⟨fun e => codeB_inj (fun x hx => by have := h.1 x hx; omega) (fun x hx => by have := h'.1 x hx; omega) e, fun e => by rw [e]⟩
theorem tk_vL {B : Nat → Nat} {n t : Nat} (h : tkK B n t = 1) : vL (tkL B n t) := by
  unfold tkK at h
  by_cases c : n ≤ ps B n t
  · rw [if_pos c] at h; omega
  · rw [if_neg c] at h
    have hi : ps B n t < n := by omega
    unfold kd at h
    have h2 := sg_ge (B (ps B n t))
    cases hl : isl (B (ps B n t)) with
    | true =>
      rw [if_pos hl] at h
      split at h
      · omega
      · have h8 := te_l hi hl
        refine ⟨fun x hx => ?_, ?_⟩
        · have := ltr_r _ h8 x hx; omega
        · show (ltr B _ _).length ≤ 8
          rw [ltr_l]; omega
    | false =>
      rw [if_neg (by rw [hl]; decide)] at h
      split at h
      · split at h <;> omega
      · omega
theorem ps_lt {B : Nat → Nat} {n t : Nat} (h : ps B n t < n) : ps B n t < ps B n (t + 1) := by
  have h1 : ps B n t + 1 ≤ te B n (ps B n t) := adv_lo (by omega)
  have h2 : te B n (ps B n t) ≤ n := adv_hi (by omega)
  have h3 : te B n (ps B n t) ≤ nx B n (te B n (ps B n t)) := adv_lo h2
  show _ < nx B n (te B n (ps B n t))
  omega
theorem ps_mono {B : Nat → Nat} {n u : Nat} : ∀ {t : Nat}, u < t → (∀ v, v < t → tkK B n v ≠ 0) → ps B n u < ps B n t
  | 0, h, _ => absurd h (Nat.not_lt_zero _)
  | t + 1, h, hk => by
    have h1 : ps B n t < n := by
      have := hk t (Nat.lt_succ_self t)
      rw [Ne, tkK_0] at this
      omega
    have h2 := ps_lt h1
    by_cases c : u = t
    · rw [c]; exact h2
    · have := ps_mono (B := B) (n := n) (u := u) (t := t) (by omega) (fun v hv => hk v (by omega))
      omega
/-- the first of the faults stays -/
def ow (w x : Option (Nat × Nat)) : Option (Nat × Nat) := match w with
  | some a => some a
  | none => x
theorem ow_n (x : Option (Nat × Nat)) : ow none x = x := rfl
theorem ow_s (a : Nat × Nat) (x : Option (Nat × Nat)) : ow (some a) x = some a := rfl
theorem ow_N (w : Option (Nat × Nat)) : ow w none = w := by cases w <;> rfl
theorem ow_a (a b c : Option (Nat × Nat)) : ow (ow a b) c = ow a (ow b c) := by cases a <;> rfl
def wst (B : Nat → Nat) (n : Nat) (S : St) (w : Option (Nat × Nat)) : Prop := match w with
  | none => st_I S (ky 0 15) = 0
  | some a => (3 ≤ a.1 ∧ a.1 ≤ 5) ∧ st_I S (ky 0 15) = nI a.1 ∧ st_I S (ky 0 16) = nI (ps B n a.2)
abbrev fsWr : List Nat := [11, 13, 14, 15, 16]
abbrev NL : Type := Nat → List Nat × Nat × Nat
def dupF (N : Nat) (nl : NL) (l : List Nat) (u : Nat) : Option (Nat × Nat) := if (s_fst (fun j => decide ((nl j).1 = l)) N).isSome = true then some (3, u) else none
def lkN (N : Nat) (nl : NL) (l : List Nat) (s : Nat) : Option Nat := s_fst (fun j => decide ((nl j).1 = l ∧ (nl j).2.1 = s)) N
def lk (N : Nat) (nl : NL) (l : List Nat) (s : Nat) : Option Nat := match lkN N nl l s with
  | none => none
  | some j => some (nl j).2.2
def lkF (N : Nat) (nl : NL) (l : List Nat) (s u : Nat) : Option (Nat × Nat) := if (lkN N nl l s).isSome = true then none else some (4, u)
def numF (m v u : Nat) : Option (Nat × Nat) := if m < v then some (5, u) else none
def NMS (S : St) (N : Nat) (nl : NL) : Prop := st_I S (ky 0 20) = nI N ∧ N ≤ 22 ∧ ∀ j, j < N → st_L S (ky 0 21) j = lN (codeB 27 (nl j).1) ∧ vL (nl j).1 ∧ st_A S (ky 0 22) j = nI (nl j).2.1 ∧ st_A S (ky 0 23) j = nI (nl j).2.2 ∧ (nl j).2.1 < 3 ∧ (nl j).2.2 < 8 ∧ ((nl j).2.1 = 1 → (nl j).2.2 < 6)
theorem NMS_on {S S' : St} {N : Nat} {nl : NL} {fs : List Nat} (h : NMS S N nl) (hf : ∀ f ∈ fs, f < 100 ∧ (f < 20 ∨ 23 < f)) (o : on (kM fs) S S') : NMS S' N nl := by
  have g : ∀ f, 20 ≤ f → f ≤ 23 → ¬ kM fs (ky 0 f) := fun f h1 h2 => kM_n (fun f hf2 => (hf f hf2).1) (by omega) (fun z => by have := hf f z; omega)
  refine ⟨?_, h.2.1, ?_⟩
  · rw [(o _ (g 20 (by decide) (by decide))).1]; exact h.1
  · rw [(o _ (g 21 (by decide) (by decide))).2.2.2.1, (o _ (g 22 (by decide) (by decide))).2.1, (o _ (g 23 (by decide) (by decide))).2.1]
    exact h.2.2
section OPS
variable {B : Nat → Nat} {n : Nat} {r0 : Nat × Nat}
/-- a fault, or the text goes on from token t in state q; E: what has been read -/
def FO (B : Nat → Nat) (n : Nat) (r0 : Nat × Nat) (S : St) (t : Nat) (q : QS) (w : Option (Nat × Nat)) (E : Prop) : Prop := fltM B n S r0 ∨ (E ∧ atM B n S t ∧ r0 = rn (tkK B n) t q ∧ wst B n S w ∧ ∀ a, w = some a → a.2 < t)
theorem wst_on {S S' : St} {w : Option (Nat × Nat)} {fs : List Nat} (h : wst B n S w) (hf : ∀ f ∈ fs, f < 100 ∧ f ≠ 15 ∧ f ≠ 16) (o : on (kM fs) S S') : wst B n S' w := by
  have e15 := (o _ (kM_n (fun f hf2 => (hf f hf2).1) (by decide) (fun z => (hf 15 z).2.1 rfl))).1
  have e16 := (o _ (kM_n (fun f hf2 => (hf f hf2).1) (by decide) (fun z => (hf 16 z).2.2 rfl))).1
  cases w with
  | none => exact e15.trans h
  | some a => exact ⟨h.1, e15.trans h.2.1, e16.trans h.2.2⟩
theorem FO_on {S S' : St} {t : Nat} {q : QS} {w : Option (Nat × Nat)} {E : Prop} {fs : List Nat} (h : FO B n r0 S t q w E) (hf : ∀ f ∈ fs, f < 100 ∧ f ≠ 11 ∧ f ≠ 13 ∧ f ≠ 14 ∧ f ≠ 15 ∧ f ≠ 16 ∧ (f < 5 ∨ 8 < f)) (o : on (kM fs) S S') : FO B n r0 S' t q w E := by
  rcases h with f | ⟨e, a, r, s, l⟩
  · exact Or.inl (flt_on f (fun f z => by have := hf f z; omega) o)
  · exact Or.inr ⟨e, atM_on (fun f z => by have := hf f z; omega) a o, r, wst_on s (fun f z => by have := hf f z; omega) o, l⟩
theorem FO_E {S : St} {t : Nat} {q : QS} {w : Option (Nat × Nat)} {E E' : Prop} (h : FO B n r0 S t q w E) (g : E → E') : FO B n r0 S t q w E' := h.elim Or.inl (fun ⟨e, z⟩ => Or.inr ⟨g e, z⟩)
theorem M_wrong {S : St} {w : Option (Nat × Nat)} {u k : Nat} (hn : n ≤ 2000) (h0 : st_I S (ky 0 13) = 0) (hT : tkM B n S) (hu : u ≤ 400) (hz : ∀ v, v ≤ u → tkK B n v ≠ 0) (hw : wst B n S w) (ho : ∀ a, w = some a → a.2 < u ∨ a.2 = u ∧ a.1 ≤ k) (hk : 3 ≤ k ∧ k ≤ 5) : ∃ S', f_X6_wrong S (nI k) (nI u) = some S' ∧ on (kM [15, 16]) S S' ∧ wst B n S' (ow w (some (k, u))) := by
  have e6 : st_A S (ky 0 6) u = nI (ps B n u) := (hT.2 u hu (fun v hv => hz v (by omega))).2.1
  have hp : ∀ v, v ≤ u → ps B n v < n := fun v hv => by
    have := hz v hv
    rw [Ne, tkK_0] at this
    omega
  have hpu := hp u (Nat.le_refl _)
  have j46 : ∃ S', f_X6_wrong_J46 S (nI k) (nI (ps B n u)) = some S' ∧ on (kM [15, 16]) S S' ∧ wst B n S' (some (k, u)) := ⟨_, rfl, on_trans (on_I _ _ _ ⟨15, by decide, rfl⟩) (on_I _ _ _ ⟨16, by decide, rfl⟩), hk, rfl, rfl⟩
  unfold f_X6_wrong
  rw [chk_t (ib_nI (by omega) (by decide)), nI_clamp (by omega), e6, h0, if_neg (show ¬ (0 : Int32) < 0 by decide)]
  cases w with
  | none =>
    have e15 : st_I S (ky 0 15) = 0 := hw
    rw [e15, if_pos rfl]
    exact j46
  | some a =>
    obtain ⟨h1, h2, h3⟩ := hw
    rw [h2, h3, if_neg (nI_ne0 (by omega) (by omega))]
    rcases ho a rfl with c | ⟨c, c2⟩
    · have hm := ps_mono (B := B) (n := n) c (fun v hv => hz v (by omega))
      rw [if_pos (nI_lt hm (by omega))]
      exact ⟨S, rfl, on_refl _ _, h1, h2, h3⟩
    · rw [c, if_neg (nI_nlt (Nat.le_refl _) (by omega)), if_pos rfl, if_neg (nI_nlt c2 (by omega))]
      exact ⟨S, rfl, on_refl _ _, h1, h2, h3⟩
theorem op_must {S : St} {t k : Nat} {q q' : QS} {w : Option (Nat × Nat)} {E : Prop} (h : FO B n r0 S t q w E) (hk0 : k ≠ 0) (hk : k < 100) (h0 : q.1 ≠ 0) (hg : ∀ j, j ≠ 0 → goQ q j = if j = k then some q' else none) (hm : many q' = false) : ∃ S', f_X6_must S (nI k) = some S' ∧ on (kM fsS) S S' ∧ FO B n r0 S' (t + 1) q' w (E ∧ tkK B n t = k) := by
  rcases h with f | ⟨e, a, r, s, l⟩
  · exact ⟨S, M_mustF f _, on_refl _ _, Or.inl f⟩
  · rcases M_must a hk0 hk h0 hg hm with ⟨S', e1, o1, f1⟩ | ⟨h4, k5, e1, a1, r1⟩
    · exact ⟨S', e1, o1, Or.inl (by rw [r]; exact f1)⟩
    · exact ⟨_, e1, on_I _ _ _ ⟨11, by decide, rfl⟩, Or.inr ⟨⟨e, k5⟩, a1, by rw [r, r1], wst_on (fs := [11]) s (by decide) (on_I _ _ _ ⟨11, by decide, rfl⟩), fun x hx => by have := l x hx; omega⟩⟩
theorem on_W {S S' : St} (o : on (kM fsS) S S') : on (kM fsWr) S S' := kM_mono (by decide) o
theorem s_fst_or (p : Nat → Bool) : ∀ k, (s_fst p (k + 1)).isSome = ((s_fst p k).isSome || p k) := fun k => by
  cases h : s_fst p k with
  | none =>
    rw [s_fst_succ h]
    cases p k <;> rfl
  | some i =>
    rw [s_fst_stay h]
    rfl
theorem op_named {S : St} {t N : Nat} {q q' : QS} {w : Option (Nat × Nat)} {E : Prop} {nl : NL} (hn : n ≤ 2000) (h : FO B n r0 S t q w E) (hN : NMS S N nl) (h0 : q.1 ≠ 0) (hg : ∀ j, j ≠ 0 → goQ q j = if j = 1 then some q' else none) (hm : many q' = false) : ∃ x S', f_X6_named S = some (x, S') ∧ on (kM fsWr) S S' ∧ FO B n r0 S' (t + 1) q' (ow w (dupF N nl (tkL B n t) t)) ((E ∧ tkK B n t = 1) ∧ x = nI t) := by
  have e11 : fltM B n S r0 ∨ st_I S (ky 0 11) = nI t := h.elim Or.inl (fun z => Or.inr z.2.1.2.1)
  obtain ⟨S1, e1, o1, d1⟩ := op_must h (by decide) (by decide) h0 hg hm
  have hN1 := NMS_on hN (by decide) o1
  unfold f_X6_named
  rw [show f_X6_must S (1 : Int32) = _ from e1, bnd]
  rcases d1 with f | ⟨⟨e, k1⟩, a, r, s, l⟩
  · have lp : iter (f_X6_named_L12 (st_I S (ky 0 11))) FU ((0 : Int32), S1) = some (st_I S (ky 0 11), S1) := by
      refine iter_FU (fun _ => ((0 : Int32), S1)) 0 (by decide) (fun i hi => absurd hi (Nat.not_lt_zero _)) ?_
      unfold f_X6_named_L12
      dsimp only
      rw [if_neg (flt_p f).2.1]
      by_cases c : st_I S1 (ky 0 20) ≤ 0
      · rw [if_pos c]
      · rw [if_neg c]
    rw [lp]
    exact ⟨_, _, rfl, on_W o1, Or.inl f⟩
  · have e11' : st_I S (ky 0 11) = nI t := by
      rcases e11 with f | e
      · rcases h with f2 | z
        · exact absurd a.1 (fun z => by
            have : f_X6_must S (nI 1) = some S := M_mustF f _
            rw [e1] at this
            have e2 := Option.some.inj this
            rw [e2] at z
            exact (flt_p f).2.1 z)
        · exact z.2.1.2.1
      · exact e
    have hz : ∀ v, v ≤ t → tkK B n v ≠ 0 := fun v hv => a.2.2.2.1 v (by omega)
    have ht4 : t ≤ 400 := by have := a.2.2.1; omega
    rw [e11']
    have main : ∃ z, iter (f_X6_named_L12 (nI t)) FU ((0 : Int32), S1) = some z ∧ (z.1 = nI t ∧ on (kM [15, 16]) S1 z.2 ∧ wst B n z.2 (ow w (dupF N nl (tkL B n t) t))) := by
      refine iter_invF (fun k z => ∃ Z, z = (nI k, Z) ∧ on (kM [15, 16]) S1 Z ∧ wst B n Z (ow w (dupF k nl (tkL B n t) t))) _ N (by have := hN.2.1; omega) ⟨S1, rfl, on_refl _ _, by
        show wst B n S1 (ow w none)
        rw [ow_N]
        exact s⟩ ?_ ?_
      · rintro k z hk ⟨Z, rfl, o, sZ⟩
        have hNZ := NMS_on hN1 (by decide) o
        have aZ := atM_on (by decide) a o
        have hk2 := hN.2.1
        obtain ⟨x21, xv, x22, x23, x3, x8, x6⟩ := hNZ.2.2 k hk
        have e8 : st_L Z (ky 0 8) t = lN (codeB 27 (tkL B n t)) := (aZ.2.2.2.2.2 t ht4 (fun v hv => hz v (by omega))).2.2.2 k1
        refine Or.inl ?_
        unfold f_X6_named_L12
        dsimp only
        rw [hNZ.1, if_neg (nI_ge hk (by omega)), aZ.1, if_pos rfl, chk_t (ib_nI (by omega) (by decide)), chk_t (ib_nI (by omega) (by decide)), nI_clamp (by omega), nI_clamp (by omega), x21, e8]
        by_cases c : (nl k).1 = tkL B n t
        · rw [if_pos ((code_eq (by decide) (by decide) xv (tk_vL k1)).mpr c)]
          have ho : ∀ x, ow w (dupF k nl (tkL B n t) t) = some x → x.2 < t ∨ x.2 = t ∧ x.1 ≤ 3 := fun x hx => by
            cases w with
            | some y =>
              have hy : y = x := Option.some.inj hx
              rw [← hy]
              rcases h with f | z
              · exact absurd aZ.1 (fun _ => by
                  have : f_X6_must S (nI 1) = some S := M_mustF f _
                  rw [e1] at this
                  have e2 := Option.some.inj this
                  exact (flt_p f).2.1 (by rw [← e2]; exact a.1))
              · exact Or.inl (z.2.2.2.2 y rfl)
            | none =>
              have hx2 : dupF k nl (tkL B n t) t = some x := hx
              unfold dupF at hx2
              split at hx2
              · cases hx2
                exact Or.inr ⟨rfl, Nat.le_refl _⟩
              · cases hx2
          obtain ⟨Z', e2, o2, s2⟩ := M_wrong hn aZ.1 aZ.2.2.2.2 ht4 hz sZ ho (show 3 ≤ 3 ∧ 3 ≤ 5 by decide)
          rw [show f_X6_wrong Z (3 : Int32) (nI t) = _ from e2, bnd, nI_1]
          refine ⟨_, rfl, Z', rfl, on_trans o o2, ?_⟩
          have eq : ow (ow w (dupF k nl (tkL B n t) t)) (some (3, t)) = ow w (dupF (k + 1) nl (tkL B n t) t) := by
            rw [ow_a]
            congr 1
            have : dupF (k + 1) nl (tkL B n t) t = some (3, t) := by
              unfold dupF
              rw [s_fst_or, if_pos (by rw [decide_eq_true c, Bool.or_true])]
            rw [this]
            unfold dupF
            split <;> rfl
          rw [← eq]
          exact s2
        · rw [if_neg (fun z => c ((code_eq (by decide) (by decide) xv (tk_vL k1)).mp z)), nI_1]
          refine ⟨_, rfl, Z, rfl, o, ?_⟩
          have eq : dupF (k + 1) nl (tkL B n t) t = dupF k nl (tkL B n t) t := by
            unfold dupF
            rw [s_fst_or, decide_eq_false c, Bool.or_false]
          rw [eq]
          exact sZ
      · rintro z ⟨Z, rfl, o, sZ⟩
        have hNZ := NMS_on hN1 (by decide) o
        refine ⟨(nI t, Z), ?_, rfl, o, sZ⟩
        unfold f_X6_named_L12
        dsimp only
        rw [hNZ.1, if_pos (Int32.le_refl _)]
    obtain ⟨⟨x, Z⟩, e3, rfl, o3, s3⟩ := main
    rw [e3]
    refine ⟨_, _, rfl, on_trans (on_W o1) (kM_mono (by decide) o3), Or.inr ⟨⟨⟨e, k1⟩, rfl⟩, atM_on (by decide) a o3, r, s3, fun x hx => ?_⟩⟩
    cases w with
    | some y =>
      have hy : y = x := Option.some.inj hx
      rw [← hy]
      exact l y rfl
    | none =>
      have hx2 : dupF N nl (tkL B n t) t = some x := hx
      unfold dupF at hx2
      split at hx2
      · cases hx2
        exact Nat.lt_succ_self t
      · cases hx2
end OPS
