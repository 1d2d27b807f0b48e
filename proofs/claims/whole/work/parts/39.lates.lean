/-! THE ROW OF LATENESS. -/
def okL (T : TX) (X : CT) : Prop := ∀ m, m < tn T 3 → cf X 3 (cn X) m = s_late T X m (cf X 1 (cn X) (tf T 5 m))
theorem C_putLate {p : Nat → Nat → Prop} {k kt : Nat} {S : St} {T : TX} {X : CT} (hb : tb T) (h : cCp p k kt S T X) {t m : Nat} (hm : m < tn T 3) : cCp (fun t' m' => p t' m' ∨ (t' = t ∧ m' = m)) k kt (up_A S (ky k 5) (upd (st_A S (ky k 5)) (t * 8 + m) (nI (cf X 3 t m)))) T X := by
  have h8 := hb.2.2.2.1
  have e : ∀ f, f < 9 → f ≠ 5 → st_A (up_A S (ky k 5) (upd (st_A S (ky k 5)) (t * 8 + m) (nI (cf X 3 t m)))) (ky k f) = st_A S (ky k f) := fun f hf hn => by rw [gA_A, if_neg (ky_ne (by omega) (by decide) (by omega))]
  refine ⟨h.1, h.2.1, h.2.2.1, h.2.2.2.1, fun t' ht' => ?_, fun m' hm' => ?_⟩
  · rw [e 2 (by decide) (by decide), e 3 (by decide) (by decide), e 4 (by decide) (by decide), e 6 (by decide) (by decide), gA_A, if_pos rfl]
    have g := h.2.2.2.2.1 t' ht'
    refine ⟨g.1, fun m' hm' => ⟨(g.2.1 m' hm').1, fun hp => ?_⟩, g.2.2⟩
    rw [upd_e]
    by_cases hq : t' * 8 + m' = t * 8 + m
    · have q1 : t' = t := by omega
      have q2 : m' = m := by omega
      rw [if_pos hq, q1, q2]
    · rw [if_neg hq]
      rcases hp with hp | ⟨q1, q2⟩
      · exact (g.2.1 m' hm').2 hp
      · rw [q1, q2] at hq
        exact absurd rfl hq
  · rw [e 7 (by decide) (by decide), e 8 (by decide) (by decide)]
    exact h.2.2.2.2.2 m' hm'
theorem cC_p {p p' : Nat → Nat → Prop} {k kt : Nat} {S : St} {T : TX} {X : CT} (h : cCp p k kt S T X) (hp : ∀ t m, t ≤ cn X → m < tn T 3 → p' t m → p t m) : cCp p' k kt S T X := ⟨h.1, h.2.1, h.2.2.1, h.2.2.2.1, fun t ht => ⟨(h.2.2.2.2.1 t ht).1, fun m hm => ⟨((h.2.2.2.2.1 t ht).2.1 m hm).1, fun q => ((h.2.2.2.2.1 t ht).2.1 m hm).2 (hp t m ht hm q)⟩, (h.2.2.2.2.1 t ht).2.2⟩, h.2.2.2.2.2⟩
theorem C_owner {kt : Nat} {S : St} {T : TX} (hT : tC kt S T) {m : Nat} (hm : m < tn T 3) : f_X4_ownerOf kt S (nI m) = some (nI (tf T 5 m)) := by
  have h8 := hT.1.2.2.2.1
  have hc : cl_C kt = 4 := by rcases hT.2.1 with rfl | rfl <;> rfl
  unfold f_X4_ownerOf
  rw [at_nI (lnC hc (by decide) (n := 8) rfl) (by omega) (by decide), (hT.2.2.2.2.2.1 m hm).2]
  rfl
theorem C_setLates {k kt : Nat} {S : St} {T : TX} {X : CT} (hT : tC kt S T) (h : cCp (fun t _ => t < cn X) k kt S T X) (hl : okL T X) : ∃ S', f_X0_setLates k S = some S' ∧ tC kt S' T ∧ cC k kt S' T X ∧ on (kC k kt) S S' := by
  have hk := h.2.1
  have h8 := hT.1.2.2.2.1
  have h1 := h.1.1
  have hi := iter_invF (step := f_X0_setLates_L2 k) (x := ((0 : Int32), S)) (fun i z => z.1 = nI i ∧ tC kt z.2 T ∧ cCp (fun t m => t < cn X ∨ m < i) k kt z.2 T X ∧ on (kC k kt) S z.2) (fun S' => tC kt S' T ∧ cC k kt S' T X ∧ on (kC k kt) S S') (tn T 3) (by omega) ⟨rfl, hT, cC_p h (fun t m _ _ q => by omega), on_refl _ _⟩ ?_ ?_
  · exact hi
  · rintro i ⟨j, z⟩ hlt ⟨rfl, zT, zC, zo⟩
    have ht := Nat.le_refl (cn X)
    have ho := (hT.1.2.2.2.2.2.2.2.2 i hlt).2
    left
    obtain ⟨f, g, hw⟩ := C_lateWith zT zC (m := i) (rk := cf X 1 (cn X) (tf T 5 i)) hlt
    have oL := on_law kt z f g
    have c2 := cC_kL zT zC oL
    have t2 := tC_kC hk zT (on_mono (fun q hq => Or.inr hq) oL)
    have c3 := C_putLate hT.1 c2 (t := cn X) (m := i) hlt
    rw [hl i hlt] at c3
    refine ⟨(nI (i + 1), up_A (up_A (up_A z (ky (kt + 2) 6) f) (ky (kt + 2) 5) g) (ky k 5) (upd (st_A (up_A (up_A z (ky (kt + 2) 6) f) (ky (kt + 2) 5) g) (ky k 5)) (cn X * 8 + i) (nI (s_late T X i (cf X 1 (cn X) (tf T 5 i)))))), ?_, rfl, ?_, cC_p c3 (fun t m a b q => by omega), ?_⟩
    rotate_left
    · exact tC_kC hk t2 (on_A _ (ky k 5) _ (Or.inl ⟨5, by decide, by decide, rfl⟩))
    · exact on_trans zo (on_trans (on_mono (fun q hq => Or.inr hq) oL) (on_A _ (ky k 5) _ (Or.inl ⟨5, by decide, by decide, rfl⟩)))
    · show f_X0_setLates_L2 k (nI i, z) = _
      change tC kt z T at zT
      change cCp _ k kt z T X at zC
      unfold f_X0_setLates_L2
      rw [chk_t (cC_T zT zC), zC.2.2.1, zT.2.2.1 3 (by decide), if_neg (show ¬ nI (tn T 3) ≤ nI i from nI_ge hlt (by omega)), chk_t zT.2.1, C_owner zT hlt, Option.bind_some, zC.2.2.2.1, C_rank zT zC ho ht, Option.bind_some, hw, Option.bind_some, show (8 : Int32) = nI 8 from rfl, ix_mul, put_nI (lnC hk (by decide) (n := 2400) rfl) (by omega) (by decide), Option.bind_some]
      rw [nI_succ]
  · rintro ⟨j, z⟩ ⟨rfl, zT, zC, zo⟩
    refine ⟨z, ?_, zT, cC_p zC (fun t m _ b _ => Or.inr b), zo⟩
    unfold f_X0_setLates_L2
    rw [chk_t (cC_T zT zC), zC.2.2.1, zT.2.2.1 3 (by decide), if_pos (show nI (tn T 3) ≤ nI (tn T 3) from nI_le (Nat.le_refl _) (by omega))]
