/-! LATENESS, both sides. -/
def vv (a b c d e f : Int32) : Nat → Int32 := fun i => if i = 0 then a else if i = 1 then b else if i = 2 then c else if i = 3 then d else if i = 4 then e else f
def clN (x : Int32) : Nat := if x < 0 then 0 else if 240 < x then 240 else x.toNatClampNeg
def s_late (T : TX) (X : CT) (m rk : Nat) : Nat := clN (tg T 6 (vv (nI (cn X)) (nI (cf X 2 (cn X) m)) (nI rk) (nI m) (nI (s_ways T (cf X 2 (cn X) m))) (nI (pop (s_men T X (cf X 2 (cn X) m) (cn X))))))
theorem clN_le (x : Int32) : clN x ≤ 240 := by
  unfold clN
  split
  · omega
  · split
    · omega
    · rename_i h1 h2
      obtain ⟨j, hj, rfl⟩ := nI_of h1
      rw [nI_clamp hj]
      rcases Nat.lt_or_ge 240 j with h | h
      · exact absurd (nI_lt (a := 240) h hj) h2
      · exact h
theorem clC (x : Int32) : i_max (0 : Int32) (i_min x (240 : Int32)) = nI (clN x) := by
  unfold clN
  by_cases h1 : x < 0
  · rw [if_pos h1]
    have e : i_min x 240 = x := if_neg (fun q => by
      have := Int32.lt_trans q h1
      exact absurd this (by decide))
    rw [e]
    exact if_neg (fun q => by
      have := Int32.lt_trans q h1
      exact absurd this (by decide))
  · obtain ⟨j, hj, rfl⟩ := nI_of h1
    rw [if_neg h1]
    by_cases h2 : (240 : Int32) < nI j
    · rw [if_pos h2]
      have e : i_min (nI j) 240 = 240 := if_pos h2
      rw [e]
      rfl
    · rw [if_neg h2, nI_clamp hj]
      have e : i_min (nI j) 240 = nI j := if_neg h2
      rw [e]
      show (if (0 : Int32) < nI j then nI j else 0) = nI j
      by_cases h3 : (0 : Int32) < nI j
      · rw [if_pos h3]
      · rw [if_neg h3]
        have : j = 0 := by
          rcases Nat.eq_zero_or_pos j with q | q
          · exact q
          · exact absurd (nI_lt (a := 0) q hj) h3
        rw [this]
        rfl
theorem clM (v : Int32) {α : Type} (f : Int32 → α) : (if 0 ≤ v then (if v ≤ (240 : Int32) then f v else f 240) else f 0) = f (nI (clN v)) := by
  unfold clN
  by_cases h1 : v < 0
  · rw [if_pos h1, if_neg (Int32.not_le.mpr h1)]
    rfl
  · obtain ⟨j, hj, rfl⟩ := nI_of h1
    rw [if_neg h1, if_pos (nI_pos' hj)]
    by_cases h2 : (240 : Int32) < nI j
    · rw [if_pos h2, if_neg (Int32.not_le.mpr h2)]
      rfl
    · rw [if_neg h2, if_pos (Int32.not_lt.mp h2), nI_clamp hj]
/-- six puts -/
theorem C_setVars {kl : Nat} (hk : cl_C kl = 1) (S : St) (a b c d e f : Int32) : ∃ g, f_X1_setVars kl S a b c d e f = some (up_A S (ky kl 6) g) ∧ ∀ i, i < 6 → g i = vv a b c d e f i := by
  have hn : wk_n wd_C (ky kl 6) = 6 := lnC hk (by decide) rfl
  unfold f_X1_setVars
  rw [show (0 : Int32) = nI 0 from rfl, show (1 : Int32) = nI 1 from rfl, show (2 : Int32) = nI 2 from rfl, show (3 : Int32) = nI 3 from rfl, show (4 : Int32) = nI 4 from rfl, show (5 : Int32) = nI 5 from rfl]
  rw [put_nI hn (by decide) (by decide)]
  simp only [Option.bind_some]
  rw [put_nI hn (by decide) (by decide)]
  simp only [Option.bind_some]
  rw [put_nI hn (by decide) (by decide)]
  simp only [Option.bind_some]
  rw [put_nI hn (by decide) (by decide)]
  simp only [Option.bind_some]
  rw [put_nI hn (by decide) (by decide)]
  simp only [Option.bind_some]
  rw [put_nI hn (by decide) (by decide)]
  simp only [Option.bind_some, upA_upA, gA_A, if_pos]
  refine ⟨_, rfl, fun i hi => ?_⟩
  unfold vv
  simp only [upd_e]
  rcases (show i = 0 ∨ i = 1 ∨ i = 2 ∨ i = 3 ∨ i = 4 ∨ i = 5 by omega) with rfl | rfl | rfl | rfl | rfl | rfl <;> rfl
theorem ky_lit {a b c d : Nat} (h : ¬ 100 * a + b = 100 * c + d) : ¬ ky a b = ky c d := h
theorem C_lateWith {p : Nat → Nat → Prop} {k kt : Nat} {S : St} {T : TX} {X : CT} (hT : tC kt S T) (h : cCp p k kt S T X) {m rk : Nat} (hm : m < tn T 3) : ∃ f g, f_X0_lateWith k S (nI m) (nI rk) = some (nI (s_late T X m rk), up_A (up_A S (ky (kt + 2) 6) f) (ky (kt + 2) 5) g) := by
  have h1 := h.1.1
  have h2 := hT.1.2.2.2.1
  have h8 := hT.1.1
  have ht := Nat.le_refl (cn X)
  have hg := ((h.1.2.1 (cn X) ht).2 m hm).1
  have hkl : cl_C (kt + 2) = 1 := by rcases hT.2.1 with rfl | rfl <;> rfl
  have hms := s_men_lt hT.1 X (cf X 2 (cn X) m) (cn X)
  obtain ⟨f, hf, hfv⟩ := C_setVars hkl S (nI (cn X)) (nI (cf X 2 (cn X) m)) (nI rk) (nI m) (nI (s_ways T (cf X 2 (cn X) m))) (nI (pop (s_men T X (cf X 2 (cn X) m) (cn X))))
  obtain ⟨g, hv⟩ := hT.2.2.2.2.2.2.2.1 (up_A S (ky (kt + 2) 6) f) (by rw [gA_A, if_neg (ky_ne (by decide) (by decide) (by omega))]) (by rw [gA_A, if_neg (ky_ne (by decide) (by decide) (by omega))]) rfl
  refine ⟨f, g, ?_⟩
  unfold f_X0_lateWith
  rw [h.2.2.2.1, C_hang hT h hm ht]
  simp only [Option.bind_some]
  rw [C_menIn hT h (by omega) ht]
  simp only [Option.bind_some]
  rw [bitC _ (by omega)]
  simp only [Option.bind_some]
  rw [chk_t (cC_T hT h), chk_t (cC_T hT h), h.2.2.1, C_ways hT (by omega)]
  simp only [Option.bind_some]
  rw [hf]
  simp only [Option.bind_some]
  rw [gP_A, h.2.2.1, chk_t hT.2.1, chk_t hT.2.1, gI_A, hv]
  simp only [Option.bind_some]
  rw [gA_A, if_pos rfl, clC, hT.2.2.2.2.2.2.2.2 6 (by decide) f _ hfv]
  rfl
