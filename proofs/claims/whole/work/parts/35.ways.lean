/-! WAYS, AND WHAT IS SEEN IN MIRRORS: both sides. -/
def s_in (X : CT) (m v o : Nat) : Option Nat := if m = o then none else if cf X 2 v o = cf X 2 v m then s_show X o v else none
def s_shr (T : TX) (X : CT) (r t : Nat) : Nat := s_or (fun m => if cf X 2 t m = r then s_shm T X m t else 0) (tn T 3)
theorem s_or_lt' {T : TX} (hb : tb T) (X : CT) (r t n : Nat) : s_or (fun m => if cf X 2 t m = r then s_shm T X m t else 0) n < 64 := s_or_lt (fun i => by
  split
  · exact s_shm_lt hb X i t
  · decide) n
section WC
variable {k kt : Nat} {S : St} {T : TX} {X : CT}
theorem C_seenIn (hT : tC kt S T) (h : cC k kt S T X) {m o v : Nat} (hm : m < tn T 3) (ho : o < tn T 3) (hv : v ≤ cn X) : f_X0_seenIn k S (nI m) (nI v) (nI o) = some (oI (s_in X m v o)) := by
  have h1 := h.1.1
  have h2 := hT.1.2.2.2.1
  have h8 := hT.1.1
  unfold f_X0_seenIn s_in
  rw [if_neg (nI_pos (by omega))]
  by_cases c : m = o
  · rw [if_pos (by rw [c]), if_pos c]
    rfl
  · rw [if_neg (fun e => c ((nI_eq (by omega) (by omega)).mp e).symm), if_neg c, chk_t (cC_T hT h), h.2.2.1, tC_n hT (by decide), if_pos (show nI o < nI (tn T 3) from nI_lt ho (by omega)), C_hang hT h ho hv]
    simp only [Option.bind_some]
    rw [C_hang hT h hm hv]
    simp only [Option.bind_some]
    have a1 := ((h.1.2.1 v hv).2 o ho).1
    have a2 := ((h.1.2.1 v hv).2 m hm).1
    by_cases e : cf X 2 v o = cf X 2 v m
    · rw [if_pos (by rw [e]), if_pos e, C_showing hT h ho hv trivial]
      rfl
    · rw [if_neg (fun q => e ((nI_eq (by omega) (by omega)).mp q)), if_neg e]
      rfl
theorem C_seenIn0 (x : Int32) (o : Int32) : f_X0_seenIn k S x (oI none) o = some (oI none) := by
  unfold f_X0_seenIn
  rw [if_pos (by decide)]
  rfl
theorem C_shownIn (hT : tC kt S T) (h : cC k kt S T X) {r t : Nat} (hr : r < 2 ^ 31) (ht : t ≤ cn X) : f_X0_menShownIn k S (nI r) (nI t) = some (nI (s_shr T X r t)) := by
  have h1 := h.1.1
  have h2 := hT.1.2.2.2.1
  have h8 := hT.1.1
  unfold f_X0_menShownIn
  refine iter_FU (fun i => (nI (s_or (fun m => if cf X 2 t m = r then s_shm T X m t else 0) i), nI i)) (tn T 3) (by omega) (fun i hi => ?_) ?_
  · have hg := ((h.1.2.1 t ht).2 i hi).1
    show f_X0_menShownIn_L5 k S (nI r) (nI t) (nI (s_or (fun m => if cf X 2 t m = r then s_shm T X m t else 0) i), nI i) = _
    unfold f_X0_menShownIn_L5
    rw [chk_t (cC_T hT h), h.2.2.1, tC_n hT (by decide), if_neg (show ¬ nI (tn T 3) ≤ nI i from nI_ge hi (by omega)), C_hang hT h hi ht]
    simp only [Option.bind_some]
    by_cases c : cf X 2 t i = r
    · rw [if_pos (by rw [c]), C_menShown hT h hi ht trivial]
      show some (Sum.inl (nI (s_or _ i) ||| nI (s_shm T X i t), nI i + 1)) = _
      rw [nI_oN, nI_succ, s_or, if_pos c]
    · rw [if_neg (fun q => c ((nI_eq (by omega) hr).mp q))]
      show some (Sum.inl (nI (s_or _ i) ||| nI 0, nI i + 1)) = _
      rw [nI_oN, nI_succ, s_or, if_neg c]
  · show f_X0_menShownIn_L5 k S (nI r) (nI t) (nI (s_or _ (tn T 3)), nI (tn T 3)) = _
    unfold f_X0_menShownIn_L5
    rw [chk_t (cC_T hT h), h.2.2.1, tC_n hT (by decide), if_pos (show nI (tn T 3) ≤ nI (tn T 3) from nI_le (Nat.le_refl _) (by omega))]
    rfl
theorem kt_cl (hT : tC kt S T) : cl_C kt = 4 := by
  rcases hT.2.1 with rfl | rfl <;> rfl
theorem C_ways (hT : tC kt S T) {r : Nat} (hr : r < 2 ^ 31) : f_X4_waysOf kt S (nI r) = some (nI (s_ways T r)) := by
  have h2 := hT.1.2.1
  have h8 := hT.1.1
  unfold f_X4_waysOf
  refine iter_FU (fun i => (nI (s_wayN T r i), nI i)) (tn T 1) (by omega) (fun i hi => ?_) ?_
  · have hd := hT.1.2.2.2.2.2.2.1 i hi
    show f_X4_waysOf_L4 kt S (nI r) (nI (s_wayN T r i), nI i) = _
    unfold f_X4_waysOf_L4
    rw [tC_n hT (by decide), if_neg (show ¬ nI (tn T 1) ≤ nI i from nI_ge hi (by omega))]
    show (f_X5_at (ky kt 7) S (nI i * (2 : Int32))).bind _ = _
    rw [show (2 : Int32) = nI 2 from rfl, pk_mul, at_nI (lnC (kt_cl hT) (by decide) (n := 24) rfl) (by omega) (by decide), (hT.2.2.2.1 i hi).1]
    simp only [Option.bind_some]
    rw [s_wayN]
    by_cases c : tf T 0 i = r
    · rw [if_pos (by rw [c]), if_pos (Or.inl c), nI_succ, nI_succ]
    · rw [if_neg (fun q => c ((nI_eq (by omega) hr).mp q)), show (1 : Int32) = nI 1 from rfl, nI_add, at_nI (lnC (kt_cl hT) (by decide) (n := 24) rfl) (by omega) (by decide), (hT.2.2.2.1 i hi).2]
      simp only [Option.bind_some]
      by_cases c2 : tf T 1 i = r
      · rw [if_pos (by rw [c2]), if_pos (Or.inr c2)]
        simp only [nI_add]
      · rw [if_neg (fun q => c2 ((nI_eq (by omega) hr).mp q)), if_neg (fun q => q.elim c c2)]
        simp only [nI_add, Nat.add_zero]
  · show f_X4_waysOf_L4 kt S (nI r) (nI (s_wayN T r (tn T 1)), nI (tn T 1)) = _
    unfold f_X4_waysOf_L4
    rw [tC_n hT (by decide), if_pos (show nI (tn T 1) ≤ nI (tn T 1) from nI_le (Nat.le_refl _) (by omega))]
    rfl
theorem C_wayTo (hT : tC kt S T) {r : Nat} (hr : r < 2 ^ 31) {x : Int32} {o : Option Nat} (ho : ∀ k : Nat, k < 2 ^ 31 → x = nI k → s_thr T r k o) (hx : x < 0 → o = none) : f_X4_wayTo kt S (nI r) x = some (bkM o) := by
  have h2 := hT.1.2.1
  have h8 := hT.1.1
  have key : ∃ z, iter (f_X4_wayTo_L5 kt S (nI r) x) FU ((0 : Int32), (0 : Int32)) = some z ∧ ((z = .inr (-1) ∧ o = none) ∨ ∃ d, d < tn T 1 ∧ z = .inl (nI (tf T 0 d), nI (tf T 1 d)) ∧ o = some (s_end T r d)) := by
    refine iter_invF (fun i z => z = (nI (s_wayN T r i), nI i) ∧ ∀ d, d < i → ∀ k : Nat, k < 2 ^ 31 → x = nI k → ¬ s_hit T r k d) _ (tn T 1) (by omega) ⟨rfl, fun d hd => by omega⟩ (fun i z hi hz => ?_) (fun z hz => ?_)
    · obtain ⟨rfl, hno⟩ := hz
      have hd := hT.1.2.2.2.2.2.2.1 i hi
      have hle := s_wayN_le T r i
      have step : f_X4_wayTo_L5 kt S (nI r) x (nI (s_wayN T r i), nI i) = if tf T 0 i = r ∨ tf T 1 i = r then (if nI (s_wayN T r i + 1) = x then some (.inr (.inl (nI (tf T 0 i), nI (tf T 1 i)))) else some (.inl (nI (s_wayN T r i + 1), nI (i + 1)))) else some (.inl (nI (s_wayN T r i), nI (i + 1))) := by
        unfold f_X4_wayTo_L5
        rw [tC_n hT (by decide), if_neg (show ¬ nI (tn T 1) ≤ nI i from nI_ge hi (by omega))]
        show (f_X5_at (ky kt 7) S (nI i * (2 : Int32))).bind _ = _
        rw [show (2 : Int32) = nI 2 from rfl, pk_mul, at_nI (lnC (kt_cl hT) (by decide) (n := 24) rfl) (by omega) (by decide), (hT.2.2.2.1 i hi).1]
        simp only [Option.bind_some]
        rw [show (1 : Int32) = nI 1 from rfl, nI_add, at_nI (lnC (kt_cl hT) (by decide) (n := 24) rfl) (by omega) (by decide), (hT.2.2.2.1 i hi).2]
        simp only [Option.bind_some]
        unfold f_X4_wayTo_J54
        rw [show (1 : Int32) = nI 1 from rfl, nI_add]
        by_cases c : tf T 0 i = r
        · rw [if_pos (by rw [c]), if_pos (Or.inl c)]
          simp only [nI_add]
        · rw [if_neg (fun q => c ((nI_eq (by omega) hr).mp q))]
          by_cases c2 : tf T 1 i = r
          · rw [if_pos (by rw [c2]), if_pos (Or.inr c2)]
            simp only [nI_add]
          · rw [if_neg (fun q => c2 ((nI_eq (by omega) hr).mp q)), if_neg (fun q => q.elim c c2)]
            simp only [nI_add]
      by_cases c : tf T 0 i = r ∨ tf T 1 i = r
      · by_cases e : nI (s_wayN T r i + 1) = x
        · refine Or.inr ⟨_, by rw [step, if_pos c, if_pos e], Or.inr ⟨i, hi, rfl, ?_⟩⟩
          have h3 := ho (s_wayN T r i + 1) (by omega) e.symm
          cases o with
          | none => exact absurd ⟨c, rfl⟩ (h3 i hi)
          | some v => exact s_thr_fun h3 (show s_thr T r (s_wayN T r i + 1) (some (s_end T r i)) from ⟨i, hi, ⟨c, rfl⟩, rfl⟩)
        · refine Or.inl ⟨_, by rw [step, if_pos c, if_neg e], ?_, ?_⟩
          · show _ = (nI (s_wayN T r i + (if _ then 1 else 0)), _)
            rw [if_pos c]
          · intro d hd k hk ek hh
            by_cases q : d = i
            · subst q
              exact e (by rw [hh.2, ek])
            · exact hno d (by omega) k hk ek hh
      · refine Or.inl ⟨_, by rw [step, if_neg c], ?_, ?_⟩
        · show _ = (nI (s_wayN T r i + (if _ then 1 else 0)), _)
          rw [if_neg c]
          rfl
        · intro d hd k hk ek hh
          by_cases q : d = i
          · subst q
            exact c hh.1
          · exact hno d (by omega) k hk ek hh
    · obtain ⟨rfl, hno⟩ := hz
      refine ⟨.inr (-1), ?_, Or.inl ⟨rfl, ?_⟩⟩
      · unfold f_X4_wayTo_L5
        rw [tC_n hT (by decide), if_pos (show nI (tn T 1) ≤ nI (tn T 1) from nI_le (Nat.le_refl _) (by omega))]
      · by_cases hx0 : x < 0
        · exact hx hx0
        · obtain ⟨k, hk, ek⟩ := nI_of hx0
          have h3 := ho k hk ek
          cases o with
          | none => rfl
          | some v =>
            obtain ⟨d, hd, hh, -⟩ := h3
            exact absurd hh (hno d hd k hk ek)
  obtain ⟨z, hz, hq⟩ := key
  unfold f_X4_wayTo
  rw [hz]
  rcases hq with ⟨rfl, rfl⟩ | ⟨d, hd, rfl, rfl⟩
  · rfl
  · have h3 := hT.1.2.2.2.2.2.2.1 d hd
    show (if nI (tf T 0 d) = nI r then some (nI (tf T 1 d)) else some (nI (tf T 0 d))) = some (nI (s_end T r d))
    unfold s_end
    by_cases c : tf T 0 d = r
    · rw [if_pos (by rw [c]), if_pos c]
    · rw [if_neg (fun q => c ((nI_eq (by omega) hr).mp q)), if_neg c]
end WC
section WM
variable {s : Nat} {S : St} {T : TX} {X : CT}
theorem M_seenIn (hT : tM s S T) (h : cM 56 57 58 59 S T X) {m o v : Nat} (hm : m < tn T 3) (ho : o < tn T 3) (hv : v ≤ cn X) : f_X6_seenIn S (nI m) (nI v) (nI o) = some (oI (s_in X m v o)) := by
  have h1 := h.1.1
  have h2 := hT.1.2.2.2.1
  have h8 := hT.1.1
  unfold f_X6_seenIn s_in
  rw [if_neg (nI_pos (by omega))]
  by_cases c : m = o
  · rw [if_pos (by rw [c]), if_pos c]
    rfl
  · rw [if_neg (fun e => c ((nI_eq (by omega) (by omega)).mp e)), if_neg c, M_hung hT h ho hv]
    simp only [Option.bind_some]
    rw [M_hung hT h hm hv]
    simp only [Option.bind_some]
    have a1 := ((h.1.2.1 v hv).2 o ho).1
    have a2 := ((h.1.2.1 v hv).2 m hm).1
    by_cases e : cf X 2 v o = cf X 2 v m
    · rw [if_pos (by rw [e]), if_pos e, M_shows hT h ho hv trivial]
      rfl
    · rw [if_neg (fun q => e ((nI_eq (by omega) (by omega)).mp q)), if_neg e]
      rfl
theorem M_seenIn0 (x : Int32) (o : Int32) : f_X6_seenIn S x (oI none) o = some (oI none) := by
  unfold f_X6_seenIn
  rw [if_pos (by decide)]
  rfl
theorem M_seenFrom (hT : tM s S T) (h : cM 56 57 58 59 S T X) {r : Nat} (hr : r < 2 ^ 31) : f_X6_seenFrom S (nI r) = some (nI (s_shr T X r (cn X))) := by
  have h1 := h.1.1
  have h2 := hT.1.2.2.2.1
  have h8 := hT.1.1
  have ht := Nat.le_refl (cn X)
  obtain ⟨l1, l2⟩ := tM_live hT
  unfold f_X6_seenFrom
  refine iter_FU (fun i => (nI (s_or (fun m => if cf X 2 (cn X) m = r then s_shm T X m (cn X) else 0) i), nI i)) (tn T 3) (by omega) (fun i hi => ?_) ?_
  · have hg := ((h.1.2.1 (cn X) ht).2 i hi).1
    show f_X6_seenFrom_L4 S (nI r) (nI (s_or (fun m => if cf X 2 (cn X) m = r then s_shm T X m (cn X) else 0) i), nI i) = _
    unfold f_X6_seenFrom_L4
    rw [chk_t l1, l2, hT.2.2.2.1.2.2.2.1, if_neg (show ¬ nI (tn T 3) ≤ nI i from nI_ge hi (by omega)), h.2.1, M_hung hT h hi ht]
    simp only [Option.bind_some]
    by_cases c : cf X 2 (cn X) i = r
    · rw [if_pos (by rw [c]), M_shows hT h hi ht trivial]
      simp only [Option.bind_some]
      rw [M_menShown hT h hi ht]
      show some (Sum.inl (nI (s_or _ i) ||| nI (s_shm T X i (cn X)), nI i + 1)) = _
      rw [nI_oN, nI_succ, s_or, if_pos c]
    · rw [if_neg (fun q => c ((nI_eq (by omega) hr).mp q))]
      show some (Sum.inl (nI (s_or _ i), nI i + 1)) = _
      rw [nI_succ, s_or, if_neg c, Nat.or_zero]
  · show f_X6_seenFrom_L4 S (nI r) (nI (s_or _ (tn T 3)), nI (tn T 3)) = _
    unfold f_X6_seenFrom_L4
    rw [chk_t l1, l2, hT.2.2.2.1.2.2.2.1, if_pos (show nI (tn T 3) ≤ nI (tn T 3) from nI_le (Nat.le_refl _) (by omega))]
    rfl
theorem i12 (s d : Nat) : nI 12 * nI s + nI d = nI (12 * s + d) := by rw [pk_mul, nI_add]
theorem M_ways (hT : tM s S T) {r : Nat} (hr : r < 2 ^ 31) : f_X6_waysOf S (nI r) = some (nI (s_ways T r)) := by
  have h2 := hT.1.2.1
  have h8 := hT.1.1
  have hs := hT.2.1
  obtain ⟨l1, l2⟩ := tM_live hT
  unfold f_X6_waysOf
  refine iter_FU (fun i => (nI (s_wayN T r i), nI i)) (tn T 1) (by omega) (fun i hi => ?_) ?_
  · have hd := hT.1.2.2.2.2.2.2.1 i hi
    show f_X6_waysOf_L4 S (nI r) (nI (s_wayN T r i), nI i) = _
    unfold f_X6_waysOf_L4
    rw [chk_t l1, l2, hT.2.2.2.1.2.1, if_neg (show ¬ nI (tn T 1) ≤ nI i from nI_ge hi (by omega)), hT.2.2.1]
    rw [show (12 : Int32) = nI 12 from rfl, i12, chk_t (ib_nI (by omega) (by decide)), nI_clamp (by omega), (hT.2.2.2.2.1 i hi).1, (hT.2.2.2.2.1 i hi).2]
    rw [s_wayN]
    by_cases c : tf T 0 i = r
    · rw [if_pos (by rw [c]), if_pos (Or.inl c), nI_succ, nI_succ]
    · rw [if_neg (fun q => c ((nI_eq (by omega) hr).mp q)), chk_t (ib_nI (by omega) (by decide))]
      by_cases c2 : tf T 1 i = r
      · rw [if_pos (by rw [c2]), if_pos (Or.inr c2), nI_succ, nI_succ]
      · rw [if_neg (fun q => c2 ((nI_eq (by omega) hr).mp q)), if_neg (fun q => q.elim c c2), nI_succ, Nat.add_zero]
  · show f_X6_waysOf_L4 S (nI r) (nI (s_wayN T r (tn T 1)), nI (tn T 1)) = _
    unfold f_X6_waysOf_L4
    rw [chk_t l1, l2, hT.2.2.2.1.2.1, if_pos (show nI (tn T 1) ≤ nI (tn T 1) from nI_le (Nat.le_refl _) (by omega))]
    rfl
/-- the reference's way through the k-th door, where there is one -/
theorem M_thr (hT : tM s S T) {r k v : Nat} (hr : r < 2 ^ 31) (hk : k < 2 ^ 31) (ho : s_thr T r k (some v)) : f_X6_through S (nI r) (nI k) = some (nI v) := by
  have h2 := hT.1.2.1
  have h8 := hT.1.1
  have hs := hT.2.1
  obtain ⟨l1, l2⟩ := tM_live hT
  have key : ∃ z, iter (f_X6_through_L5 S (nI r) (nI k)) FU ((0 : Int32), (0 : Int32)) = some z ∧ ∃ d, d < tn T 1 ∧ z = .inl (nI (tf T 0 d), nI (tf T 1 d)) ∧ v = s_end T r d := by
    refine iter_invF (fun i z => z = (nI (s_wayN T r i), nI i) ∧ ∀ d, d < i → ¬ s_hit T r k d) _ (tn T 1) (by omega) ⟨rfl, fun d hd => by omega⟩ (fun i z hi hz => ?_) (fun z hz => ?_)
    · obtain ⟨rfl, hno⟩ := hz
      have hd := hT.1.2.2.2.2.2.2.1 i hi
      have hle := s_wayN_le T r i
      have step : f_X6_through_L5 S (nI r) (nI k) (nI (s_wayN T r i), nI i) = if tf T 0 i = r ∨ tf T 1 i = r then (if nI (s_wayN T r i + 1) = nI k then some (.inr (.inl (nI (tf T 0 i), nI (tf T 1 i)))) else some (.inl (nI (s_wayN T r i + 1), nI (i + 1)))) else some (.inl (nI (s_wayN T r i), nI (i + 1))) := by
        unfold f_X6_through_L5
        rw [chk_t l1, l2, hT.2.2.2.1.2.1, if_neg (show ¬ nI (tn T 1) ≤ nI i from nI_ge hi (by omega)), hT.2.2.1]
        rw [show (12 : Int32) = nI 12 from rfl, i12, chk_t (ib_nI (by omega) (by decide)), nI_clamp (by omega), (hT.2.2.2.2.1 i hi).1, (hT.2.2.2.2.1 i hi).2]
        show chk _ (if nI (tf T 0 i) = nI r then _ else _) = _
        rw [chk_t (ib_nI (by omega) (by decide))]
        unfold f_X6_through_J68
        rw [show (1 : Int32) = nI 1 from rfl]
        simp only [nI_add]
        by_cases c : tf T 0 i = r
        · rw [if_pos (by rw [c]), if_pos (Or.inl c)]
        · rw [if_neg (fun q => c ((nI_eq (by omega) hr).mp q))]
          by_cases c2 : tf T 1 i = r
          · rw [if_pos (by rw [c2]), if_pos (Or.inr c2)]
          · rw [if_neg (fun q => c2 ((nI_eq (by omega) hr).mp q)), if_neg (fun q => q.elim c c2)]
      by_cases c : tf T 0 i = r ∨ tf T 1 i = r
      · by_cases e : s_wayN T r i + 1 = k
        · exact Or.inr ⟨_, by rw [step, if_pos c, if_pos (by rw [e])], i, hi, rfl, Option.some.inj (s_thr_fun ho (show s_thr T r k (some (s_end T r i)) from ⟨i, hi, ⟨c, e⟩, rfl⟩))⟩
        · refine Or.inl ⟨_, by rw [step, if_pos c, if_neg (fun q => e ((nI_eq (by omega) hk).mp q))], ?_, ?_⟩
          · show _ = (nI (s_wayN T r i + (if _ then 1 else 0)), _)
            rw [if_pos c]
          · intro d hd hh
            by_cases q : d = i
            · subst q
              exact e hh.2
            · exact hno d (by omega) hh
      · refine Or.inl ⟨_, by rw [step, if_neg c], ?_, ?_⟩
        · show _ = (nI (s_wayN T r i + (if _ then 1 else 0)), _)
          rw [if_neg c]
          rfl
        · intro d hd hh
          by_cases q : d = i
          · subst q
            exact c hh.1
          · exact hno d (by omega) hh
    · obtain ⟨rfl, hno⟩ := hz
      obtain ⟨d, hd, hh, -⟩ := ho
      exact absurd hh (hno d hd)
  obtain ⟨z, hz, d, hd, rfl, rfl⟩ := key
  unfold f_X6_through
  rw [hz]
  have h3 := hT.1.2.2.2.2.2.2.1 d hd
  show (if nI (tf T 0 d) = nI r then some (nI (tf T 1 d)) else some (nI (tf T 0 d))) = some (nI (s_end T r d))
  unfold s_end
  by_cases c : tf T 0 d = r
  · rw [if_pos (by rw [c]), if_pos c]
  · rw [if_neg (fun q => c ((nI_eq (by omega) hr).mp q)), if_neg c]
end WM
