/-! THE CLASS'S READERS. -/
theorem ix_mul (t c a : Nat) : nI t * nI c + nI a = nI (t * c + a) := by rw [pk_mul, nI_add]
section RC
variable {p : Nat → Nat → Prop} {k kt : Nat} {S : St} {T : TX} {X : CT}
theorem tC_isT (h : tC kt S T) : isT kt := h.2.1
theorem cC_T (hT : tC kt S T) (h : cCp p k kt S T X) : isT (st_P S (ky k 0)) := by rw [h.2.2.1]; exact hT.2.1
theorem tC_n (h : tC kt S T) {i : Nat} (hi : i < 6) : st_I S (ky kt i) = nI (tn T i) := h.2.2.1 i hi
theorem C_room (hT : tC kt S T) (h : cCp p k kt S T X) {a t : Nat} (ha : a < tn T 2) (ht : t ≤ cn X) : f_X0_roomOf k S (nI a) (nI t) = some (nI (cf X 0 t a)) := by
  have h1 := h.1.1
  have h2 := hT.1.2.2.1
  unfold f_X0_roomOf
  rw [show (6 : Int32) = nI 6 from rfl, ix_mul, at_nI (lnC h.2.1 (by decide) (n := 1800) rfl) (by omega) (by decide), ((h.2.2.2.2.1 t ht).1 a ha).1]
  rfl
theorem C_rank (hT : tC kt S T) (h : cCp p k kt S T X) {a t : Nat} (ha : a < tn T 2) (ht : t ≤ cn X) : f_X0_rankOf k S (nI a) (nI t) = some (nI (cf X 1 t a)) := by
  have h1 := h.1.1
  have h2 := hT.1.2.2.1
  unfold f_X0_rankOf
  rw [show (6 : Int32) = nI 6 from rfl, ix_mul, at_nI (lnC h.2.1 (by decide) (n := 1800) rfl) (by omega) (by decide), ((h.2.2.2.2.1 t ht).1 a ha).2]
  rfl
theorem C_hang (hT : tC kt S T) (h : cCp p k kt S T X) {m t : Nat} (hm : m < tn T 3) (ht : t ≤ cn X) : f_X0_hangOf k S (nI m) (nI t) = some (nI (cf X 2 t m)) := by
  have h1 := h.1.1
  have h2 := hT.1.2.2.2.1
  unfold f_X0_hangOf
  rw [show (8 : Int32) = nI 8 from rfl, ix_mul, at_nI (lnC h.2.1 (by decide) (n := 2400) rfl) (by omega) (by decide), ((h.2.2.2.2.1 t ht).2.1 m hm).1]
  rfl
theorem C_late (hT : tC kt S T) (h : cCp p k kt S T X) {m t : Nat} (hm : m < tn T 3) (ht : t ≤ cn X) (hp : p t m) : f_X0_lateOf k S (nI m) (nI t) = some (nI (cf X 3 t m)) := by
  have h1 := h.1.1
  have h2 := hT.1.2.2.2.1
  unfold f_X0_lateOf
  rw [show (8 : Int32) = nI 8 from rfl, ix_mul, at_nI (lnC h.2.1 (by decide) (n := 2400) rfl) (by omega) (by decide), ((h.2.2.2.2.1 t ht).2.1 m hm).2 hp]
  rfl
theorem C_turned (hT : tC kt S T) (h : cCp p k kt S T X) {m t : Nat} (hm : m < tn T 3) (ht : t ≤ cn X) : f_X0_isTurned k S (nI m) (nI t) = some (if cw X t m then 1 else 0) := by
  have h1 := h.1.1
  have h2 := hT.1.2.2.2.1
  have h3 : bs (tn T 3) (cw X t) < 256 := Nat.lt_of_lt_of_le (bs_lt _ _) (Nat.pow_le_pow_right (by decide) h2)
  unfold f_X0_isTurned
  rw [at_nI (lnC h.2.1 (by decide) (n := 300) rfl) (by omega) (by decide), (h.2.2.2.2.1 t ht).2.2]
  show (f_X5_has (nI (bs (tn T 3) (cw X t))) (nI m)).bind _ = _
  rw [has_nI (by omega) (by omega), bs_bit]
  by_cases hc : cw X t m
  · simp [hm, hc, chk, isb]
  · simp [hm, hc, chk, isb]
theorem C_broken (hT : tC kt S T) (h : cCp p k kt S T X) {m t : Nat} (hm : m < tn T 3) (ht : t ≤ cn X) : f_X0_isBroken k S (nI m) (nI t) = some (if s_brk X m t then 1 else 0) := by
  have h1 := h.1.1
  have h2 := hT.1.2.2.2.1
  unfold f_X0_isBroken
  rw [at_nI (lnC h.2.1 (by decide) (n := 8) rfl) (by omega) (by decide), (h.2.2.2.2.2 m hm).1]
  show (if nI t < bkC (ck X m) then _ else _) = _
  unfold s_brk
  cases hk : ck X m with
  | none =>
    show (if nI t < (100000 : Int32) then _ else _) = _
    rw [if_pos (show nI t < (100000 : Int32) from nI_lt (b := 100000) (by omega) (by decide))]
    rfl
  | some b =>
    have h3 := (h.1.2.2 m hm b hk).1
    show (if nI t < nI b then _ else _) = some (if decide (b ≤ t) = true then 1 else 0)
    by_cases hb : b ≤ t
    · rw [if_neg (nI_nlt hb (by omega)), if_pos (decide_eq_true hb)]
    · rw [if_pos (nI_lt (by omega) (by omega)), if_neg (by simp [hb])]
theorem C_menIn (hT : tC kt S T) (h : cCp p k kt S T X) {r t : Nat} (hr : r < 2 ^ 31) (ht : t ≤ cn X) : f_X0_menIn k S (nI r) (nI t) = some (nI (s_men T X r t)) := by
  have h1 := h.1.1
  have h2 := hT.1.2.2.1
  unfold f_X0_menIn
  refine iter_FU (fun i => (nI (bs i (fun a => cf X 0 t a == r)), nI i)) (tn T 2) (by omega) (fun i hi => ?_) ?_
  · have hb := bs_lt (fun a => cf X 0 t a == r) i
    have hrm := ((h.1.2.1 t ht).1 i hi).1
    have h8 := hT.1.1
    show f_X0_menIn_L5 k S (nI r) (nI t) (nI (bs i (fun a => cf X 0 t a == r)), nI i) = _
    unfold f_X0_menIn_L5
    rw [chk_t (cC_T hT h), h.2.2.1, tC_n hT (by decide), if_neg (show ¬ nI (tn T 2) ≤ nI i from nI_ge hi (by omega))]
    rw [show (6 : Int32) = nI 6 from rfl, ix_mul, at_nI (lnC h.2.1 (by decide) (n := 1800) rfl) (by omega) (by decide), ((h.2.2.2.2.1 t ht).1 i hi).1]
    show (if nI (cf X 0 t i) = nI r then f_X0_menIn_J44 k S (nI r) (nI t) (nI i) ((1 : Int32) <<< (nI i &&& 31)) (nI (bs i (fun a => cf X 0 t a == r))) else f_X0_menIn_J44 k S (nI r) (nI t) (nI i) (0 : Int32) (nI (bs i (fun a => cf X 0 t a == r)))) = some (Sum.inl (nI (bs (i + 1) (fun a => cf X 0 t a == r)), nI (i + 1)))
    unfold f_X0_menIn_J44
    rw [bs]
    by_cases hc : cf X 0 t i = r
    · rw [if_pos (by rw [hc]), if_pos (by simp [hc]), shl_b i (by omega), or_b i (by omega) _ hb, nI_succ]
    · rw [if_neg (fun e => hc ((nI_eq (by omega) hr).mp e)), if_neg (by simp [hc]), Nat.add_zero, nI_succ]
      rw [show (0 : Int32) = nI 0 from rfl, nI_oN, Nat.or_zero]
  · show f_X0_menIn_L5 k S (nI r) (nI t) (nI (bs (tn T 2) (fun a => cf X 0 t a == r)), nI (tn T 2)) = _
    unfold f_X0_menIn_L5
    rw [chk_t (cC_T hT h), h.2.2.1, tC_n hT (by decide), if_pos (show nI (tn T 2) ≤ nI (tn T 2) from nI_le (Nat.le_refl _) (by omega))]
    rfl
theorem oI_neg : ¬ (0 : Int32) ≤ oI none := by decide
theorem C_showing_J (hT : tC kt S T) (h : cCp p k kt S T X) {m t : Nat} (hm : m < tn T 3) (ht : t ≤ cn X) (o : Option Nat) (ho : ∀ v, o = some v → v ≤ t) (y : Int32) (hy : y = oI o ∨ (o = none ∧ y < 0)) : f_X0_showing_J28 k S (nI m) (nI t) y = some (oI (s_msk X m t o)) := by
  have h1 := h.1.1
  unfold f_X0_showing_J28
  cases o with
  | none =>
    have hn : y < 0 := by
      rcases hy with rfl | ⟨-, q⟩
      · decide
      · exact q
    rw [if_pos hn]
    rfl
  | some v =>
    obtain rfl : y = nI v := by
      rcases hy with q | ⟨q, -⟩
      · exact q
      · cases q
    have hv := ho v rfl
    rw [if_neg (nI_pos (by omega)), C_turned hT h hm ht]
    show (if (if cw X t m = true then (1 : Int32) else 0) = 0 then _ else _) = some (oI (if (cw X t m || cw X v m) = true then none else some v))
    by_cases c1 : cw X t m
    · rw [if_pos c1, if_neg (by decide), c1]
      rfl
    · rw [if_neg c1, if_pos rfl, C_turned hT h hm (by omega)]
      show (if (if cw X v m = true then (1 : Int32) else 0) = 0 then _ else _) = _
      by_cases c2 : cw X v m
      · rw [if_pos c2, if_neg (by decide), c2, Bool.or_true]
        rfl
      · rw [if_neg c2, if_pos rfl]
        have : (cw X t m || cw X v m) = false := by simp [c1, c2]
        rw [this]
        rfl
theorem C_showing (hT : tC kt S T) (h : cCp p k kt S T X) {m t : Nat} (hm : m < tn T 3) (ht : t ≤ cn X) (hp : p t m) : f_X0_showing k S (nI m) (nI t) = some (oI (s_show X m t)) := by
  have h1 := h.1.1
  have h2 := hT.1.2.2.2.1
  unfold f_X0_showing
  rw [C_broken hT h hm ht]
  show (if (if s_brk X m t = true then (1 : Int32) else 0) = 0 then _ else _) = _
  unfold s_show
  by_cases c : s_brk X m t
  · rw [if_pos c, if_neg (by decide)]
    have hne : ck X m ≠ none := fun e => by
      unfold s_brk at c
      rw [e] at c
      cases c
    rw [at_nI (lnC h.2.1 (by decide) (n := 8) rfl) (by omega) (by decide), (h.2.2.2.2.2 m hm).2 hne]
    have hr : s_raw X m t = cz X m := by unfold s_raw; rw [if_pos c]
    show f_X0_showing_J28 k S (nI m) (nI t) (oI (cz X m)) = _
    rw [C_showing_J hT h hm ht (cz X m) (fun v e => s_raw_le h.1 hm (by rw [hr]; exact e)) _ (Or.inl rfl), hr]
  · rw [if_neg c, if_pos rfl, C_late hT h hm ht hp]
    show f_X0_showing_J28 k S (nI m) (nI t) (nI t - nI (cf X 3 t m)) = _
    have hl := ((h.1.2.1 t ht).2 m hm).2
    by_cases hc : cf X 3 t m ≤ t
    · have hr : s_raw X m t = some (t - cf X 3 t m) := by unfold s_raw; rw [if_neg c, if_pos hc]
      rw [C_showing_J hT h hm ht (some (t - cf X 3 t m)) (fun v e => by cases e; omega) _ (Or.inl (pk_sub hc)), hr]
    · have hr : s_raw X m t = none := by unfold s_raw; rw [if_neg c, if_neg hc]
      rw [C_showing_J hT h hm ht none (fun v e => by cases e) _ (Or.inr ⟨rfl, pk_sneg (by omega) (by omega)⟩), hr]
theorem C_menShown (hT : tC kt S T) (h : cCp p k kt S T X) {m t : Nat} (hm : m < tn T 3) (ht : t ≤ cn X) (hp : p t m) : f_X0_menShown k S (nI m) (nI t) = some (nI (s_shm T X m t)) := by
  have h1 := h.1.1
  unfold f_X0_menShown
  rw [C_showing hT h hm ht hp]
  unfold s_shm
  cases hs : s_show X m t with
  | none => rfl
  | some v =>
    have hv := s_show_le h.1 hm hs
    have hr := ((h.1.2.1 v (by omega)).2 m hm).1
    have h8 := hT.1.1
    simp only [Option.bind_some, oI]
    rw [if_pos (nI_pos' (by omega)), C_hang hT h hm (by omega)]
    simp only [Option.bind_some]
    rw [C_menIn hT h (by omega) (by omega)]
    rfl
theorem C_roomShown (hT : tC kt S T) (h : cCp p k kt S T X) {m t : Nat} (hm : m < tn T 3) (ht : t ≤ cn X) (hp : p t m) : f_X0_roomShown k S (nI m) (nI t) = some (oI ((s_show X m t).map (fun v => cf X 2 v m))) := by
  have h1 := h.1.1
  unfold f_X0_roomShown
  rw [C_showing hT h hm ht hp]
  cases hs : s_show X m t with
  | none => rfl
  | some v =>
    have hv := s_show_le h.1 hm hs
    simp only [Option.bind_some, oI]
    rw [if_pos (nI_pos' (by omega)), C_hang hT h hm (by omega)]
    rfl
end RC
