/-! WHERE A MAN GOES: the class's. -/
theorem s_ways_lt {T : TX} (hb : tb T) (r : Nat) : s_ways T r ≤ 12 := Nat.le_trans (s_wayN_le T r (tn T 1)) hb.2.1
theorem nI_np {c : Nat} (h : 0 < c) (hc : c < 2 ^ 31) : ¬ nI c ≤ (0 : Int32) := (show ¬ nI c ≤ nI 0 from nI_ge h hc)
theorem nI_nz {c : Nat} (h : 0 < c) (hc : c < 2 ^ 31) : ¬ nI c = (0 : Int32) := fun e => by
  have := (nI_eq (b := 0) hc (by decide)).mp e
  omega
theorem nI_z0 {c : Nat} (h : c = 0) : nI c ≤ (0 : Int32) := by
  rw [h]
  decide
theorem le0 : (0 : Int32) ≤ 0 := by decide
theorem s_step_0 {T : TX} {r : Nat} (h : s_ways T r = 0) (v : Int32) : s_step T r v = r := by
  unfold s_step
  rw [h]
  split
  · rfl
  · rw [if_pos (Nat.mod_one _)]
theorem C_stepJ {p : Nat → Nat → Prop} {k kt : Nat} {S : St} {T : TX} {X : CT} (hT : tC kt S T) (h : cCp p k kt S T X) {r : Nat} (hr : r < tn T 0) (v : Int32) : (if nI (s_ways T r) ≤ 0 then (f_X0_roomAfter_J100 k S (nI r) (0 : Int32)) else (chk (¬ (nI (s_ways T r) + (1 : Int32)) = 0) (f_X0_roomAfter_J100 k S (nI r) (i_rem v (nI (s_ways T r) + (1 : Int32)))))) = some (nI (s_step T r v), S) := by
  have hw := s_ways_lt hT.1 r
  have h8 := hT.1.1
  by_cases c : s_ways T r = 0
  · rw [s_step_0 c, if_pos (nI_z0 c)]
    unfold f_X0_roomAfter_J100
    rw [if_pos le0]
  · rw [if_neg (nI_np (by omega) (by omega)), ← nI_succ, chk_t (nI_nz (by omega) (by omega))]
    unfold f_X0_roomAfter_J100
    by_cases hv : v < 0
    · rw [if_pos (rem_neg hv (by omega) (by omega))]
      unfold s_step
      rw [if_pos hv]
    · obtain ⟨j, hj, rfl⟩ := nI_of hv
      have e : i_rem (nI j) (nI (s_ways T r + 1)) = nI (j % (s_ways T r + 1)) := pk_rem hj (by omega) (by omega)
      have hm : j % (s_ways T r + 1) < s_ways T r + 1 := Nat.mod_lt _ (by omega)
      rw [e]
      unfold s_step
      rw [if_neg hv, nI_clamp hj]
      by_cases z : j % (s_ways T r + 1) = 0
      · rw [if_pos (nI_z0 z), if_pos z]
      · have ho := s_to_thr (T := T) (r := r) (k := j % (s_ways T r + 1)) (by omega) (by omega)
        rw [if_neg (nI_np (by omega) (by omega)), if_neg z, chk_t (cC_T hT h), h.2.2.1, C_wayTo hT (by omega) (o := some (s_to T r (j % (s_ways T r + 1)) (tn T 1))) (fun k' hk' ek => by
          have := (nI_eq (by omega) hk').mp ek
          rw [← this]
          exact ho) (fun q => absurd q (nI_pos (by omega))), Option.bind_some]
        rfl
theorem C_roomAfter {p : Nat → Nat → Prop} {k kt : Nat} {S : St} {T : TX} {X : CT} (hT : tC kt S T) (h : cCp p k kt S T X) {a : Nat} (ha : a < tn T 2) : ∃ f g, f_X0_roomAfter k S (nI a) = some (nI (s_next T X a), up_A (up_A S (ky (kt + 2) 6) f) (ky (kt + 2) 5) g) := by
  have ht := Nat.le_refl (cn X)
  have h6 := hT.1.2.2.1
  have h8 := hT.1.1
  have hr := ((h.1.2.1 (cn X) ht).1 a ha).1
  have hkl : cl_C (kt + 2) = 1 := by rcases hT.2.1 with rfl | rfl <;> rfl
  have hkt : cl_C kt = 4 := by rcases hT.2.1 with rfl | rfl <;> rfl
  have hms := s_men_lt hT.1 X (cf X 0 (cn X) a) (cn X)
  obtain ⟨f, hf, hfv⟩ := C_setVars hkl S (nI (cn X)) (nI (cf X 0 (cn X) a)) (nI (cf X 1 (cn X) a)) (nI a) (nI (s_ways T (cf X 0 (cn X) a))) (nI (pop (s_men T X (cf X 0 (cn X) a) (cn X))) - 1)
  obtain ⟨g, hv⟩ := hT.2.2.2.2.2.2.1 a ha (up_A S (ky (kt + 2) 6) f) (by rw [gA_A, if_neg (ky_ne (by decide) (by decide) (by omega))]) (by rw [gA_A, if_neg (ky_ne (by decide) (by decide) (by omega))]) rfl
  have oL := on_law kt S f g
  have t2 := tC_kC h.2.1 hT (on_mono (fun q hq => Or.inr hq) oL)
  have c2 := cC_kL hT h oL
  have hst := C_stepJ t2 c2 hr (s_want T X a)
  refine ⟨f, g, ?_⟩
  unfold f_X0_roomAfter
  rw [h.2.2.2.1, C_room hT h ha ht, Option.bind_some, chk_t (cC_T hT h), h.2.2.1, C_ways hT (by omega), Option.bind_some, C_menIn hT h (by omega) ht, Option.bind_some, bitC _ (by omega), Option.bind_some, chk_t hT.2.1, C_rank hT h ha ht, Option.bind_some, hf, Option.bind_some, gP_A, h.2.2.1, chk_t hT.2.1, chk_t hT.2.1]
  rw [at_nI (lnC hkt (by decide) (n := 6) rfl) (by omega) (by decide), Option.bind_some, gA_A, if_neg (ky_ne (by decide) (by decide) (by omega)), hv, Option.bind_some]
  rw [gA_A, if_pos rfl, hT.2.2.2.2.2.2.2.2 a (by omega) f _ hfv]
  exact hst
