/-! WHERE A MAN GOES: the reference's. -/
theorem M_stepJ {s : Nat} {S : St} {T : TX} (hT : tM s S T) {r : Nat} (hr : r < tn T 0) (v : Int32) : (if 0 ≤ v then (chk (¬ (nI (s_ways T r) + (1 : Int32)) = 0) (f_X6_goesTo_J118 S (nI r) (i_rem v (nI (s_ways T r) + (1 : Int32))))) else (f_X6_goesTo_J118 S (nI r) (0 : Int32))) = some (nI (s_step T r v), S) := by
  have hw := s_ways_lt hT.1 r
  have h8 := hT.1.1
  by_cases hv : v < 0
  · rw [if_neg (Int32.not_le.mpr hv)]
    unfold f_X6_goesTo_J118 s_step
    rw [if_pos rfl, if_pos hv]
  · obtain ⟨j, hj, rfl⟩ := nI_of hv
    have e : i_rem (nI j) (nI (s_ways T r + 1)) = nI (j % (s_ways T r + 1)) := pk_rem hj (by omega) (by omega)
    have hm : j % (s_ways T r + 1) < s_ways T r + 1 := Nat.mod_lt _ (by omega)
    rw [if_pos (nI_pos' hj), ← nI_succ, chk_t (nI_nz (by omega) (by omega)), e]
    unfold f_X6_goesTo_J118 s_step
    rw [if_neg hv, nI_clamp hj]
    by_cases z : j % (s_ways T r + 1) = 0
    · rw [if_pos (show nI (j % (s_ways T r + 1)) = 0 by rw [z]; rfl), if_pos z]
    · have ho := s_to_thr (T := T) (r := r) (k := j % (s_ways T r + 1)) (by omega) (by omega)
      rw [if_neg (nI_nz (by omega) (by omega)), if_neg z, M_thr hT (by omega) (by omega) ho, Option.bind_some]
theorem M_go2 {s : Nat} {S : St} {T : TX} {a r : Nat} (a0 a1 a2 a3 a4 a5 : Int32) {F : Nat → Int32} (hT : tM s (up_A S (ky 0 49) F) T) (ha : a < tn T 2) (hr : r < tn T 0) (hv : ∀ i, i < 6 → F i = vv a0 a1 a2 a3 a4 a5 i) : ∃ g x, ((f_X6_tells (up_A S (ky 0 49) F) (nI a) (0 : Int32)).bind (fun (q11 : Int32 × St) => if 0 ≤ q11.1 then (chk (¬ (nI (s_ways T r) + (1 : Int32)) = 0) (f_X6_goesTo_J118 q11.2 (nI r) (i_rem q11.1 (nI (s_ways T r) + (1 : Int32))))) else (f_X6_goesTo_J118 q11.2 (nI r) (0 : Int32)))) = some (nI (s_step T r (tg T a (vv a0 a1 a2 a3 a4 a5))), up_V S F g x) := by
  have h6 := hT.1.2.2.1
  obtain ⟨g, x, hl⟩ := hT.2.2.2.2.2.2.2.1 a ha (up_A S (ky 0 49) F) (fun q hq _ _ _ => rfl) rfl
  rw [if_neg (by omega), gA_A, if_pos rfl, hT.2.2.2.2.2.2.2.2.2 a (by omega) F _ hv] at hl
  refine ⟨g, x, ?_⟩
  rw [hl, Option.bind_some]
  have t2 : tM s (up_V S F g x) T := tM_fsC hT (on_trans (on_A _ _ g ⟨50, by decide, rfl⟩) (on_I _ _ x ⟨51, by decide, rfl⟩))
  exact M_stepJ t2 hr _
theorem i0' (t m : Nat) : (36 : Int32) * nI t + nI m = nI (36 * t + m) := i36' t m
theorem M_goesTo {p : Nat → Nat → Prop} {s : Nat} {S : St} {T : TX} {X : CT} (hT : tM s S T) (h : cMp p 56 57 58 59 S T X) {a : Nat} (ha : a < tn T 2) : ∃ f g x, f_X6_goesTo S (nI a) = some (nI (s_next T X a), up_V S f g x) := by
  have h1 := h.1.1
  have h6 := hT.1.2.2.1
  have h8 := hT.1.1
  have ht := Nat.le_refl (cn X)
  have hr := ((h.1.2.1 (cn X) ht).1 a ha).1
  have hms := s_men_lt hT.1 X (cf X 0 (cn X) a) (cn X)
  have keep := fun f => keepV hT h f
  have row := (h.2.2.1 (cn X) ht).1 a ha
  unfold f_X6_goesTo
  rw [h.2.1, i0', chk_t (ib_nI (by omega) (by decide)), nI_clamp (by omega), row.1, lt_e, M_ways hT (by omega), Option.bind_some]
  rw [chkV0 S 0 0 rfl (by decide), chkV S _ 1 1 rfl (by decide)]
  rw [gI_A, h.2.1, i6', chk_t (ib_nI (by omega) (by decide)), nI_clamp (by omega), gA_A S (ky 0 49) (ky 0 56), if_neg (ky_ne (by decide) (by decide) (by decide)), row.2]
  rw [chkV S _ 2 2 rfl (by decide), chkV S _ 3 3 rfl (by decide), chkV S _ 4 4 rfl (by decide)]
  rw [gI_A, h.2.1, M_menIn (keep _).1 (keep _).2 (by omega) ht, Option.bind_some]
  rw [bitM _ (by omega), Option.bind_some, chkV S _ 5 5 rfl (by decide)]
  obtain ⟨f, x, hl⟩ := M_go2 (nI (cn X)) (nI (cf X 0 (cn X) a)) (nI (cf X 1 (cn X) a)) (nI a) (nI (s_ways T (cf X 0 (cn X) a))) (nI (pop (s_men T X (cf X 0 (cn X) a) (cn X))) - 1) (keep _).1 ha hr (vv6 (st_A S (ky 0 49)) _ _ _ _ _ _)
  exact ⟨_, f, x, hl⟩
