/-! ONE MINUTE: the class's. -/
theorem C_moveMen {k kt : Nat} {S : St} {T : TX} {X : CT} (hT : tC kt S T) (h : cC k kt S T X) (hn : cn X < 299) : ∃ S', f_X0_moveMen k S = some S' ∧ tC kt S' T ∧ cCp (fun t _ => t < cn (x_min T X (s_next T X))) k kt S' T (x_min T X (s_next T X)) ∧ on (kC k kt) S S' := by
  have hk := h.2.1
  have h6 := hT.1.2.2.1
  have h8 := hT.1.2.2.2.1
  have hx : ∀ a, a < tn T 2 → s_next T X a < tn T 0 := fun a ha => s_step_lt hT.1 ((h.1.2.1 (cn X) (Nat.le_refl _)).1 a ha).1 _
  have L2 : wk_n wd_C (ky k 2) = 1800 := lnC hk (by decide) rfl
  have L3 : wk_n wd_C (ky k 3) = 1800 := lnC hk (by decide) rfl
  have L4 : wk_n wd_C (ky k 4) = 2400 := lnC hk (by decide) rfl
  have L6 : wk_n wd_C (ky k 6) = 300 := lnC hk (by decide) rfl
  have e1 : nI (cn X) + (1 : Int32) = nI (cn X + 1) := nI_1 _
  have e2 : nI (cn X) * (6 : Int32) = nI (cn X * 6) := pk_mul _ 6
  have e3 : nI (cn X + 1) * (6 : Int32) = nI ((cn X + 1) * 6) := pk_mul _ 6
  have e4 : nI (cn X) * (8 : Int32) = nI (cn X * 8) := pk_mul _ 8
  have e5 : nI (cn X + 1) * (8 : Int32) = nI ((cn X + 1) * 8) := pk_mul _ 8
  have inK : ∀ f, f < 9 → 1 ≤ f → kC k kt (ky k f) := fun f h1 h2 => Or.inl ⟨f, h1, h2, rfl⟩
  have nK : ∀ f, f < 9 → ¬ kL kt (ky k f) := by
    intro f hf q
    have h2 := hT.2.1
    rcases q with e | e
    · have := (ky_iff (by omega) (by decide)).mp e
      rcases h2 with rfl | rfl
      · rw [this.1] at hk; cases hk
      · rw [this.1] at hk; cases hk
    · have := (ky_iff (by omega) (by decide)).mp e
      rcases h2 with rfl | rfl
      · rw [this.1] at hk; cases hk
      · rw [this.1] at hk; cases hk
  have c1 := copy_nI (S := S) L3 L3 (by decide) (sp := cn X * 6) (dp := (cn X + 1) * 6) (n := 6) (by omega) (by omega)
  have o1 := on_A S (ky k 3) (va_cpy (st_A S (ky k 3)) (st_A S (ky k 3)) (cn X * 6) ((cn X + 1) * 6) 6) (inK 3 (by decide) (by decide))
  generalize hS1 : up_A S (ky k 3) (va_cpy (st_A S (ky k 3)) (st_A S (ky k 3)) (cn X * 6) ((cn X + 1) * 6) 6) = S1 at c1 o1
  have c2 := copy_nI (S := S1) L4 L4 (by decide) (sp := cn X * 8) (dp := (cn X + 1) * 8) (n := 8) (by omega) (by omega)
  have o2 := on_A S1 (ky k 4) (va_cpy (st_A S1 (ky k 4)) (st_A S1 (ky k 4)) (cn X * 8) ((cn X + 1) * 8) 8) (inK 4 (by decide) (by decide))
  generalize hS2 : up_A S1 (ky k 4) (va_cpy (st_A S1 (ky k 4)) (st_A S1 (ky k 4)) (cn X * 8) ((cn X + 1) * 8) 8) = S2 at c2 o2
  have c3 := at_nI (S := S2) L6 (i := cn X) (by omega) (by decide)
  have c4 := put_nI (S := S2) (v := st_A S2 (ky k 6) (cn X)) L6 (i := cn X + 1) (by omega) (by decide)
  have o3 := on_A S2 (ky k 6) (upd (st_A S2 (ky k 6)) (cn X + 1) (st_A S2 (ky k 6) (cn X))) (inK 6 (by decide) (by decide))
  generalize hS3 : up_A S2 (ky k 6) (upd (st_A S2 (ky k 6)) (cn X + 1) (st_A S2 (ky k 6) (cn X))) = S3 at c4 o3
  have o13 := on_trans o1 (on_trans o2 o3)
  have i1 : st_I S1 (ky k 1) = nI (cn X) := by rw [← hS1, gI_A, h.2.2.2.1]
  have i2 : st_I S2 (ky k 1) = nI (cn X) := by rw [← hS2, gI_A, i1]
  have i3 : st_I S3 (ky k 1) = nI (cn X) := by rw [← hS3, gI_A, i2]
  have p3 : st_P S3 (ky k 0) = kt := by rw [← hS3, gP_A, ← hS2, gP_A, ← hS1, gP_A, h.2.2.1]
  have a2 : st_A S3 (ky k 2) = st_A S (ky k 2) := by
    rw [← hS3, gA_A, if_neg (ky_ne (by decide) (by decide) (by omega)), ← hS2, gA_A, if_neg (ky_ne (by decide) (by decide) (by omega)), ← hS1, gA_A, if_neg (ky_ne (by decide) (by decide) (by omega))]
  have a3 : st_A S3 (ky k 3) = va_cpy (st_A S (ky k 3)) (st_A S (ky k 3)) (cn X * 6) ((cn X + 1) * 6) 6 := by
    rw [← hS3, gA_A, if_neg (ky_ne (by decide) (by decide) (by omega)), ← hS2, gA_A, if_neg (ky_ne (by decide) (by decide) (by omega)), ← hS1, gA_A, if_pos rfl]
  have a4 : st_A S3 (ky k 4) = va_cpy (st_A S (ky k 4)) (st_A S (ky k 4)) (cn X * 8) ((cn X + 1) * 8) 8 := by
    rw [← hS3, gA_A, if_neg (ky_ne (by decide) (by decide) (by omega)), ← hS2, gA_A, if_pos rfl, ← hS1, gA_A, if_neg (ky_ne (by decide) (by decide) (by omega))]
  have a5 : st_A S3 (ky k 5) = st_A S (ky k 5) := by
    rw [← hS3, gA_A, if_neg (ky_ne (by decide) (by decide) (by omega)), ← hS2, gA_A, if_neg (ky_ne (by decide) (by decide) (by omega)), ← hS1, gA_A, if_neg (ky_ne (by decide) (by decide) (by omega))]
  have a6 : st_A S3 (ky k 6) = upd (st_A S (ky k 6)) (cn X + 1) (st_A S (ky k 6) (cn X)) := by
    rw [← hS3, gA_A, if_pos rfl, ← hS2, gA_A, if_neg (ky_ne (by decide) (by decide) (by omega)), ← hS1, gA_A, if_neg (ky_ne (by decide) (by decide) (by omega))]
  have a7 : st_A S3 (ky k 7) = st_A S (ky k 7) := by
    rw [← hS3, gA_A, if_neg (ky_ne (by decide) (by decide) (by omega)), ← hS2, gA_A, if_neg (ky_ne (by decide) (by decide) (by omega)), ← hS1, gA_A, if_neg (ky_ne (by decide) (by decide) (by omega))]
  have a8 : st_A S3 (ky k 8) = st_A S (ky k 8) := by
    rw [← hS3, gA_A, if_neg (ky_ne (by decide) (by decide) (by omega)), ← hS2, gA_A, if_neg (ky_ne (by decide) (by decide) (by omega)), ← hS1, gA_A, if_neg (ky_ne (by decide) (by decide) (by omega))]
  have T3 : tC kt S3 T := tC_kC hk hT o13
  have C3 : cC k kt S3 T X := by
    refine cC_cg hT.1 h hk p3 i3 (fun j _ => by rw [a2]) (fun j hj => ?_) (fun j hj => ?_) (fun j _ => by rw [a5]) (fun j hj => ?_) (fun j _ => by rw [a7]) (fun j _ => by rw [a8])
    · rw [a3, pk_cpy_out (by omega)]
    · rw [a4, pk_cpy_out (by omega)]
    · rw [a6, upd_n (by omega)]
  obtain ⟨S4, w4, T4, C4, o4, q3, q4, q6, r4⟩ := loop_P (step := f_X0_moveMen_L76 k (nI (cn X + 1))) S3 (tn T 2) (fun z => z) (fun i z => tC kt z T ∧ cC k kt z T X ∧ on (kC k kt) S3 z ∧ st_A z (ky k 3) = st_A S3 (ky k 3) ∧ st_A z (ky k 4) = st_A S3 (ky k 4) ∧ st_A z (ky k 6) = st_A S3 (ky k 6) ∧ ∀ a, a < i → st_A z (ky k 2) ((cn X + 1) * 6 + a) = nI (s_next T X a)) (by omega) ⟨T3, C3, on_refl _ _, rfl, rfl, rfl, fun a ha => absurd ha (Nat.not_lt_zero _)⟩ (fun i z hi hz => by
    obtain ⟨zT, zC, zo, z3, z4, z6, zr⟩ := hz
    obtain ⟨f, g, hw⟩ := C_roomAfter zT zC hi
    have oL := on_law kt z f g
    have t2 := tC_kC hk zT (on_mono (fun q hq => Or.inr hq) oL)
    have c2 := cC_kL zT zC oL
    have kA : ∀ f', f' < 9 → st_A (up_A (up_A z (ky (kt + 2) 6) f) (ky (kt + 2) 5) g) (ky k f') = st_A z (ky k f') := fun f' hf' => (oL _ (nK f' hf')).2.1
    generalize up_A (up_A z (ky (kt + 2) 6) f) (ky (kt + 2) 5) g = z1 at hw oL t2 c2 kA
    have oA := on_A z1 (ky k 2) (upd (st_A z1 (ky k 2)) ((cn X + 1) * 6 + i) (nI (s_next T X i))) (inK 2 (by decide) (by decide))
    have ne : ∀ f', f' < 9 → f' ≠ 2 → st_A (up_A z1 (ky k 2) (upd (st_A z1 (ky k 2)) ((cn X + 1) * 6 + i) (nI (s_next T X i)))) (ky k f') = st_A z1 (ky k f') := fun f' hf' hne => by rw [gA_A, if_neg (ky_ne (by omega) (by decide) (by omega))]
    refine ⟨_, ?_, tC_kC hk t2 oA, ?_, on_trans zo (on_trans (on_mono (fun q hq => Or.inr hq) oL) oA), ?_, ?_, ?_, ?_⟩
    · unfold f_X0_moveMen_L76
      rw [chk_t (cC_T zT zC), zC.2.2.1, zT.2.2.1 2 (by decide), if_neg (show ¬ nI (tn T 2) ≤ nI i from nI_ge hi (by omega)), hw, bnd, show (6 : Int32) = nI 6 from rfl, ix_mul, put_nI L2 (by omega) (by decide), bnd, ← nI_succ]
    · refine cC_cg hT.1 c2 hk c2.2.2.1 c2.2.2.2.1 (fun j hj => ?_) (fun j _ => by rw [ne 3 (by decide) (by decide)]) (fun j _ => by rw [ne 4 (by decide) (by decide)]) (fun j _ => by rw [ne 5 (by decide) (by decide)]) (fun j _ => by rw [ne 6 (by decide) (by decide)]) (fun j _ => by rw [ne 7 (by decide) (by decide)]) (fun j _ => by rw [ne 8 (by decide) (by decide)])
      rw [gA_A, if_pos rfl, upd_n (by omega)]
    · rw [ne 3 (by decide) (by decide), kA 3 (by decide), z3]
    · rw [ne 4 (by decide) (by decide), kA 4 (by decide), z4]
    · rw [ne 6 (by decide) (by decide), kA 6 (by decide), z6]
    · intro a ha
      rw [gA_A, if_pos rfl, upd_e]
      by_cases e : (cn X + 1) * 6 + a = (cn X + 1) * 6 + i
      · rw [if_pos e, show a = i by omega]
      · rw [if_neg e, kA 2 (by decide)]
        exact zr a (by omega)) (fun z hz => by
    obtain ⟨zT, zC, zo, z3, z4, z6, zr⟩ := hz
    unfold f_X0_moveMen_L76
    rw [chk_t (cC_T zT zC), zC.2.2.1, zT.2.2.1 2 (by decide), if_pos (show nI (tn T 2) ≤ nI (tn T 2) from nI_le (Nat.le_refl _) (by omega))])
  have oI := on_I S4 (ky k 1) (nI (cn X + 1)) (inK 1 (by decide) (by decide))
  refine ⟨up_I S4 (ky k 1) (nI (cn X + 1)), ?_, tC_kC hk T4 oI, ?_, on_trans o13 (on_trans o4 oI)⟩
  · unfold f_X0_moveMen
    rw [h.2.2.2.1, e1, e2, e3, e5]
    change (f_X5_copy (ky k 3) (ky k 3) S (nI (cn X * 6)) (nI ((cn X + 1) * 6)) (nI 6)).bind _ = _
    rw [c1, bnd, i1, e4]
    change (f_X5_copy (ky k 4) (ky k 4) S1 (nI (cn X * 8)) (nI ((cn X + 1) * 8)) (nI 8)).bind _ = _
    rw [c2, bnd, i2, c3, bnd, c4, bnd, w4, bnd, lt_e]
  · refine ⟨cb_min h.1 hn hx, hk, ?_, by rw [gI_I, if_pos rfl]; rfl, fun t ht => ?_, fun m hm => ?_⟩
    · rw [gP_I]
      exact C4.2.2.1
    · rw [show st_A (up_I S4 (ky k 1) (nI (cn X + 1))) = st_A S4 from rfl]
      have ht' : t ≤ cn X + 1 := ht
      by_cases e : t = cn X + 1
      · subst e
        have g := C3.2.2.2.2.1 (cn X) (Nat.le_refl _)
        have g0 := h.2.2.2.2.1 (cn X) (Nat.le_refl _)
        refine ⟨fun i hi => ⟨?_, ?_⟩, fun m hm => ⟨?_, fun q => ?_⟩, ?_⟩
        · rw [r4 i hi]
          exact congrArg nI (x_row_0 X _ _ i).symm
        · rw [q3, a3, pk_cpy_in (by omega) (by omega), show cn X * 6 + ((cn X + 1) * 6 + i - (cn X + 1) * 6) = cn X * 6 + i by omega, (g0.1 i hi).2]
          exact congrArg nI (x_row_1 X _ _ i).symm
        · rw [q4, a4, pk_cpy_in (by omega) (by omega), show cn X * 8 + ((cn X + 1) * 8 + m - (cn X + 1) * 8) = cn X * 8 + m by omega, (g0.2.1 m hm).1]
          exact congrArg nI (x_row_2 X _ _ m).symm
        · exact absurd q (Nat.lt_irrefl _)
        · rw [q6, a6, upd_s, g0.2.2]
          have := x_row_w X (s_next T X) (fun m => s_late T (x_row X (s_next T X) (fun _ => 0)) m (cf X 1 (cn X) (tf T 5 m)))
          show _ = nI (bs (tn T 3) (cw (x_row X _ _) (cn X + 1)))
          rw [this]
      · have ht2 : t ≤ cn X := by omega
        have g := C4.2.2.2.2.1 t ht2
        refine ⟨fun i hi => ⟨?_, ?_⟩, fun m hm => ⟨?_, fun q => ?_⟩, ?_⟩
        · rw [(g.1 i hi).1]
          exact congrArg nI (x_row_o ht2 _ _).symm
        · rw [(g.1 i hi).2]
          exact congrArg nI (x_row_o ht2 _ _).symm
        · rw [(g.2.1 m hm).1]
          exact congrArg nI (x_row_o ht2 _ _).symm
        · rw [(g.2.1 m hm).2 trivial]
          exact congrArg nI (x_row_o ht2 _ _).symm
        · rw [g.2.2]
          show _ = nI (bs (tn T 3) (cw (x_row X _ _) t))
          rw [x_row_wo ht2]
    · exact C4.2.2.2.2.2 m hm
