/-! WHAT IS DONE, on: turning, breaking, minutes, undoing. -/
theorem ne10 : ¬ (1 : Int32) = 0 := by decide
theorem C_wIl {n a : Nat} {m : Int32} (e : nI n = m) (ha : a < n) (hn : n < 2 ^ 31) : f_X5_within (nI a) m = some 1 := e ▸ C_wi ha hn
theorem C_wOl {n : Nat} {m x : Int32} (e : nI n = m) (h : x < 0 ∨ nI n ≤ x) : f_X5_within x m = some 0 := by rw [← e]; exact C_wo h
theorem M_wIl {n a : Nat} {m : Int32} (e : nI n - 1 = m) (ha : a < n) (hn : n < 2 ^ 31) : f_X6_in (nI a) (0 : Int32) m = some 1 := e ▸ M_wi ha hn
theorem M_wOl {n : Nat} {m x : Int32} (e : nI n - 1 = m) (hn : n < 2 ^ 31) (h : x < 0 ∨ nI n ≤ x) : f_X6_in x (0 : Int32) m = some 0 := by rw [← e]; exact M_wo hn h
section DP
variable {kt s : Nat} {A : AB} {S M : St}
theorem Q_turn (hA : RA A) (hC : RC kt A S) (hM : RM s A M) (x : Int32) (b : Bool) : ans S M (f_X5_turn S x (if b then 1 else 0)) (f_X6_turn M x (if b then 1 else 0)) := by
  have b3 := hC.1.1.2.2.2.1
  have hn := hC.2.1.1.1
  unfold f_X5_turn f_X6_turn
  rcases vld x (n := tn (aT A) 3) (by omega) with ⟨a, ha, rfl⟩ | hx
  · rw [C_mirI hC ha, M_mirI hM ha, bnd, bnd, if_neg ne10, if_neg ne10]
    have e6 : (20 : Int32) + nI a = nI (20 + a) := nI_add 20 a
    have row := (hM.2.1.2.2.1 (cn (aX A)) (Nat.le_refl _)).2 a ha
    rw [hC.2.1.2.2.2.1, C_turned hC.1 hC.2.1 ha (Nat.le_refl _), bnd, e6, M_now hM (by omega), bnd, ← Nat.add_assoc, row.2.1]
    have hJ : (if (if cw (aX A) (cn (aX A)) a = true then (1 : Int32) else 0) = 1 then f_X6_turn_J25 M (nI a) (if b then 1 else 0) 1 else f_X6_turn_J25 M (nI a) (if b then 1 else 0) 0) = f_X6_turn_J25 M (nI a) (if b then 1 else 0) (if cw (aX A) (cn (aX A)) a = true then 1 else 0) := by
      by_cases c : cw (aX A) (cn (aX A)) a = true
      · rw [if_pos c, if_pos rfl]
      · rw [if_neg c, if_neg (by decide)]
    rw [hJ]
    unfold f_X6_turn_J25
    by_cases c : (if cw (aX A) (cn (aX A)) a = true then (1 : Int32) else 0) = (if b then 1 else 0)
    · rw [if_pos c, if_pos c]
      exact ans_no hA hC hM 0 rfl rfl
    · rw [if_neg c, if_neg c]
      have hpre := pre_wall (aT A) (aX A) a b
      obtain ⟨S1, S2, w1, w2, rc⟩ := C_do hC (X := x_wall (aX A) a b) (fun S => f_X0_putWall 10 S (nI a) (if b then 1 else 0)) (fun S1 t1 c1 => C_putWall t1 c1 ha b)
      obtain ⟨M', w3, rm⟩ := M_becomes hM hpre (j := 20 + a) (by omega) (if b then 1 else 0) (fun M1 t1 c1 => by
        rw [← Nat.add_assoc]
        have o := on_A (K := kM fsC) M1 (ky 0 56) (upd (st_A M1 (ky 0 56)) (36 * cn (aX A) + 20 + a) (if b then 1 else 0)) ⟨56, by decide, rfl⟩
        obtain ⟨M2, v1, v2, v3, v4⟩ := M_fillsLate (tM_fsC t1 o) (cM_p (M_putWall t1.1 c1 ha b) (fun _ _ _ _ _ => trivial)) (okL_cg hA.1 rfl (fun _ _ => rfl))
        exact ⟨M2, v1, v2, v3, on_trans o v4⟩)
      refine ⟨1, S2, M', ?_, ?_, _, kt, s, RA_new hA hM.2.2.1.1 hC.2.1.1 (okL_cg (Y := x_wall (aX A) a b) hA.1 rfl (fun _ _ => rfl)) hpre, rc, rm⟩
      · rw [w1, bnd]
        change (f_X0_putWall 10 S1 (nI a) (if b then 1 else 0)).bind _ = _
        rw [show f_X0_putWall 10 S1 (nI a) (if b then 1 else 0) = some S2 from w2, bnd]
      · rw [e6]
        unfold f_X6_turn_J45
        cases b
        · rw [if_pos (by rfl)]
          change (f_X6_becomes M (nI (20 + a)) 0).bind _ = _
          rw [show f_X6_becomes M (nI (20 + a)) 0 = some M' from w3, bnd]
        · rw [if_neg (by decide)]
          change (f_X6_becomes M (nI (20 + a)) 1).bind _ = _
          rw [show f_X6_becomes M (nI (20 + a)) 1 = some M' from w3, bnd]
  · rw [C_mirO hC hx, M_mirO hM hx, bnd, bnd, if_pos rfl, if_pos rfl]
    exact ans_no hA hC hM 0 rfl rfl
theorem Q_smash (hA : RA A) (hC : RC kt A S) (hM : RM s A M) (x : Int32) : ans S M (f_X5_smash S x) (f_X6_smash M x) := by
  have b3 := hC.1.1.2.2.2.1
  have hn := hC.2.1.1.1
  unfold f_X5_smash f_X6_smash
  rcases vld x (n := tn (aT A) 3) (by omega) with ⟨a, ha, rfl⟩ | hx
  · rw [C_mirI hC ha, M_mirI hM ha, bnd, bnd, if_neg ne10, if_neg ne10]
    rw [hC.2.1.2.2.2.1, C_broken hC.1 hC.2.1 ha (Nat.le_refl _), bnd, chk_t (ib_nI (by omega) (by decide)), nI_clamp (by omega), (hM.2.1.2.2.2 a ha).1]
    have hb := bkM_none hC.2.1.1 ha
    by_cases c : s_brk (aX A) a (cn (aX A)) = true
    · rw [if_pos c, if_neg (by decide), if_neg (fun e => hb.mp e c)]
      exact ans_no hA hC hM 0 rfl rfl
    · rw [if_neg c, if_pos rfl, if_pos (hb.mpr c)]
      have hpre := pre_break (aT A) (aX A) a (s_brk_none hC.2.1.1 ha c)
      obtain ⟨S1, S2, w1, w2, rc⟩ := C_do hC (X := x_break (aX A) a) (fun S => f_X0_breakNow 10 S (nI a)) (fun S1 t1 c1 => by
        obtain ⟨S2, v1, v2, v3⟩ := C_breakNow t1 c1 ha
        exact ⟨S2, v1, tC_kC rfl t1 v3, v2, v3⟩)
      obtain ⟨M1, M2, M3, u1, u2, u3, rm⟩ := M_do hM hpre (fun M => f_X6_breaksNow M (nI a)) (fun M1 t1 c1 _ _ => by
        obtain ⟨M2, v1, v2, v3⟩ := M_breaksNow t1 c1 ha
        exact ⟨M2, v1, tM_fsC t1 v3, v2, v3⟩)
      refine ⟨1, S2, M3, ?_, ?_, _, kt, s, RA_new hA hM.2.2.1.1 hC.2.1.1 (okL_cg (Y := x_break (aX A) a) hA.1 rfl (fun _ _ => rfl)) hpre, rc, rm⟩
      · rw [w1, bnd]
        change (f_X0_breakNow 10 S1 (nI a)).bind _ = _
        rw [show f_X0_breakNow 10 S1 (nI a) = some S2 from w2, bnd]
      · rw [u1, bnd]
        change (f_X6_breaksNow M1 (nI a)).bind _ = _
        rw [show f_X6_breaksNow M1 (nI a) = some M2 from u2, bnd, u3, bnd]
  · rw [C_mirO hC hx, M_mirO hM hx, bnd, bnd, if_pos rfl, if_pos rfl]
    exact ans_no hA hC hM 0 rfl rfl
theorem Q_minutes (hA : RA A) (hC : RC kt A S) (hM : RM s A M) (x : Int32) : ans S M (f_X5_minutes S x) (f_X6_minutes M x) := by
  have hn := hC.2.1.1.1
  unfold f_X5_minutes f_X6_minutes
  rw [hC.2.1.2.2.2.1, hM.2.1.2.1]
  rcases vld x (n := 300) (by decide) with ⟨n, hx, rfl⟩ | hx
  · rw [C_wIl (n := 300) (m := 300) rfl hx (by decide), M_wIl (n := 300) (m := 299) (by decide) hx (by decide), bnd, bnd, if_neg ne10, if_neg ne10]
    have e1 : (299 : Int32) - nI (cn (aX A)) = nI (299 - cn (aX A)) := pk_sub (a := 299) hn
    rw [e1, nI_add]
    by_cases c : cn (aX A) + n ≤ 299
    · rw [if_pos (show nI n ≤ nI (299 - cn (aX A)) from nI_le (by omega) (by omega)), if_pos (show nI (cn (aX A) + n) ≤ (299 : Int32) from nI_le (b := 299) c (by decide))]
      by_cases c0 : n = 0
      · subst c0
        rw [if_pos (show nI 0 ≤ (0 : Int32) from by decide), if_pos (show nI 0 = (0 : Int32) from rfl)]
        unfold f_X5_minutes_J42
        rw [hC.2.1.2.2.2.1, nI_add, Nat.add_zero]
        obtain ⟨S', w, t, q, o⟩ := C_goTo hC.1 hC.2.1 (e := cn (aX A)) (by omega)
        rw [Nat.sub_self] at q
        have hh := hC_kC hC.2.2.2.1 (show cl_C 10 = 0 from rfl) hC.1.2.1 o
        have rc : RC kt (aUp A (aX A) (au A) (aH A)) S' := RC_new hC (on_mono (fun _ => Or.inr) o) t q hh
        refine ⟨nI (cn (aX A)), S', M, ?_, rfl, A, kt, s, hA, rc, hM⟩
        rw [w, bnd, q.2.2.2.1]
        rfl
      · rw [if_neg (show ¬ nI n ≤ (0 : Int32) from nI_np (by omega) (by omega)), if_neg (nI_nz (by omega) (by omega))]
        have hpre := pre_run (sd := nI (tn (aT A) 5)) hC.1.1 hC.2.1.1 n (by omega)
        have hcn := x_run_n (aT A) (nI (tn (aT A) 5)) (aX A) n
        obtain ⟨S1, S2, w1, w2, rc⟩ := C_do hC (X := x_run (aT A) (nI (tn (aT A) 5)) (aX A) n) (fun S => f_X0_goTo 10 S (nI (cn (aX A) + n))) (fun S1 t1 c1 => by
          have g := C_goTo t1 c1 (e := cn (aX A) + n) (by omega)
          rw [Nat.add_sub_cancel_left] at g
          exact g)
        obtain ⟨M1, M2, M3, u1, u2, u3, rm⟩ := M_do hM hpre (fun M => f_X6_goesTill M (nI (cn (aX A) + n))) (fun M1 t1 c1 i1 _ => by
          have g := M_goesTill t1 c1 i1 (e := cn (aX A) + n) (by omega)
          rw [show min (cn (aX A) + n) 299 - cn (aX A) = n by omega] at g
          exact g)
        have i1 : st_I S1 (ky 10 1) = nI (cn (aX A)) := by
          obtain ⟨S1', v1, _, o1⟩ := C_keep hC.1 hC.2.1 hC.2.2.2.1
          have : S1' = S1 := Option.some.inj (v1.symm.trans w1)
          rw [← this]
          exact (cC_P hC.2.1 o1).2.2.2.1
        have j1 : st_I M1 (ky 0 53) = nI (cn (aX A)) := by
          obtain ⟨M1', v1, _, _, _, o1⟩ := M_copies hM.1 hM.2.1
          have : M1' = M1 := Option.some.inj (v1.symm.trans u1)
          rw [← this, (o1 _ (kM_n (by decide) (by decide) (by decide))).1]
          exact hM.2.1.2.1
        refine ⟨nI (cn (aX A) + n), S2, M3, ?_, ?_, _, kt, s, RA_new hA hM.2.2.1.1 hC.2.1.1 (okL_run hA.1 n) hpre, rc, rm⟩
        · rw [w1, bnd]
          unfold f_X5_minutes_J42
          rw [i1, nI_add]
          change (f_X0_goTo 10 S1 (nI (cn (aX A) + n))).bind _ = _
          rw [show f_X0_goTo 10 S1 (nI (cn (aX A) + n)) = some S2 from w2, bnd, rc.2.1.2.2.2.1]
          exact congrArg (fun z => some (nI z, S2)) hcn
        · rw [u1, bnd, j1, nI_add]
          change (f_X6_goesTill M1 (nI (cn (aX A) + n))).bind _ = _
          rw [show f_X6_goesTill M1 (nI (cn (aX A) + n)) = some M2 from u2, bnd, u3, bnd, rm.2.1.2.1]
          exact congrArg (fun z => some (nI z, M3)) hcn
    · rw [if_neg (show ¬ nI n ≤ nI (299 - cn (aX A)) from nI_ge (by omega) (by omega)), if_neg (show ¬ nI (cn (aX A) + n) ≤ (299 : Int32) from nI_ge (a := 299) (by omega) (by omega))]
      exact ans_no hA hC hM (-1) rfl rfl
  · rw [C_wOl (n := 300) (m := 300) rfl hx, M_wOl (n := 300) (m := 299) (by decide) (by decide) hx, bnd, bnd, if_pos rfl, if_pos rfl]
    exact ans_no hA hC hM (-1) rfl rfl
theorem Q_undo (hA : RA A) (hC : RC kt A S) (hM : RM s A M) : ans S M (f_X5_undo S) (f_X6_undo M) := by
  have hu : au A = 0 ∨ ∃ u, au A = u + 1 := by
    cases h : au A with
    | zero => exact Or.inl rfl
    | succ u => exact Or.inr ⟨u, rfl⟩
  rcases hu with h0 | ⟨u, h1⟩
  · unfold f_X5_undo
    rw [C_takeBack0 hC.2.2.2.1 h0, bnd, chk_t isb0, M_undo0 hM.2.2.1 h0]
    exact ans_no hA hC hM 0 rfl rfl
  · have c4 := hC.2.2.2.1
    have m3 := hM.2.2.1
    have a2 := hA.2.1
    rw [h1] at c4 m3 a2
    obtain ⟨S', w, t, q, hh, o⟩ := C_takeBack hC.1 hC.2.1 c4 a2
    obtain ⟨M', w', t', q', hh', o'⟩ := M_undo hM.1 hM.2.1 m3 a2
    have hN : ∀ q, kM [52, 53, 54, 55, 61] q → kM fsN q := by
      rintro q ⟨f, hf, e⟩
      exact ⟨f, (by decide : ∀ f ∈ [52, 53, 54, 55, 61], f ∈ fsN) f hf, e⟩
    refine ⟨1, S', M', ?_, w', aUp A (aH A u) u (aH A), kt, s, ⟨(a2.1 u (by omega)).2, hX_back a2, hA.2.2⟩, RC_new hC o t q hh, RM_new hM (on_mono hN o') t' q' hh'⟩
    unfold f_X5_undo
    rw [w, bnd, chk_t isb1]
end DP
