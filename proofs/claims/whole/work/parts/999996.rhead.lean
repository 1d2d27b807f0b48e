/-! THE REFERENCE READS: up to its tells. -/
theorem ne0 {a b : Nat} (ha : a < 100) (hb : b < 100) (h : a ≠ b) : ¬ ky 0 a = ky 0 b := ky_ne ha hb (fun q => h q.2)
theorem M_plain {S : St} {sd : Nat} (hsd : sd < 2) : ∃ S', f_X6_plain S (nI sd) = some S' ∧ oh sd [24, 25, 28, 31, 34, 35, 36, 37] S S' ∧ (∀ f ∈ [24, 25, 28, 31, 34, 35], st_A S' (ky 0 f) sd = 0) ∧ ∀ i, i < 7 → st_A S' (ky 0 36) (7 * sd + i) = 0 ∧ st_A S' (ky 0 37) (7 * sd + i) = 0 := by
  have i2 : ib (nI sd) 2 := ib_nI hsd (by decide)
  have cl : (nI sd).toNatClampNeg = sd := nI_clamp (by omega)
  unfold f_X6_plain
  rw [chk_t i2, lt_e, chk_t i2, lt_e, chk_t i2, lt_e, chk_t i2, lt_e, chk_t i2, lt_e, chk_t i2, lt_e, cl]
  have ow : ∀ (S : St) (g : Nat), g ∈ [24, 25, 28, 31, 34, 35] → oh sd [24, 25, 28, 31, 34, 35, 36, 37] S (up_A S (ky 0 g) (upd (st_A S (ky 0 g)) sd (0 : Int32))) := fun S g hg => by
    have h1 := wd1 g (by simpa using hg)
    refine oh_U S g sd 0 ?_ ?_ (by rw [h1]; omega) (by rw [h1]; omega)
    · exact (by decide : ∀ g ∈ [24, 25, 28, 31, 34, 35], g ∈ [24, 25, 28, 31, 34, 35, 36, 37]) g hg
    · exact (by decide : ∀ g ∈ [24, 25, 28, 31, 34, 35], g < 100) g hg
  generalize e1 : up_A S (ky 0 24) (upd (st_A S (ky 0 24)) sd (0 : Int32)) = S1
  generalize e2 : up_A S1 (ky 0 25) (upd (st_A S1 (ky 0 25)) sd (0 : Int32)) = S2
  generalize e3 : up_A S2 (ky 0 28) (upd (st_A S2 (ky 0 28)) sd (0 : Int32)) = S3
  generalize e4 : up_A S3 (ky 0 31) (upd (st_A S3 (ky 0 31)) sd (0 : Int32)) = S4
  generalize e5 : up_A S4 (ky 0 34) (upd (st_A S4 (ky 0 34)) sd (0 : Int32)) = S5
  generalize e6 : up_A S5 (ky 0 35) (upd (st_A S5 (ky 0 35)) sd (0 : Int32)) = S6
  have o6 : oh sd [24, 25, 28, 31, 34, 35, 36, 37] S S6 := by
    rw [← e6, ← e5, ← e4, ← e3, ← e2, ← e1]
    exact oh_trans (oh_trans (oh_trans (oh_trans (oh_trans (ow _ 24 (by decide)) (ow _ 25 (by decide))) (ow _ 28 (by decide))) (ow _ 31 (by decide))) (ow _ 34 (by decide))) (ow _ 35 (by decide))
  have v24 : st_A S6 (ky 0 24) sd = 0 := by
    rw [← e6, gAn _ _ (ne0 (by decide) (by decide) (by decide)), ← e5, gAn _ _ (ne0 (by decide) (by decide) (by decide)), ← e4, gAn _ _ (ne0 (by decide) (by decide) (by decide)), ← e3, gAn _ _ (ne0 (by decide) (by decide) (by decide)), ← e2, gAn _ _ (ne0 (by decide) (by decide) (by decide)), ← e1, gAs, upd_s]
  have v25 : st_A S6 (ky 0 25) sd = 0 := by
    rw [← e6, gAn _ _ (ne0 (by decide) (by decide) (by decide)), ← e5, gAn _ _ (ne0 (by decide) (by decide) (by decide)), ← e4, gAn _ _ (ne0 (by decide) (by decide) (by decide)), ← e3, gAn _ _ (ne0 (by decide) (by decide) (by decide)), ← e2, gAs, upd_s]
  have v28 : st_A S6 (ky 0 28) sd = 0 := by
    rw [← e6, gAn _ _ (ne0 (by decide) (by decide) (by decide)), ← e5, gAn _ _ (ne0 (by decide) (by decide) (by decide)), ← e4, gAn _ _ (ne0 (by decide) (by decide) (by decide)), ← e3, gAs, upd_s]
  have v31 : st_A S6 (ky 0 31) sd = 0 := by
    rw [← e6, gAn _ _ (ne0 (by decide) (by decide) (by decide)), ← e5, gAn _ _ (ne0 (by decide) (by decide) (by decide)), ← e4, gAs, upd_s]
  have v34 : st_A S6 (ky 0 34) sd = 0 := by
    rw [← e6, gAn _ _ (ne0 (by decide) (by decide) (by decide)), ← e5, gAs, upd_s]
  have v35 : st_A S6 (ky 0 35) sd = 0 := by
    rw [← e6, gAs, upd_s]
  obtain ⟨S7, w7, o7, v7⟩ := loop_P (step := f_X6_plain_L44 (nI sd)) S6 7 (fun z => z) (fun i z => oh sd [36, 37] S6 z ∧ ∀ j, j < i → st_A z (ky 0 36) (7 * sd + j) = 0 ∧ st_A z (ky 0 37) (7 * sd + j) = 0) (by decide) ⟨oh_refl _ _ _, fun j hj => absurd hj (Nat.not_lt_zero _)⟩ (fun i z hi hz => by
    obtain ⟨zo, zv⟩ := hz
    have e7 : (7 : Int32) * nI sd + nI i = nI (7 * sd + i) := by
      rw [show (7 : Int32) * nI sd = nI (7 * sd) from pk_mul 7 sd, nI_add]
    have oA := oh_U (sd := sd) (fs := [36, 37]) z 36 (7 * sd + i) 0 (by decide) (by decide) (by show 7 * sd ≤ 7 * sd + i; omega) (by show 7 * sd + i < 7 * sd + 7; omega)
    refine ⟨up_A (up_A z (ky 0 36) (upd (st_A z (ky 0 36)) (7 * sd + i) 0)) (ky 0 37) (upd (st_A z (ky 0 37)) (7 * sd + i) 0), ?_, oh_trans zo (oh_trans oA ?_), fun j hj => ?_⟩
    · unfold f_X6_plain_L44
      rw [if_neg (show ¬ (7 : Int32) ≤ nI i from nI_ge (b := 7) hi (by decide)), e7, chk_t (ib_nI (by omega) (by decide)), nI_clamp (by omega), lt_e, chk_t (ib_nI (by omega) (by decide)), lt_e, nI_1]
      rfl
    · have := oh_U (sd := sd) (fs := [36, 37]) (up_A z (ky 0 36) (upd (st_A z (ky 0 36)) (7 * sd + i) 0)) 37 (7 * sd + i) 0 (by decide) (by decide) (by show 7 * sd ≤ _; omega) (by show _ < 7 * sd + 7; omega)
      rw [gAn _ _ (ne0 (by decide) (by decide) (by decide))] at this
      exact this
    · rw [gAn _ _ (ne0 (by decide) (by decide) (by decide)), gAs, gAs]
      by_cases c : j = i
      · rw [c, upd_s, upd_s]
        exact ⟨rfl, rfl⟩
      · rw [upd_n (by omega), upd_n (by omega)]
        exact zv j (by omega)) (fun z hz => by
    unfold f_X6_plain_L44
    rw [if_pos (show (7 : Int32) ≤ nI 7 from nI_le (Nat.le_refl 7) (by decide))])
  have n7 : ∀ f, f < 100 → f ≠ 36 → f ≠ 37 → st_A S7 (ky 0 f) = st_A S6 (ky 0 f) := fun f h1 h2 h3 => (o7.1 _ (kM_n (by decide) h1 (by simp [h2, h3]))).2.1
  refine ⟨S7, w7, oh_trans o6 (oh_mono (by decide) o7), fun f hf => ?_, v7⟩
  have hf' : f = 24 ∨ f = 25 ∨ f = 28 ∨ f = 31 ∨ f = 34 ∨ f = 35 := by simpa using hf
  rcases hf' with rfl | rfl | rfl | rfl | rfl | rfl
  · rw [n7 24 (by decide) (by decide) (by decide)]; exact v24
  · rw [n7 25 (by decide) (by decide) (by decide)]; exact v25
  · rw [n7 28 (by decide) (by decide) (by decide)]; exact v28
  · rw [n7 31 (by decide) (by decide) (by decide)]; exact v31
  · rw [n7 34 (by decide) (by decide) (by decide)]; exact v34
  · rw [n7 35 (by decide) (by decide) (by decide)]; exact v35
theorem sx_byte : ∀ b, b < 256 → vp_nar .byte (sxB b) &&& (255 : Int32) = nI b := by decide +kernel
/-- all that reading may write ahead of a new text -/
abbrev fsRd : List Nat := [2, 3, 4, 5, 6, 7, 8, 10, 11, 12, 13, 14, 15, 16, 19, 20, 21, 22, 23, 24, 25, 26, 27, 28, 29, 30, 31, 32, 33, 34, 35, 36, 37, 38, 39, 40, 41, 42, 43, 44, 45, 46, 47, 48]
section RH
variable {s : Nat} {A : AB} {M : St}
theorem M_head (hA : RA A) (hM : RM s A M) : ∃ Z, f_X6_read M = (iter f_X6_read_L112 FU Z).bind f_X6_read_J134 ∧ TB (aB A) (an A) (1 - s) Z 0 [] [] P0 none ∧ oh (1 - s) fsRd M Z ∧ st_I Z (ky 0 2) = 0 := by
  obtain ⟨hT, _, _, _, _, ⟨h2, h1⟩, _, hW⟩ := hM
  have hs := hT.2.1
  have hn := hA.2.2.2.2.2.1
  have hBl := hA.2.2.2.2.2.2
  have hsd : 1 - s < 2 := by omega
  -- the copy
  have lp := fill_loop (step := f_X6_read_L10) (up_I M (ky 0 4) (nI (an A))) (ky 0 3) 0 (an A) 0 (fun i => vp_nar .byte (st_A M (ky 0 1) i)) (fun z => z) (Nat.zero_le _) (by omega) (fun i Y q1 q2 hY => by
    have e4 : st_I (up_A (up_I M (ky 0 4) (nI (an A))) (ky 0 3) Y) (ky 0 4) = nI (an A) := (gI_A ..).trans (gIs ..)
    have e1 : st_A (up_A (up_I M (ky 0 4) (nI (an A))) (ky 0 3) Y) (ky 0 1) = st_A M (ky 0 1) := (gAn _ _ (ne0 (by decide) (by decide) (by decide))).trans (gA_I ..)
    unfold f_X6_read_L10
    rw [e4, if_neg (nI_ge q2 (by omega)), chk_t (ib_nI (by omega) (by decide)), chk_t (ib_nI (by omega) (by decide)), nI_clamp (by omega), lt_e, gAs, upA_upA, e1, nI_1, Nat.zero_add]) (fun Y => by
    have e4 : st_I (up_A (up_I M (ky 0 4) (nI (an A))) (ky 0 3) Y) (ky 0 4) = nI (an A) := (gI_A ..).trans (gIs ..)
    unfold f_X6_read_L10
    rw [e4, if_pos (Int32.le_refl _)])
  have o4 : oh (1 - s) fsRd M (up_A (up_I M (ky 0 4) (nI (an A))) (ky 0 3) (fun j => if 0 + 0 ≤ j ∧ j < 0 + an A then vp_nar .byte (st_A M (ky 0 1) (j - 0)) else st_A (up_I M (ky 0 4) (nI (an A))) (ky 0 3) j)) := oh_trans (oh_I _ 4 _ (by decide)) (oh_A _ 3 _ (by decide) (by decide))
  have r3 : ∀ j, j < an A → st_A (up_A (up_I M (ky 0 4) (nI (an A))) (ky 0 3) (fun j => if 0 + 0 ≤ j ∧ j < 0 + an A then vp_nar .byte (st_A M (ky 0 1) (j - 0)) else st_A (up_I M (ky 0 4) (nI (an A))) (ky 0 3) j)) (ky 0 3) j &&& (255 : Int32) = nI (aB A j) := fun j hj => by
    rw [gAs, if_pos (by omega), Nat.sub_zero, h1 j hj]
    exact sx_byte _ (hBl j hj)
  have i4 : st_I (up_A (up_I M (ky 0 4) (nI (an A))) (ky 0 3) (fun j => if 0 + 0 ≤ j ∧ j < 0 + an A then vp_nar .byte (st_A M (ky 0 1) (j - 0)) else st_A (up_I M (ky 0 4) (nI (an A))) (ky 0 3) j)) (ky 0 4) = nI (an A) := (gI_A ..).trans (gIs ..)
  generalize up_A (up_I M (ky 0 4) (nI (an A))) (ky 0 3) (fun j => if 0 + 0 ≤ j ∧ j < 0 + an A then vp_nar .byte (st_A M (ky 0 1) (j - 0)) else st_A (up_I M (ky 0 4) (nI (an A))) (ky 0 3) j) = S4 at lp o4 r3 i4
  have o5 : oh (1 - s) fsRd M (up_I S4 (ky 0 2) (0 : Int32)) := oh_trans o4 (oh_I _ 2 _ (by decide))
  have T5 : tpM (aB A) (an A) (up_I S4 (ky 0 2) (0 : Int32)) := ⟨hn, hBl, i4, r3⟩
  have W5 : wrdM (up_I S4 (ky 0 2) (0 : Int32)) := fun i hi => by
    rw [(o5.1 _ (kM_n (by decide) (by decide) (by decide))).2.2.2.1]
    exact hW i hi
  obtain ⟨S6, e6, o6, t6⟩ := M_cut T5 W5
  have o06 : oh (1 - s) fsRd M S6 := oh_trans o5 (oh_ofS (by decide) (by decide) o6)
  -- the small ones
  have oU : ∀ (S : St) (g : Nat) (x : Int32), g ∈ fsRd → oh (1 - s) fsRd S (up_I S (ky 0 g) x) := fun S g x h => oh_I S g x h
  generalize e11 : up_I (up_I (up_I (up_I (up_I (up_I S6 (ky 0 11) (0 : Int32)) (ky 0 12) (0 : Int32)) (ky 0 13) (0 : Int32)) (ky 0 15) (0 : Int32)) (ky 0 19) (nI (1 - s))) (ky 0 20) (0 : Int32) = S12
  have q6 : oh (1 - s) [11, 12, 13, 15, 19, 20] S6 S12 := by
    rw [← e11]
    exact oh_trans (oh_trans (oh_trans (oh_trans (oh_trans (oh_I _ 11 _ (by decide)) (oh_I _ 12 _ (by decide))) (oh_I _ 13 _ (by decide))) (oh_I _ 15 _ (by decide))) (oh_I _ 19 _ (by decide))) (oh_I _ 20 _ (by decide))
  have o12 : oh (1 - s) fsRd M S12 := oh_trans o06 (oh_mono (by decide) q6)
  have i11 : st_I S12 (ky 0 11) = 0 ∧ st_I S12 (ky 0 12) = 0 ∧ st_I S12 (ky 0 13) = 0 ∧ st_I S12 (ky 0 15) = 0 ∧ st_I S12 (ky 0 19) = nI (1 - s) ∧ st_I S12 (ky 0 20) = 0 := by
    rw [← e11]
    exact ⟨rfl, rfl, rfl, rfl, rfl, rfl⟩
  obtain ⟨S13, e13, o13, v13, l13⟩ := M_plain (S := S12) hsd
  have k13 : ∀ f, f < 100 → f ∉ [24, 25, 28, 31, 34, 35, 36, 37] → st_I S13 (ky 0 f) = st_I S12 (ky 0 f) := fun f h1 h2 => (o13.1 _ (kM_n (by decide) h1 h2)).1
  have h19 : st_I S13 (ky 0 19) = nI (1 - s) := (k13 19 (by decide) (by decide)).trans i11.2.2.2.2.1
  have e130 : (130 : Int32) * nI (1 - s) = nI (130 * (1 - s)) := pk_mul 130 (1 - s)
  have e420 : (420 : Int32) * nI (1 - s) = nI (420 * (1 - s)) := pk_mul 420 (1 - s)
  generalize e15 : up_I (up_I S13 (ky 0 38) (nI (130 * (1 - s)))) (ky 0 44) (nI (420 * (1 - s))) = Z
  have o15 : oh (1 - s) [38, 44] S13 Z := by
    rw [← e15]
    exact oh_trans (oh_I _ 38 _ (by decide)) (oh_I _ 44 _ (by decide))
  have oZ : oh (1 - s) fsRd M Z := oh_trans o12 (oh_trans (oh_mono (by decide) o13) (oh_mono (by decide) o15))
  have kZ : ∀ f, f < 100 → f ∉ [24, 25, 28, 31, 34, 35, 36, 37, 38, 44] → st_I Z (ky 0 f) = st_I S12 (ky 0 f) := fun f h1 h2 => by
    rw [(o15.1 _ (kM_n (by decide) h1 (fun z => h2 ((by decide : ∀ f ∈ [38, 44], f ∈ [24, 25, 28, 31, 34, 35, 36, 37, 38, 44]) f z)))).1]
    exact k13 f h1 (fun z => h2 ((by decide : ∀ f ∈ [24, 25, 28, 31, 34, 35, 36, 37], f ∈ [24, 25, 28, 31, 34, 35, 36, 37, 38, 44]) f z))
  have aZ : ∀ f, f < 100 → f ∉ [38, 44] → st_A Z (ky 0 f) = st_A S13 (ky 0 f) := fun f h1 h2 => (o15.1 _ (kM_n (by decide) h1 h2)).2.1
  have z38 : st_I Z (ky 0 38) = nI (130 * (1 - s)) := by rw [← e15]; rfl
  have z44 : st_I Z (ky 0 44) = nI (420 * (1 - s)) := by rw [← e15]; rfl
  have qZ : oh (1 - s) [11, 12, 13, 15, 19, 20, 24, 25, 28, 31, 34, 35, 36, 37, 38, 44] S6 Z := oh_trans (oh_mono (by decide) q6) (oh_trans (oh_mono (by decide) o13) (oh_mono (by decide) o15))
  have tZ : tkM (aB A) (an A) Z := by
    refine ⟨hBl, fun t h1 h2 => ?_⟩
    have h := t6 t h1 h2
    have g : ∀ f, 5 ≤ f → f ≤ 8 → st_A Z (ky 0 f) = st_A S6 (ky 0 f) ∧ st_L Z (ky 0 f) = st_L S6 (ky 0 f) := fun f h3 h4 => by
      have := qZ.1 _ (kM_n (g := f) (by decide) (by omega) (fun z => by have := (by decide : ∀ f ∈ [11, 12, 13, 15, 19, 20, 24, 25, 28, 31, 34, 35, 36, 37, 38, 44], 8 < f) f z; omega))
      exact ⟨this.2.1, this.2.2.2.1⟩
    unfold tokM at *
    rw [(g 5 (by decide) (by decide)).1, (g 6 (by decide) (by decide)).1, (g 7 (by decide) (by decide)).1, (g 8 (by decide) (by decide)).2]
    exact h
  have at0 : atM (aB A) (an A) Z 0 := ⟨(kZ 13 (by decide) (by decide)).trans i11.2.2.1, (kZ 11 (by decide) (by decide)).trans i11.1, Nat.zero_le _, fun u hu => absurd hu (Nat.not_lt_zero _), tZ⟩
  refine ⟨Z, ?_, ⟨⟨⟨at0, (kZ 12 (by decide) (by decide)).trans i11.2.1, z44, fun j hj => absurd hj (Nat.not_lt_zero _), Nat.le_refl _, hsd⟩, z38, fun j hj => absurd hj (Nat.not_lt_zero _)⟩, Nat.le_refl _, ⟨(kZ 19 (by decide) (by decide)).trans i11.2.2.2.2.1, ⟨?_, ?_, ?_, ?_⟩, gP0.2.2, (kZ 20 (by decide) (by decide)).trans i11.2.2.2.2.2, Nat.zero_le _, fun j hj => absurd hj (Nat.not_lt_zero _)⟩, fun _ => ⟨fun d hd => absurd hd (Nat.not_lt_zero _), fun d hd => absurd hd (Nat.not_lt_zero _), fun d hd => absurd hd (Nat.not_lt_zero _), ?_, ?_, fun i hi => ?_⟩, (kZ 15 (by decide) (by decide)).trans i11.2.2.2.1, (fun a ha => by cases ha), fun i => Nat.le_refl _⟩, oZ, ?_⟩
  · unfold f_X6_read
    rw [lt_e, h2]
    change (iter _ FU (nI 0, up_I M (ky 0 4) (nI (an A)))).bind _ = _
    have e19 : (1 : Int32) - st_I (up_I (up_I (up_I (up_I S6 (ky 0 11) (0 : Int32)) (ky 0 12) (0 : Int32)) (ky 0 13) (0 : Int32)) (ky 0 15) (0 : Int32)) (ky 0 18) = nI (1 - s) := by
      have e18 : st_I (up_I (up_I (up_I (up_I S6 (ky 0 11) (0 : Int32)) (ky 0 12) (0 : Int32)) (ky 0 13) (0 : Int32)) (ky 0 15) (0 : Int32)) (ky 0 18) = nI s := by
        show st_I S6 (ky 0 18) = nI s
        rw [(o06.1 _ (kM_n (by decide) (by decide) (by decide))).1]
        exact hT.2.2.1
      rw [e18]
      have : s = 0 ∨ s = 1 := by omega
      rcases this with rfl | rfl <;> decide
    rw [lp, bnd, lt_e, e6, bnd, lt_e, lt_e, lt_e, lt_e, lt_e, e19, lt_e, e11, i11.2.2.2.2.1, e13, bnd, h19, e130, lt_e]
    show lt_v (up_I (up_I S13 (ky 0 38) (nI (130 * (1 - s)))) (ky 0 44) ((420 : Int32) * st_I S13 (ky 0 19))) _ = _
    rw [h19, e420, lt_e, e15]
  · rw [aZ 24 (by decide) (by decide)]; exact v13 24 (by decide)
  · rw [aZ 25 (by decide) (by decide)]; exact v13 25 (by decide)
  · rw [aZ 28 (by decide) (by decide)]; exact v13 28 (by decide)
  · rw [aZ 31 (by decide) (by decide)]; exact v13 31 (by decide)
  · rw [aZ 34 (by decide) (by decide)]; exact v13 34 (by decide)
  · rw [aZ 35 (by decide) (by decide)]; exact v13 35 (by decide)
  · show st_A Z (ky 0 36) (7 * (1 - s) + i) = st_A Z (ky 0 37) (7 * (1 - s) + i)
    rw [aZ 36 (by decide) (by decide), aZ 37 (by decide) (by decide), (l13 i hi).1, (l13 i hi).2]
  · rw [kZ 2 (by decide) (by decide), ← e11]
    show st_I S6 (ky 0 2) = 0
    rw [(o6 _ (kM_n (by decide) (by decide) (by decide))).1]
    exact gIs ..
end RH
