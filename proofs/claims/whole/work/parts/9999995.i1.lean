/-! THE BEGINNING: the reference's state when it is made. -/
theorem w6_0 : f_X6_word (114 : Int32) (111 : Int32) (111 : Int32) (109 : Int32) (0 : Int32) (0 : Int32) (0 : Int32) = some (lN (codeB 27 (wordsL.getD 0 []))) := by decide +kernel
theorem w6_1 : f_X6_word (100 : Int32) (111 : Int32) (111 : Int32) (114 : Int32) (0 : Int32) (0 : Int32) (0 : Int32) = some (lN (codeB 27 (wordsL.getD 1 []))) := by decide +kernel
theorem w6_2 : f_X6_word (109 : Int32) (97 : Int32) (110 : Int32) (0 : Int32) (0 : Int32) (0 : Int32) (0 : Int32) = some (lN (codeB 27 (wordsL.getD 2 []))) := by decide +kernel
theorem w6_3 : f_X6_word (103 : Int32) (111 : Int32) (101 : Int32) (115 : Int32) (0 : Int32) (0 : Int32) (0 : Int32) = some (lN (codeB 27 (wordsL.getD 3 []))) := by decide +kernel
theorem w6_4 : f_X6_word (109 : Int32) (105 : Int32) (114 : Int32) (114 : Int32) (111 : Int32) (114 : Int32) (0 : Int32) = some (lN (codeB 27 (wordsL.getD 4 []))) := by decide +kernel
theorem w6_5 : f_X6_word (108 : Int32) (97 : Int32) (116 : Int32) (101 : Int32) (0 : Int32) (0 : Int32) (0 : Int32) = some (lN (codeB 27 (wordsL.getD 5 []))) := by decide +kernel
theorem w6_6 : f_X6_word (98 : Int32) (114 : Int32) (101 : Int32) (97 : Int32) (107 : Int32) (115 : Int32) (0 : Int32) = some (lN (codeB 27 (wordsL.getD 6 []))) := by decide +kernel
theorem w6_7 : f_X6_word (115 : Int32) (101 : Int32) (101 : Int32) (100 : Int32) (0 : Int32) (0 : Int32) (0 : Int32) = some (lN (codeB 27 (wordsL.getD 7 []))) := by decide +kernel
theorem w6_8 : f_X6_word (105 : Int32) (102 : Int32) (0 : Int32) (0 : Int32) (0 : Int32) (0 : Int32) (0 : Int32) = some (lN (codeB 27 (wordsL.getD 8 []))) := by decide +kernel
theorem w6_9 : f_X6_word (116 : Int32) (104 : Int32) (101 : Int32) (110 : Int32) (0 : Int32) (0 : Int32) (0 : Int32) = some (lN (codeB 27 (wordsL.getD 9 []))) := by decide +kernel
theorem w6_10 : f_X6_word (101 : Int32) (108 : Int32) (115 : Int32) (101 : Int32) (0 : Int32) (0 : Int32) (0 : Int32) = some (lN (codeB 27 (wordsL.getD 10 []))) := by decide +kernel
theorem w6_11 : f_X6_word (109 : Int32) (105 : Int32) (110 : Int32) (117 : Int32) (116 : Int32) (101 : Int32) (0 : Int32) = some (lN (codeB 27 (wordsL.getD 11 []))) := by decide +kernel
theorem w6_12 : f_X6_word (104 : Int32) (101 : Int32) (114 : Int32) (101 : Int32) (0 : Int32) (0 : Int32) (0 : Int32) = some (lN (codeB 27 (wordsL.getD 12 []))) := by decide +kernel
theorem w6_13 : f_X6_word (114 : Int32) (97 : Int32) (110 : Int32) (107 : Int32) (0 : Int32) (0 : Int32) (0 : Int32) = some (lN (codeB 27 (wordsL.getD 13 []))) := by decide +kernel
theorem w6_14 : f_X6_word (110 : Int32) (117 : Int32) (109 : Int32) (98 : Int32) (101 : Int32) (114 : Int32) (0 : Int32) = some (lN (codeB 27 (wordsL.getD 14 []))) := by decide +kernel
theorem w6_15 : f_X6_word (119 : Int32) (97 : Int32) (121 : Int32) (115 : Int32) (0 : Int32) (0 : Int32) (0 : Int32) = some (lN (codeB 27 (wordsL.getD 15 []))) := by decide +kernel
theorem w6_16 : f_X6_word (119 : Int32) (105 : Int32) (116 : Int32) (104 : Int32) (0 : Int32) (0 : Int32) (0 : Int32) = some (lN (codeB 27 (wordsL.getD 16 []))) := by decide +kernel
def kyT (n : Nat) (S : St) : Prop := ∀ i, i < n → st_L S (ky 0 9) i = lN (codeB 27 (wordsL.getD i []))
theorem key_step {S0 S : St} {n : Nat} (hn : n < 17) {o : Option Int64} (ho : o = some (lN (codeB 27 (wordsL.getD n [])))) (hk : kyT n S) (hon : on (kM [9]) S0 S) {F : St → Option St} {Q : St → Prop} (kk : ∀ S', kyT (n + 1) S' → on (kM [9]) S0 S' → ∃ q, F S' = some q ∧ Q q) : ∃ q, (o.bind (fun q2 => chk (ib (nI n) 17) (lt_v (up_L S (ky 0 9) (vp_updL (st_L S (ky 0 9)) (nI n).toNatClampNeg q2)) F))) = some q ∧ Q q := by
  subst ho
  rw [bnd, chk_t (ib_nI hn (by decide)), lt_e, nI_clamp (by omega)]
  refine kk _ (fun i hi => ?_) (on_trans hon (on_L _ _ _ ⟨9, by decide, rfl⟩))
  rw [gLs]
  by_cases c : i = n
  · subst c
    exact pk_uLs
  · rw [pk_uLn c]
    exact hk i (by omega)
theorem M_start : ∃ S1, f_X6_init s0_M = some S1 ∧ RM 0 A00 S1 := by
  obtain ⟨Z, e0, o0, v0, l0⟩ := M_plain (S := s0_M) (sd := 0) (by decide)
  unfold f_X6_init
  rw [show f_X6_plain s0_M (0 : Int32) = some Z from e0, bnd]
  refine key_step (S0 := Z) (n := 0) (by decide) w6_0 (fun i hi => absurd hi (Nat.not_lt_zero _)) (on_refl _ _) (fun S1 k1 q1 => ?_)
  refine key_step (S0 := Z) (n := 1) (by decide) w6_1 k1 q1 (fun S2 k2 q2 => ?_)
  refine key_step (S0 := Z) (n := 2) (by decide) w6_2 k2 q2 (fun S3 k3 q3 => ?_)
  refine key_step (S0 := Z) (n := 3) (by decide) w6_3 k3 q3 (fun S4 k4 q4 => ?_)
  refine key_step (S0 := Z) (n := 4) (by decide) w6_4 k4 q4 (fun S5 k5 q5 => ?_)
  refine key_step (S0 := Z) (n := 5) (by decide) w6_5 k5 q5 (fun S6 k6 q6 => ?_)
  refine key_step (S0 := Z) (n := 6) (by decide) w6_6 k6 q6 (fun S7 k7 q7 => ?_)
  refine key_step (S0 := Z) (n := 7) (by decide) w6_7 k7 q7 (fun S8 k8 q8 => ?_)
  refine key_step (S0 := Z) (n := 8) (by decide) w6_8 k8 q8 (fun S9 k9 q9 => ?_)
  refine key_step (S0 := Z) (n := 9) (by decide) w6_9 k9 q9 (fun S10 k10 q10 => ?_)
  refine key_step (S0 := Z) (n := 10) (by decide) w6_10 k10 q10 (fun S11 k11 q11 => ?_)
  refine key_step (S0 := Z) (n := 11) (by decide) w6_11 k11 q11 (fun S12 k12 q12 => ?_)
  refine key_step (S0 := Z) (n := 12) (by decide) w6_12 k12 q12 (fun S13 k13 q13 => ?_)
  refine key_step (S0 := Z) (n := 13) (by decide) w6_13 k13 q13 (fun S14 k14 q14 => ?_)
  refine key_step (S0 := Z) (n := 14) (by decide) w6_14 k14 q14 (fun S15 k15 q15 => ?_)
  refine key_step (S0 := Z) (n := 15) (by decide) w6_15 k15 q15 (fun S16 k16 q16 => ?_)
  refine key_step (S0 := Z) (n := 16) (by decide) w6_16 k16 q16 (fun S17 k17 q17 => ?_)
  have n0 : ∀ f, f < 100 → f ∉ [24, 25, 28, 31, 34, 35, 36, 37] → ¬ kM [24, 25, 28, 31, 34, 35, 36, 37] (ky 0 f) := fun f hf hn => kM_n (by decide) hf hn
  have n9 : ∀ f, f < 100 → f ≠ 9 → ¬ kM [9] (ky 0 f) := fun f hf hn => kM_n (by decide) hf (fun z => hn (List.mem_singleton.mp z))
  have gI : ∀ f, f < 100 → f ∉ [24, 25, 28, 31, 34, 35, 36, 37] → f ≠ 9 → st_I S17 (ky 0 f) = st_I s0_M (ky 0 f) := fun f h1 h2 h3 => ((q17 _ (n9 f h1 h3)).1).trans (o0.1 _ (n0 f h1 h2)).1
  have gA : ∀ f, f < 100 → f ∉ [24, 25, 28, 31, 34, 35, 36, 37] → f ≠ 9 → st_A S17 (ky 0 f) = st_A s0_M (ky 0 f) := fun f h1 h2 h3 => ((q17 _ (n9 f h1 h3)).2.1).trans (o0.1 _ (n0 f h1 h2)).2.1
  have gZ : ∀ f, f < 100 → f ≠ 9 → st_A S17 (ky 0 f) = st_A Z (ky 0 f) := fun f h1 h3 => (q17 _ (n9 f h1 h3)).2.1
  have h18 : st_I S17 (ky 0 18) = nI 0 := (gI 18 (by decide) (by decide) (by decide)).trans rfl
  have hb : tb T00 := tb_o gP0.2.2 gP0.2.1
  have lw : ∀ i, i < 7 → lawM 0 S17 i (tg T00 i) := fun i hi => M_lawM (all := []) (bl := []) (x := none) (by decide) hi (by decide) (by decide) (fun j hj => absurd hj (Nat.not_lt_zero _)) (fun j hj => absurd hj (Nat.not_lt_zero _)) (by
    show st_A S17 (ky 0 36) (7 * 0 + i) = st_A S17 (ky 0 37) (7 * 0 + i)
    rw [gZ 36 (by decide) (by decide), gZ 37 (by decide) (by decide), (l0 i hi).1, (l0 i hi).2]) (fun brs h => by cases h) h18
  have T1 : tM 0 S17 T00 := by
    refine ⟨hb, by decide, h18, ⟨?_, ?_, ?_, ?_, ?_, ?_⟩, fun d hd => absurd hd (Nat.not_lt_zero _), fun d hd => absurd hd (Nat.not_lt_zero _), fun d hd => absurd hd (Nat.not_lt_zero _), fun d hd => absurd hd (Nat.not_lt_zero _), lw 6 (by decide), fun i h7 => (lawF_V (x := none) (i := i) (fun brs h => by cases h) : lawV (lawF none i))⟩
    · rw [gZ 24 (by decide) (by decide)]; exact v0 24 (by decide)
    · rw [gZ 25 (by decide) (by decide)]; exact v0 25 (by decide)
    · rw [gZ 28 (by decide) (by decide)]; exact v0 28 (by decide)
    · rw [gZ 31 (by decide) (by decide)]; exact v0 31 (by decide)
    · rw [gZ 34 (by decide) (by decide)]; exact v0 34 (by decide)
    · rw [gZ 35 (by decide) (by decide)]; exact v0 35 (by decide)
  obtain ⟨S2, e2, T2, C2, _, o2⟩ := M_beginsWith (x1 := -1) (x2 := -1) (X0 := x_beg0 T00) T1 (cb_beg0 hb) rfl (fun i hi => absurd hi (Nat.not_lt_zero _)) (fun i hi => rfl) (fun m hm => rfl) (fun m => rfl) (fun m => rfl)
  obtain ⟨S3, e3, T3, C3, o3⟩ := M_keepsRows T2 C2
  have oB : on (kM [49, 50, 51, 52, 53, 54, 55, 56, 57, 58, 59, 60]) S17 S3 := on_trans (kM_mono (by decide) o2) (kM_mono (by decide) o3)
  have nB : ∀ f, f < 100 → f ∉ [49, 50, 51, 52, 53, 54, 55, 56, 57, 58, 59, 60] → ¬ kM [49, 50, 51, 52, 53, 54, 55, 56, 57, 58, 59, 60] (ky 0 f) := fun f hf hn => kM_n (by decide) hf hn
  refine ⟨S3, ?_, T3, C3, ⟨Nat.zero_le _, ?_, fun j hj => absurd hj (Nat.not_lt_zero _)⟩, ⟨fun j hj => ?_, (fun j _ Y hY => by cases hY)⟩, ⟨?_, fun j hj => absurd hj (Nat.not_lt_zero _)⟩, ⟨?_, fun j hj => absurd hj (Nat.not_lt_zero _)⟩, ?_, fun i hi => ?_⟩
  · unfold f_X6_begins
    rw [e2, bnd, bnd, show f_X6_keepsRows S2 (0 : Int32) = some S3 from e3, bnd]
  · rw [(oB _ (nB 61 (by decide) (by decide))).1, gI 61 (by decide) (by decide) (by decide)]; rfl
  · rw [(oB _ (nB 72 (by decide) (by decide))).2.1, gA 72 (by decide) (by decide) (by decide)]; rfl
  · rw [(oB _ (nB 67 (by decide) (by decide))).1, gI 67 (by decide) (by decide) (by decide)]; rfl
  · rw [(oB _ (nB 2 (by decide) (by decide))).1, gI 2 (by decide) (by decide) (by decide)]; rfl
  · rw [(oB _ (nB 17 (by decide) (by decide))).1, gI 17 (by decide) (by decide) (by decide)]; rfl
  · rw [(oB _ (nB 9 (by decide) (by decide))).2.2.2.1]
    exact k17 i hi
