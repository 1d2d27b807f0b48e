/-! THE BEGINNING: the class's state when it is made. -/
def jn (P : Nat → Bool) (S S' : St) : St := (fun q => if P (q / 100) then S.1 q else S'.1 q, fun q => if P (q / 100) then S.2.1 q else S'.2.1 q, fun q => if P (q / 100) then S.2.2.1 q else S'.2.2.1 q, fun q => if P (q / 100) then S.2.2.2.1 q else S'.2.2.2.1 q, fun q => if P (q / 100) then S.2.2.2.2 q else S'.2.2.2.2 q)
theorem jn_1 (P : Nat → Bool) (S S' : St) : on (fun q => ¬ P (q / 100) = true) S (jn P S S') := fun q hq => by
  have h : P (q / 100) = true := Classical.not_not.mp hq
  exact ⟨if_pos h, if_pos h, if_pos h, if_pos h, if_pos h⟩
theorem jn_2 (P : Nat → Bool) (S S' : St) : on (fun q => P (q / 100) = true) S' (jn P S S') := fun q hq => ⟨if_neg hq, if_neg hq, if_neg hq, if_neg hq, if_neg hq⟩
def ckS (o : Option St) : Bool := match o with
  | none => false
  | some S => (List.range 17).all (fun i => decide (st_L S (ky 1 0) i = lN (codeB 32 (wordsL.getD i []))))
theorem ckS_ok : ckS (f_X3_init s0_C) = true := by decide +kernel
theorem C_scan0 : ∃ S, f_X3_init s0_C = some S ∧ ∀ i, i < 17 → st_L S (ky 1 0) i = lN (codeB 32 (wordsL.getD i [])) := by
  have h := ckS_ok
  cases e : f_X3_init s0_C with
  | none => rw [e] at h; cases h
  | some S =>
    rw [e] at h
    refine ⟨S, rfl, fun i hi => ?_⟩
    have h1 := List.all_eq_true.mp h i (List.mem_range.mpr hi)
    exact of_decide_eq_true h1
abbrev T00 : TX := TXo P0
abbrev X00 : CT := x_lat T00 (x_beg0 T00)
def kK (k : Nat) : Nat → Prop := fun q => q / 100 = k ∨ q / 100 = 4
theorem rs_on (k kt : Nat) (S : St) : on (fun q => q / 100 = k) S (rs_C k kt S) := fun q h => ⟨if_neg h, if_neg h, rfl, rfl, if_neg h⟩
theorem kB_sub {k : Nat} (q : Nat) (h : kB k 2 q) : kK k q := by
  rcases h with ⟨f, hf, rfl⟩ | rfl | rfl
  · exact Or.inl (ky_div k (by omega))
  · exact Or.inr (ky_div 4 (by decide))
  · exact Or.inr (ky_div 4 (by decide))
theorem C_court {k : Nat} (hk : k ∈ [10, 11, 12, 13, 14]) {S : St} (hT : tC 2 S T00) : ∃ S', f_X0_begin k 2 (rs_C k 2 S) = some S' ∧ tC 2 S' T00 ∧ cC k 2 S' T00 X00 ∧ on (kK k) S S' := by
  have hk0 : cl_C k = 0 := (by decide : ∀ k ∈ ([10, 11, 12, 13, 14] : List Nat), cl_C k = 0) k hk
  have hk2 : k ≠ 2 ∧ k ≠ 4 := (by decide : ∀ k ∈ ([10, 11, 12, 13, 14] : List Nat), k ≠ 2 ∧ k ≠ 4) k hk
  have o1 := rs_on k 2 S
  have T1 : tC 2 (rs_C k 2 S) T00 := tC_on hT o1 (fun f hf e => by
    have e2 : ky 2 f / 100 = k := e
    rw [ky_div 2 (by omega)] at e2
    exact hk2.1 e2.symm) (fun f hf e => by
    have e2 : ky 4 f / 100 = k := e
    rw [ky_div 4 (by omega)] at e2
    exact hk2.2 e2.symm)
  obtain ⟨S', e, T2, C2, o2⟩ := C_begin hk0 T1
  exact ⟨S', e, T2, C2, on_trans (on_mono (fun q h => Or.inl h) o1) (on_mono kB_sub o2)⟩
theorem cC_kK {k z : Nat} {S S' : St} (hz : z ≠ k ∧ z ≠ 4) (h : cC z 2 S T00 X00) (o : on (kK k) S S') : cC z 2 S' T00 X00 := cC_on h o (fun f hf e => by
  rcases e with e | e
  · have e2 : ky z f / 100 = k := e
    rw [ky_div z (by omega)] at e2
    exact hz.1 e2
  · have e2 : ky z f / 100 = 4 := e
    rw [ky_div z (by omega)] at e2
    exact hz.2 e2)
def crts (l : List Nat) (S : St) : Prop := tC 2 S T00 ∧ ∀ z ∈ l, cC z 2 S T00 X00
theorem crts_p {l : List Nat} {S : St} (h : crts l S) : ∀ z ∈ l, st_P S (ky z 0) = 2 := fun z hz => (h.2 z hz).2.2.1
theorem C_courts {k : Nat} {l : List Nat} (hk : k ∈ [10, 11, 12, 13, 14]) (hl : ∀ z ∈ l, z ≠ k ∧ z ≠ 4) {S : St} (h : crts l S) : ∃ S', f_X0_begin k 2 (rs_C k 2 S) = some S' ∧ crts (k :: l) S' ∧ on (kK k) S S' := by
  obtain ⟨S', e, T2, C2, o2⟩ := C_court hk h.1
  refine ⟨S', e, ⟨T2, fun z hz => ?_⟩, o2⟩
  rcases List.mem_cons.mp hz with rfl | hz
  · exact C2
  · exact cC_kK (hl z hz) (h.2 z hz) o2
def A00 : AB := (T00, X00, 0, fun _ => X00, fun _ => none, 0, fun _ => (0, 0, 0, false), 0, fun _ => 0, -1)
theorem RA_00 : RA A00 := RA_rd A00 T00
/-- what stands when the class's constructor has gone through -/
theorem C_start : ∃ Ss S2 S3 S0 SA SB SC SD SE : St, (f_X3_init s0_C = some Ss ∧ f_X4_clear 2 s0_C = some S2 ∧ f_X4_clear 3 s0_C = some S3) ∧ (on (fun q => ¬ (q / 100 = 2 ∨ q / 100 = 4)) S2 S0 ∧ on (fun q => ¬ (q / 100 = 3 ∨ q / 100 = 5)) S3 S0 ∧ on (fun q => ¬ q / 100 = 1) Ss SE ∧ on (fun q => ¬ (q / 100 = 0 ∨ q / 100 = 6)) s0_C SE) ∧ (f_X0_begin 10 2 (rs_C 10 2 S0) = some SA ∧ f_X0_begin 11 2 (rs_C 11 2 SA) = some SB ∧ f_X0_begin 12 2 (rs_C 12 2 SB) = some SC ∧ f_X0_begin 13 2 (rs_C 13 2 SC) = some SD ∧ f_X0_begin 14 2 (rs_C 14 2 SD) = some SE) ∧ ((∀ z ∈ [10], st_P SA (ky z 0) = 2) ∧ (∀ z ∈ [11, 10], st_P SB (ky z 0) = 2) ∧ (∀ z ∈ [12, 11, 10], st_P SC (ky z 0) = 2) ∧ (∀ z ∈ [13, 12, 11, 10], st_P SD (ky z 0) = 2) ∧ ∀ z ∈ [14, 13, 12, 11, 10], st_P SE (ky z 0) = 2) ∧ RC 2 A00 SE := by
  obtain ⟨Ss, es, ws⟩ := C_scan0
  obtain ⟨S2, e2, _, _, B2⟩ := C_clear4 (B := fun _ => 0) (n := 0) (kt := 2) (Or.inl rfl) s0_C
  obtain ⟨S3, e3, _, _, B3⟩ := C_clear4 (B := fun _ => 0) (n := 0) (kt := 3) (Or.inr rfl) s0_C
  have T2 : tC 2 S2 T00 := tC_o (o' := []) (Or.inl rfl) gP0.2.2 gP0.2.1 B2 (by decide)
  have q3 := jn_1 (fun c => decide (c = 3 ∨ c = 5)) S3 s0_C
  have q0 := jn_2 (fun c => decide (c = 3 ∨ c = 5)) S3 s0_C
  generalize jn (fun c => decide (c = 3 ∨ c = 5)) S3 s0_C = Y3 at q3 q0
  have r2 := jn_1 (fun c => decide (c = 2 ∨ c = 4)) S2 Y3
  have r3 := jn_2 (fun c => decide (c = 2 ∨ c = 4)) S2 Y3
  generalize jn (fun c => decide (c = 2 ∨ c = 4)) S2 Y3 = Y2 at r2 r3
  have t1 := jn_1 (fun c => decide (c = 1)) Ss Y2
  have t2 := jn_2 (fun c => decide (c = 1)) Ss Y2
  generalize jn (fun c => decide (c = 1)) Ss Y2 = S0 at t1 t2
  have o2 : on (fun q => ¬ (q / 100 = 2 ∨ q / 100 = 4)) S2 S0 := on_trans (on_mono (fun q h h2 => h (decide_eq_true h2)) r2) (on_mono (fun q h => by
    have h1 : q / 100 = 1 := of_decide_eq_true h
    show ¬ (q / 100 = 2 ∨ q / 100 = 4)
    omega) t2)
  have o3 : on (fun q => ¬ (q / 100 = 3 ∨ q / 100 = 5)) S3 S0 := on_trans (on_trans (on_mono (fun q h h2 => h (decide_eq_true h2)) q3) (on_mono (fun q h => by
    have h1 : q / 100 = 2 ∨ q / 100 = 4 := of_decide_eq_true h
    show ¬ (q / 100 = 3 ∨ q / 100 = 5)
    omega) r3)) (on_mono (fun q h => by
    have h1 : q / 100 = 1 := of_decide_eq_true h
    show ¬ (q / 100 = 3 ∨ q / 100 = 5)
    omega) t2)
  have os : on (fun q => ¬ q / 100 = 1) Ss S0 := on_mono (fun q h h2 => h (decide_eq_true h2)) t1
  have o0 : on (fun q => ¬ (q / 100 = 0 ∨ q / 100 = 6)) s0_C S0 := on_trans (on_trans (on_mono (fun q h => by
    have h1 : q / 100 = 3 ∨ q / 100 = 5 := of_decide_eq_true h
    show ¬ (q / 100 = 0 ∨ q / 100 = 6)
    omega) q0) (on_mono (fun q h => by
    have h1 : q / 100 = 2 ∨ q / 100 = 4 := of_decide_eq_true h
    show ¬ (q / 100 = 0 ∨ q / 100 = 6)
    omega) r3)) (on_mono (fun q h => by
    have h1 : q / 100 = 1 := of_decide_eq_true h
    show ¬ (q / 100 = 0 ∨ q / 100 = 6)
    omega) t2)
  have T0 : tC 2 S0 T00 := tC_on T2 o2 (fun f hf e => e (Or.inl (ky_div 2 (by omega)))) (fun f hf e => e (Or.inr (ky_div 4 (by omega))))
  have k1 : ∀ {k : Nat} {S S' : St}, 10 ≤ k → on (kK k) S S' → on (fun q => ¬ q / 100 = 1) S S' := fun hk o => on_mono (fun q h => by
    have h1 : q / 100 = _ ∨ q / 100 = 4 := h
    show ¬ q / 100 = 1
    omega) o
  have k0 : ∀ {k : Nat} {S S' : St}, 10 ≤ k → on (kK k) S S' → on (fun q => ¬ (q / 100 = 0 ∨ q / 100 = 6)) S S' := fun hk o => on_mono (fun q h => by
    have h1 : q / 100 = _ ∨ q / 100 = 4 := h
    show ¬ (q / 100 = 0 ∨ q / 100 = 6)
    omega) o
  obtain ⟨SA, eA, cA, oA⟩ := C_courts (k := 10) (l := []) (S := S0) (by decide) (by decide) ⟨T0, fun z hz => absurd hz List.not_mem_nil⟩
  obtain ⟨SB, eB, cB, oB⟩ := C_courts (k := 11) (by decide) (by decide) cA
  obtain ⟨SC, eC, cC1, oC⟩ := C_courts (k := 12) (by decide) (by decide) cB
  obtain ⟨SD, eD, cD, oD⟩ := C_courts (k := 13) (by decide) (by decide) cC1
  obtain ⟨SE, eE, cE, oE⟩ := C_courts (k := 14) (by decide) (by decide) cD
  have s1 : on (fun q => ¬ q / 100 = 1) Ss SE := on_trans os (on_trans (k1 (by decide) oA) (on_trans (k1 (by decide) oB) (on_trans (k1 (by decide) oC) (on_trans (k1 (by decide) oD) (k1 (by decide) oE)))))
  have s0 : on (fun q => ¬ (q / 100 = 0 ∨ q / 100 = 6)) s0_C SE := on_trans o0 (on_trans (k0 (by decide) oA) (on_trans (k0 (by decide) oB) (on_trans (k0 (by decide) oC) (on_trans (k0 (by decide) oD) (k0 (by decide) oE)))))
  have z0 : ∀ f, f < 100 → ¬ ¬ (ky 0 f / 100 = 0 ∨ ky 0 f / 100 = 6) := fun f hf h => h (Or.inl (ky_div 0 hf))
  have z6 : ∀ f, f < 100 → ¬ ¬ (ky 6 f / 100 = 0 ∨ ky 6 f / 100 = 6) := fun f hf h => h (Or.inr (ky_div 6 hf))
  refine ⟨Ss, S2, S3, S0, SA, SB, SC, SD, SE, ⟨es, e2, e3⟩, ⟨o2, o3, s1, s0⟩, ⟨eA, eB, eC, eD, eE⟩, ⟨crts_p cA, crts_p cB, crts_p cC1, crts_p cD, crts_p cE⟩, cE.1, cE.2 10 (by decide), ⟨?_, ?_⟩, ⟨Nat.zero_le _, 0, by decide, ?_, ?_, fun j hj => absurd hj (Nat.not_lt_zero _)⟩, ⟨?_, (fun j _ Y hY => by cases hY)⟩, ⟨?_, fun j hj => absurd hj (Nat.not_lt_zero _)⟩, ⟨?_, fun j hj => absurd hj (Nat.not_lt_zero _)⟩, ?_, fun i hi => ?_⟩
  · rw [(s0 _ (z0 4 (by decide))).2.2.2.2]; rfl
  · rw [(s0 _ (z0 5 (by decide))).2.2.2.2]; rfl
  · rw [(s0 _ (z6 1 (by decide))).1]; rfl
  · rw [(s0 _ (z6 2 (by decide))).1]; rfl
  · rw [(s0 _ (z0 10 (by decide))).1]; rfl
  · rw [(s0 _ (z0 12 (by decide))).1]; rfl
  · rw [(s0 _ (z0 1 (by decide))).1]; rfl
  · rw [(s0 _ (z0 2 (by decide))).1]; rfl
  · rw [(s1 _ (fun h => h (ky_div 1 (by decide)))).2.2.2.1]
    exact ws i hi
