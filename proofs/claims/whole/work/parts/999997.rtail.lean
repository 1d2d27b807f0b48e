/-! THE REFERENCE READS: what it comes to. -/
abbrev fsR2 : List Nat := 17 :: fsRd
theorem wnd {s sd : Nat} (hs : s < 2) (h2 : sd < 2) (hne : s ≠ sd) {q j : Nat} (h3 : wd q * s ≤ j) (h4 : j < wd q * s + wd q) : ¬ (wd q * sd ≤ j ∧ j < wd q * sd + wd q) := by
  have : (s = 0 ∧ sd = 1) ∨ (s = 1 ∧ sd = 0) := by omega
  rcases this with ⟨rfl, rfl⟩ | ⟨rfl, rfl⟩
  · omega
  · omega
/-- the live text stays while the other side is written -/
theorem tM_oh {s sd : Nat} {fs : List Nat} {S S' : St} {T : TX} (h2 : sd < 2) (hne : s ≠ sd) (hf : ∀ f ∈ fs, f < 100 ∧ f ≠ 18) (h : tM s S T) (o : oh sd fs S S') : tM s S' T := by
  have hs := h.2.1
  have e : ∀ f, 24 ≤ f → f ≤ 46 → ∀ j, wd f * s ≤ j → j < wd f * s + wd f → st_A S' (ky 0 f) j = st_A S (ky 0 f) j := fun f f1 f2 j j1 j2 => o.2 f f1 f2 j (wnd hs h2 hne j1 j2)
  have e18 : st_I S' (ky 0 18) = st_I S (ky 0 18) := (o.1 _ (kM_n (fun f hf2 => (hf f hf2).1) (by decide) (fun z => (hf 18 z).2 rfl))).1
  have lw : ∀ i L, lawM s S i L → lawM s S' i L := fun i L hl S2 a0 a1 => hl S2 (fun q hq j b1 b2 => (a0 q hq j b1 b2).trans (e q ((by decide : ∀ q ∈ [36, 37, 39, 40, 41, 42, 43, 45, 46], 24 ≤ q) q hq) ((by decide : ∀ q ∈ [36, 37, 39, 40, 41, 42, 43, 45, 46], q ≤ 46) q hq) j b1 b2)) (a1.trans e18)
  obtain ⟨t1, t2, t3, ⟨t4, t5, t6, t7, t8, t9⟩, t10, t11, t12, t13, t14, t15⟩ := h
  have h6 := t1.2.2.1
  have h8 := t1.2.2.2.1
  have h12 := t1.2.1
  have w1 : ∀ f, f = 24 ∨ f = 25 ∨ f = 28 ∨ f = 31 ∨ f = 34 ∨ f = 35 → st_A S' (ky 0 f) s = st_A S (ky 0 f) s := fun f hf => e f (by omega) (by omega) s (by rw [wd1 f hf]; omega) (by rw [wd1 f hf]; omega)
  refine ⟨t1, t2, e18.trans t3, ⟨?_, ?_, ?_, ?_, ?_, ?_⟩, fun d hd => ?_, fun a ha => ?_, fun m hm => ?_, fun a ha => lw a _ (t13 a ha), lw 6 _ t14, t15⟩
  · rw [w1 24 (by omega)]; exact t4
  · rw [w1 25 (by omega)]; exact t5
  · rw [w1 28 (by omega)]; exact t6
  · rw [w1 31 (by omega)]; exact t7
  · rw [w1 34 (by omega)]; exact t8
  · rw [w1 35 (by omega)]; exact t9
  · rw [e 26 (by decide) (by decide) (12 * s + d) (by show 12 * s ≤ _; omega) (by show _ < 12 * s + 12; omega), e 27 (by decide) (by decide) (12 * s + d) (by show 12 * s ≤ _; omega) (by show _ < 12 * s + 12; omega)]
    exact t10 d hd
  · rw [e 29 (by decide) (by decide) (6 * s + a) (by show 6 * s ≤ _; omega) (by show _ < 6 * s + 6; omega), e 30 (by decide) (by decide) (6 * s + a) (by show 6 * s ≤ _; omega) (by show _ < 6 * s + 6; omega)]
    exact t11 a ha
  · rw [e 32 (by decide) (by decide) (8 * s + m) (by show 8 * s ≤ _; omega) (by show _ < 8 * s + 8; omega), e 33 (by decide) (by decide) (8 * s + m) (by show 8 * s ≤ _; omega) (by show _ < 8 * s + 8; omega)]
    exact t12 m hm
def aFl (A : AB) (p : Int32) : AB := (aT A, aX A, au A, aH A, aS A, aK A, aL A, 0, aB A, p)
def aRd (A : AB) (T : TX) : AB := (T, x_lat T (x_beg0 T), 0, aH A, fun _ => none, 0, aL A, 0, aB A, -1)
theorem RA_fl {A : AB} (h : RA A) (p : Int32) : RA (aFl A p) := ⟨h.1, h.2.1, h.2.2.1, h.2.2.2.1, h.2.2.2.2.1, Nat.zero_le _, fun j hj => absurd hj (Nat.not_lt_zero _)⟩
theorem RA_rd (A : AB) (T : TX) : RA (aRd A T) := ⟨okL_lat T (x_beg0 T), ⟨fun j hj => absurd hj (Nat.not_lt_zero _), fun j hj => absurd hj (Nat.not_lt_zero _), fun h => absurd h (Nat.not_lt_zero _)⟩, (fun j _ Y hY => by cases hY), Nat.zero_le _, fun j hj => absurd hj (Nat.not_lt_zero _), Nat.zero_le _, fun j hj => absurd hj (Nat.not_lt_zero _)⟩
section RT
variable {s : Nat} {A : AB} {M : St}
theorem RM_fl (hM : RM s A M) {M' : St} (o : oh (1 - s) fsR2 M M') (h2 : st_I M' (ky 0 2) = 0) {p : Int32} (h17 : st_I M' (ky 0 17) = p) : RM s (aFl A p) M' := by
  obtain ⟨c1, c2, c3, c4, c5, c6, c7, c8⟩ := hM
  have hs := c1.2.1
  have n : ∀ f, f < 100 → f ∉ fsR2 → ¬ kM fsR2 (ky 0 f) := fun f hf hn => kM_n (by decide) hf hn
  refine ⟨tM_oh (by omega) (by omega) (by decide) c1 o, cM_on c2 o.1 (n _ (by decide) (by decide)) (n _ (by decide) (by decide)) (n _ (by decide) (by decide)) (n _ (by decide) (by decide)), hM_on c3 o.1 (n _ (by decide) (by decide)) (n _ (by decide) (by decide)), slotM_on c4 o.1 (n _ (by decide) (by decide)) (n _ (by decide) (by decide)) (n _ (by decide) (by decide)), tellM_on c5 o.1 (n _ (by decide) (by decide)) (fun f h1 h2 => kM_n (by decide) (by omega) (fun z => by have := (by decide : ∀ f ∈ fsR2, f < 68) f z; omega)), ⟨h2, fun j hj => absurd hj (Nat.not_lt_zero _)⟩, h17, ?_⟩
  rw [(o.1 _ (n 9 (by decide) (by decide))).2.2.2.1]
  exact c8
theorem TB_17 {B : Nat → Nat} {n sd t : Nat} {S S' : St} {all : CL} {bl : List BR} {P : TP} {w : Option (Nat × Nat)} (h : TB B n sd S t all bl P w) (o : on (kM [17, 18]) S S') : TB B n sd S' t all bl P w := by
  have n : ∀ f, f < 100 → f ∉ [17, 18] → ¬ kM [17, 18] (ky 0 f) := fun f hf hn => kM_n (by decide) hf hn
  obtain ⟨h1, h2, ⟨h3, ⟨a1, a2, a3, a4⟩, h4, h5⟩, h6, h7, h8, h9⟩ := h
  refine ⟨LX_mv (by decide) h1 o (Nat.le_refl _) (atM_on (by decide) h1.1.1 o), h2, ⟨?_, ⟨?_, ?_, ?_, ?_⟩, h4, NMS_on h5 (by decide) o⟩, fun e => TBr_mv (h6 e) (by decide) o, wst_on h7 (by decide) o, h8, h9⟩
  · rw [(o _ (n 19 (by decide) (by decide))).1]; exact h3
  · rw [(o _ (n 24 (by decide) (by decide))).2.1]; exact a1
  · rw [(o _ (n 25 (by decide) (by decide))).2.1]; exact a2
  · rw [(o _ (n 28 (by decide) (by decide))).2.1]; exact a3
  · rw [(o _ (n 31 (by decide) (by decide))).2.1]; exact a4
theorem M_take {B : Nat → Nat} {n N : Nat} {S : St} {all : CL} {bl : List BR} {P : TP} (hM : RM s A M) (hr : gR P) (h : TB B n (1 - s) S N all bl P none) (o : oh (1 - s) fsRd M S) (h2 : st_I S (ky 0 2) = 0) : ∃ M', f_X6_read_J134 S = some ((0 : Int32), M') ∧ RM (1 - s) (aRd A (TXo P)) M' := by
  have h13 := h.1.1.1.1
  have h15 : st_I S (ky 0 15) = 0 := h.2.2.2.2.1
  have h19 := h.2.2.1.1
  have o1 : on (kM [17, 18]) S (up_I (up_I S (ky 0 17) (-1 : Int32)) (ky 0 18) (nI (1 - s))) := on_trans (on_I _ _ _ ⟨17, by decide, rfl⟩) (on_I _ _ _ ⟨18, by decide, rfl⟩)
  have T1 := tM_o hr (TB_17 h o1) (gIs ..)
  have hb : tb (TXo P) := T1.1
  obtain ⟨S2, e2, T2, C2, _, o2⟩ := M_beginsWith (x1 := -1) (x2 := -1) (X0 := x_beg0 (TXo P)) T1 (cb_beg0 hb) rfl (fun i hi => by
    have := hb.2.2.1
    rw [if_neg (nI_m1 (by omega))]
    rfl) (fun i hi => rfl) (fun m hm => rfl) (fun m => rfl) (fun m => rfl)
  obtain ⟨S3, e3, T3, C3, o3⟩ := M_keepsRows T2 C2
  have oL : ∀ (S : St) (Y : Nat → Int32), on (kM [72]) S (up_A S (ky 0 72) Y) := fun S Y => on_A _ _ _ ⟨72, by decide, rfl⟩
  have lp := fill_loop (step := f_X6_read_L220) (up_I (up_I S3 (ky 0 61) (0 : Int32)) (ky 0 67) (0 : Int32)) (ky 0 72) 0 3 0 (fun _ => vp_nar .boolean (0 : Int32)) (fun z => ((0 : Int32), z)) (by decide) (by decide) (fun i Y q1 q2 hY => by
    unfold f_X6_read_L220
    rw [if_neg (show ¬ (3 : Int32) ≤ nI i from nI_ge (b := 3) q2 (by decide)), chk_t (ib_nI (by omega) (by decide)), nI_clamp (by omega), lt_e, gAs, upA_upA, nI_1, Nat.zero_add]) (fun Y => by
    unfold f_X6_read_L220
    rw [if_pos (show (3 : Int32) ≤ nI 3 from nI_le (Nat.le_refl 3) (by decide))])
  have o4 : on (kM [61, 67, 72]) S3 (up_A (up_I (up_I S3 (ky 0 61) (0 : Int32)) (ky 0 67) (0 : Int32)) (ky 0 72) (fun j => if 0 + 0 ≤ j ∧ j < 0 + 3 then vp_nar .boolean (0 : Int32) else st_A (up_I (up_I S3 (ky 0 61) (0 : Int32)) (ky 0 67) (0 : Int32)) (ky 0 72) j)) := on_trans (on_trans (on_I _ _ _ ⟨61, by decide, rfl⟩) (on_I _ _ _ ⟨67, by decide, rfl⟩)) (on_A _ _ _ ⟨72, by decide, rfl⟩)
  have a72 : ∀ j, j < 3 → st_A (up_A (up_I (up_I S3 (ky 0 61) (0 : Int32)) (ky 0 67) (0 : Int32)) (ky 0 72) (fun j => if 0 + 0 ≤ j ∧ j < 0 + 3 then vp_nar .boolean (0 : Int32) else st_A (up_I (up_I S3 (ky 0 61) (0 : Int32)) (ky 0 67) (0 : Int32)) (ky 0 72) j)) (ky 0 72) j = 0 := fun j hj => by
    rw [gAs, if_pos (by omega)]
    decide
  have i61 : st_I (up_A (up_I (up_I S3 (ky 0 61) (0 : Int32)) (ky 0 67) (0 : Int32)) (ky 0 72) (fun j => if 0 + 0 ≤ j ∧ j < 0 + 3 then vp_nar .boolean (0 : Int32) else st_A (up_I (up_I S3 (ky 0 61) (0 : Int32)) (ky 0 67) (0 : Int32)) (ky 0 72) j)) (ky 0 61) = 0 := by
    rw [gI_A, gIn _ _ (ne0 (by decide) (by decide) (by decide)), gIs]
  have i67 : st_I (up_A (up_I (up_I S3 (ky 0 61) (0 : Int32)) (ky 0 67) (0 : Int32)) (ky 0 72) (fun j => if 0 + 0 ≤ j ∧ j < 0 + 3 then vp_nar .boolean (0 : Int32) else st_A (up_I (up_I S3 (ky 0 61) (0 : Int32)) (ky 0 67) (0 : Int32)) (ky 0 72) j)) (ky 0 67) = 0 := by
    rw [gI_A, gIs]
  generalize up_A (up_I (up_I S3 (ky 0 61) (0 : Int32)) (ky 0 67) (0 : Int32)) (ky 0 72) (fun j => if 0 + 0 ≤ j ∧ j < 0 + 3 then vp_nar .boolean (0 : Int32) else st_A (up_I (up_I S3 (ky 0 61) (0 : Int32)) (ky 0 67) (0 : Int32)) (ky 0 72) j) = S4 at lp o4 a72 i61 i67
  have oB : on (kM [49, 50, 51, 52, 53, 54, 55, 56, 57, 58, 59, 60, 61, 67, 72]) (up_I (up_I S (ky 0 17) (-1 : Int32)) (ky 0 18) (nI (1 - s))) S4 := on_trans (kM_mono (by decide) o2) (on_trans (kM_mono (by decide) o3) (kM_mono (by decide) o4))
  have nB : ∀ f, f < 49 → ¬ kM [49, 50, 51, 52, 53, 54, 55, 56, 57, 58, 59, 60, 61, 67, 72] (ky 0 f) := fun f hf => kM_n (by decide) (by omega) (fun z => by have := (by decide : ∀ f ∈ [49, 50, 51, 52, 53, 54, 55, 56, 57, 58, 59, 60, 61, 67, 72], 49 ≤ f) f z; omega)
  have n4 : ∀ f, f < 100 → f ∉ [61, 67, 72] → ¬ kM [61, 67, 72] (ky 0 f) := fun f hf hn => kM_n (by decide) hf hn
  refine ⟨S4, ?_, ⟨tM_fs (by decide) T3 o4, cM_on C3 o4 (n4 _ (by decide) (by decide)) (n4 _ (by decide) (by decide)) (n4 _ (by decide) (by decide)) (n4 _ (by decide) (by decide)), ⟨Nat.zero_le _, i61, fun j hj => absurd hj (Nat.not_lt_zero _)⟩, ⟨a72, (fun j _ Y hY => by cases hY)⟩, ⟨i67, fun j hj => absurd hj (Nat.not_lt_zero _)⟩, ⟨?_, fun j hj => absurd hj (Nat.not_lt_zero _)⟩, ?_, ?_⟩⟩
  · have e134 : f_X6_read_J134 S = f_X6_read_J164 S (-1 : Int32) := by
      unfold f_X6_read_J134
      rw [h13, if_pos (Int32.le_refl _), h15, if_pos (Int32.le_refl _)]
    have k13 : st_I (up_I S (ky 0 17) (-1 : Int32)) (ky 0 13) = 0 := h13
    have k15 : st_I (up_I S (ky 0 17) (-1 : Int32)) (ky 0 15) = 0 := h15
    have k19 : st_I (up_I S (ky 0 17) (-1 : Int32)) (ky 0 19) = nI (1 - s) := h19
    rw [e134]
    unfold f_X6_read_J164 f_X6_begins
    rw [lt_e, k13, if_pos (Int32.le_refl _), k15, if_pos (Int32.le_refl _), k19, lt_e, e2, bnd, bnd, show f_X6_keepsRows S2 (0 : Int32) = some S3 from e3, bnd, lt_e, lt_e]
    exact lp
  · rw [(oB _ (nB 2 (by decide))).1]
    exact h2
  · rw [(oB _ (nB 17 (by decide))).1]
    rfl
  · intro i hi
    rw [(oB _ (nB 9 (by decide))).2.2.2.1]
    show st_L S (ky 0 9) i = _
    rw [(o.1 _ (kM_n (by decide) (by decide) (by decide))).2.2.2.1]
    exact hM.2.2.2.2.2.2.2 i hi
/-- the whole -/
theorem M_read (hA : RA A) (hM : RM s A M) : ((∃ c, rn (tkK (aB A) (an A)) 0 q00 = c ∧ (c.1 = 1 ∨ c.1 = 2) ∧ ∃ M', f_X6_read M = some (nI c.1, M') ∧ RM s (aFl A (nI (ps (aB A) (an A) c.2))) M')) ∨ ∃ l N, TRc (tkK (aB A) (an A)) (tkL (aB A) (an A)) (tkV (aB A) (an A)) N l 0 P0 ∧ rn (tkK (aB A) (an A)) 0 q00 = (0, N) ∧ ((∃ a M', TRf (tkK (aB A) (an A)) (tkL (aB A) (an A)) (tkV (aB A) (an A)) l 0 P0 = some a ∧ f_X6_read M = some (nI a.1, M') ∧ RM s (aFl A (nI (ps (aB A) (an A) a.2))) M') ∨ (TRf (tkK (aB A) (an A)) (tkL (aB A) (an A)) (tkV (aB A) (an A)) l 0 P0 = none ∧ ∃ M', f_X6_read M = some ((0 : Int32), M') ∧ RM (1 - s) (aRd A (TXo (TRp (tkK (aB A) (an A)) (tkL (aB A) (an A)) (tkV (aB A) (an A)) l 0 P0))) M')) := by
  have hn := hA.2.2.2.2.2.1
  obtain ⟨Z, e1, hT, o1, z2⟩ := M_head hA hM
  obtain ⟨S2, c, hc, i2, o2, d2⟩ := M_loop (sp := 0) (pt := 0) (br := 0) (ifs := 0) (wb := true) (fr := true) hn 401 0 Z [] [] P0 none (Nat.le_refl _) hT
  have hF : FU = (40000 - 1 - c) + c + 1 := by
    show 40000 = _
    omega
  have lp : iter f_X6_read_L112 FU Z = some S2 := by
    rw [hF]
    exact i2 _
  rw [lp, bnd] at e1
  have o12 : oh (1 - s) fsRd M S2 := oh_trans o1 (oh_mono (by decide) o2)
  have s2 : st_I S2 (ky 0 2) = 0 := by
    rw [(o2.1 _ (kM_n (by decide) (by decide) (by decide))).1]
    exact z2
  have oU : ∀ x : Int32, oh (1 - s) fsR2 M (up_I S2 (ky 0 17) x) := fun x => oh_trans (oh_mono (by decide) o12) (oh_I _ 17 _ (by decide))
  rcases d2 with f | ⟨l, N, all, bl, q1, q2, q3⟩
  · refine Or.inl ⟨_, rfl, f.1, up_I S2 (ky 0 17) (nI (ps (aB A) (an A) (rn (tkK (aB A) (an A)) 0 q00).2)), ?_, RM_fl hM (oU _) s2 (gIs ..)⟩
    rw [e1]
    have p := flt_p f
    have f2 : st_I S2 (ky 0 13) = nI (rn (tkK (aB A) (an A)) 0 q00).1 := f.2.1
    have f3 : st_I S2 (ky 0 14) = nI (ps (aB A) (an A) (rn (tkK (aB A) (an A)) 0 q00).2) := f.2.2
    unfold f_X6_read_J134
    rw [if_neg p.1]
    unfold f_X6_read_J164
    rw [lt_e]
    have k13 : ∀ x : Int32, st_I (up_I S2 (ky 0 17) x) (ky 0 13) = st_I S2 (ky 0 13) := fun _ => rfl
    rw [k13, if_neg p.1, f2, f3]
  · refine Or.inr ⟨l, N, q1, q2, ?_⟩
    rw [ow_n] at q3
    cases hf : TRf (tkK (aB A) (an A)) (tkL (aB A) (an A)) (tkV (aB A) (an A)) l 0 P0 with
    | some a =>
      rw [hf] at q3
      have h13 := q3.1.1.1.1
      have hw : (3 ≤ a.1 ∧ a.1 ≤ 5) ∧ st_I S2 (ky 0 15) = nI a.1 ∧ st_I S2 (ky 0 16) = nI (ps (aB A) (an A) a.2) := q3.2.2.2.2.1
      refine Or.inl ⟨a, up_I S2 (ky 0 17) (nI (ps (aB A) (an A) a.2)), rfl, ?_, RM_fl hM (oU _) s2 (gIs ..)⟩
      rw [e1]
      have np : ¬ nI a.1 ≤ (0 : Int32) := nI_np (by omega) (by omega)
      unfold f_X6_read_J134
      rw [h13, if_pos (Int32.le_refl _), hw.2.1, if_neg np, hw.2.2]
      unfold f_X6_read_J164
      rw [lt_e]
      have k13 : ∀ x : Int32, st_I (up_I S2 (ky 0 17) x) (ky 0 13) = 0 := fun _ => h13
      have k15 : ∀ x : Int32, st_I (up_I S2 (ky 0 17) x) (ky 0 15) = nI a.1 := fun _ => hw.2.1
      rw [k13, if_pos (Int32.le_refl _), k15, if_neg np]
    | none =>
      rw [hf] at q3
      have g := TR_good q1 hf gP0.2.2 gP0.1 gP0.2.1
      obtain ⟨M', e2, r2⟩ := M_take hM g.2.2 q3 o12 s2
      exact Or.inr ⟨rfl, M', e1.trans e2, r2⟩
end RT
