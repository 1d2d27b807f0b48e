/-! THE REFERENCE TAKES A TELL: rooms, doors. -/
theorem kA {fs : List Nat} {S S' : St} (o : on (kM fs) S S') (f : Nat) (h : (∀ g ∈ fs, g < 100) ∧ f < 100 ∧ f ∉ fs := by decide) : st_A S' (ky 0 f) = st_A S (ky 0 f) := (o _ (kM_n h.1 h.2.1 h.2.2)).2.1
theorem kI {fs : List Nat} {S S' : St} (o : on (kM fs) S S') (f : Nat) (h : (∀ g ∈ fs, g < 100) ∧ f < 100 ∧ f ∉ fs := by decide) : st_I S' (ky 0 f) = st_I S (ky 0 f) := (o _ (kM_n h.1 h.2.1 h.2.2)).1
def qd (tel sp : Nat) (c : Nat → Nat) : QS := (tel, sp, 0, true, true, 0, 0, c)
theorem qd0 {tel sp : Nat} {c : Nat → Nat} (h : tel ≠ 0) : (qd tel sp c).1 ≠ 0 := h
theorem bid {α : Type} (x : Option α) : x.bind (fun q => some q) = x := by cases x <;> rfl
theorem gqd {tel sp k : Nat} (c : Nat → Nat) (h0 : tel ≠ 0) (hd : due tel sp = k) (h9 : k ≠ 99) (h4 : k ≠ 4) (j : Nat) : goQ (qd tel sp c) j = if j = k then some (qd tel (sp + 1) c) else none := by
  have e : goQ (qd tel sp c) j = if tel = 0 then (if 20 ≤ j ∧ j < 28 then some (j, 0, 0, true, true, 0, 0, fun i => if i = j - 20 then c i + 1 else c i) else none) else if due tel sp = 99 then lawO (tel, sp, 0, true, true, 0, 0, c) j else if j = due tel sp then some (if due tel sp = 4 then 0 else tel, sp + 1, 0, true, true, 0, 0, c) else none := rfl
  rw [e, if_neg h0, hd, if_neg h9, if_neg h4]
  rfl
theorem gqe {tel sp : Nat} (c : Nat → Nat) (h0 : tel ≠ 0) (hd : due tel sp = 4) (j : Nat) : goQ (qd tel sp c) j = if j = 4 then some (qd 0 (sp + 1) c) else none := by
  have e : goQ (qd tel sp c) j = if tel = 0 then (if 20 ≤ j ∧ j < 28 then some (j, 0, 0, true, true, 0, 0, fun i => if i = j - 20 then c i + 1 else c i) else none) else if due tel sp = 99 then lawO (tel, sp, 0, true, true, 0, 0, c) j else if j = due tel sp then some (if due tel sp = 4 then 0 else tel, sp + 1, 0, true, true, 0, 0, c) else none := rfl
  rw [e, if_neg h0, hd, if_neg (by decide), if_pos rfl]
  rfl
theorem many_d {tel sp : Nat} {c : Nat → Nat} (h : ¬ mostN.getD (tel - 20) 0 < c (tel - 20)) : many (qd tel sp c) = false := by
  have e : many (qd tel sp c) = decide ((tel ≠ 0 ∧ mostN.getD (tel - 20) 0 < c (tel - 20)) ∨ 4 < 0 ∨ 6 < 0) := rfl
  rw [e]
  exact decide_eq_false (by omega)
theorem many_e {sp : Nat} {c : Nat → Nat} : many (qd 0 sp c) = false := rfl
theorem ow_none {w x : Option (Nat × Nat)} (h : ow w x = none) : w = none ∧ x = none := by
  cases w with
  | none => exact ⟨rfl, h⟩
  | some a => cases h
theorem inc_s (c : Nat → Nat) (i : Nat) : inc c i i = c i + 1 := if_pos rfl
theorem inc_le {c : Nat → Nat} {t : Nat} (i : Nat) (h : ∀ j, c j ≤ t) {d : Nat} (hd : t < d) : ∀ j, inc c i j ≤ d := fun j => by
  have := h j
  unfold inc
  split <;> omega
theorem lk_some {N : Nat} {nl : NL} {l : List Nat} {s u : Nat} (h : lkF N nl l s u = none) : bkM (lk N nl l s) = nI ((lk N nl l s).getD 0) := by
  unfold lkF at h
  unfold lk
  cases e : lkN N nl l s with
  | none => rw [e] at h; cases h
  | some j => rfl
/-- what taking a tell comes to -/
def TEc (B : Nat → Nat) (n sd : Nat) (S : St) (t : Nat) (P : TP) (w : Option (Nat × Nat)) (r0 : Nat × Nat) (S' : St) : Prop := oh sd fsTe S S' ∧ (fltM B n S' r0 ∨ ∃ d brs all' bl' sp pt wb fr br ifs, t < d ∧ shp (tkK B n) (tkV B n) t d brs ∧ r0 = rn (tkK B n) d (tq sp pt wb fr br ifs (pc (tkP (tkK B n) (tkL B n) (tkV B n) P t brs))) ∧ TB B n sd S' d all' bl' (tkP (tkK B n) (tkL B n) (tkV B n) P t brs) (ow w (tkF (tkK B n) (tkL B n) (tkV B n) P t)))
section TE
variable {B : Nat → Nat} {n sd : Nat}
theorem TBr_mv {S S' : St} {P : TP} {bl : List BR} {fs : List Nat} (h : TBr sd S P bl) (hf : ∀ f ∈ fs, f < 100 ∧ f ∉ [26, 27, 29, 30, 32, 33, 34, 35, 36, 37]) (o : on (kM fs) S S') : TBr sd S' P bl := by
  have g : ∀ f ∈ [26, 27, 29, 30, 32, 33, 34, 35, 36, 37], st_A S' (ky 0 f) = st_A S (ky 0 f) := fun f h1 => (o _ (kM_n (fun f hf2 => (hf f hf2).1) ((by decide : ∀ f ∈ [26, 27, 29, 30, 32, 33, 34, 35, 36, 37], f < 100) f h1) (fun z => (hf f z).2 h1))).2.1
  obtain ⟨a, b, c, d, e, f⟩ := h
  refine ⟨?_, ?_, ?_, ?_, ?_, fun i hi => ?_⟩
  · rw [g 26 (by decide), g 27 (by decide)]; exact a
  · rw [g 29 (by decide), g 30 (by decide)]; exact b
  · rw [g 32 (by decide), g 33 (by decide)]; exact c
  · rw [g 34 (by decide)]; exact d
  · rw [g 35 (by decide)]; exact e
  · have := f i hi
    unfold lawR at *
    rw [g 36 (by decide), g 37 (by decide)]
    exact this
theorem at_8 {S : St} {t u : Nat} (a : atM B n S t) (hu : u < t) (hk : tkK B n u = 1) : st_L S (ky 0 8) u = lN (codeB 27 (tkL B n u)) := (a.2.2.2.2.2 u (by have := a.2.2.1; omega) (fun v hv => a.2.2.2.1 v (by omega))).2.2.2 hk
theorem M_tell20 {S : St} {t sp pt br ifs : Nat} {wb fr : Bool} {all : CL} {bl : List BR} {P : TP} {w : Option (Nat × Nat)} (hn : n ≤ 2000) (h : TB B n sd S t all bl P w) (k20 : tkK B n t = 20) : ∃ S', f_X6_tellOne S = some S' ∧ TEc B n sd S t P w (rn (tkK B n) t (tq sp pt wb fr br ifs (pc P))) S' := by
  obtain ⟨hX, hb4, ⟨h19, ⟨c24, c25, c28, c31⟩, ⟨b0, b1, b2, b4⟩, hN⟩, hr, sw, hl, hct⟩ := h
  have hA := hX.1.1
  have hsd := hX.1.2.2.2.2.2
  unfold f_X6_tellOne
  rw [chk_t (at_ib hA), at_k hA, lt_e, k20, if_pos (show nI 20 = (20 : Int32) from rfl), h19, chk_t (ib_nI hsd (by decide)), nI_clamp (by omega), c24]
  obtain ⟨S1, e1, o1, d1⟩ := op_room (k := 20) (c := pc P 0) (most := 8) (sp := sp) (pt := pt) (wb := wb) (fr := fr) (br := br) (ifs := ifs) (cn := pc P) hA sw hl (by decide) k20 rfl rfl b0 (by decide)
  generalize hr0 : rn (tkK B n) t (tq sp pt wb fr br ifs (pc P)) = r0 at *
  rw [show f_X6_roomFor S (nI (pc P 0)) (8 : Int32) = _ from e1, bnd]
  have q1 : oh sd fsTe S S1 := oh_ofS (by decide) (by decide) o1
  rcases d1 with f | ⟨hc, d1⟩
  · rw [if_neg (flt_p f).1]
    exact ⟨S1, rfl, q1, Or.inl f⟩
  rw [d1.1.1, if_pos (Int32.le_refl _)]
  have hm : ¬ mostN.getD (20 - 20) 0 < inc (pc P) 0 (20 - 20) := by
    show ¬ 8 < inc (pc P) 0 0
    rw [inc_s]; omega
  obtain ⟨x, S2, e2, o2, d2⟩ := op_named (E := True) (q := qd 20 0 (inc (pc P) 0)) (q' := qd 20 1 (inc (pc P) 0)) hn (Or.inr ⟨trivial, d1⟩) (NMS_on hN (by decide) o1) (qd0 (by decide)) (fun j _ => gqd _ (by decide) (by decide) (by decide) (by decide) j) (many_d hm)
  rw [e2, bnd]
  obtain ⟨S3, e3, o3, d3⟩ := op_must (k := 4) (q' := qd 0 2 (inc (pc P) 0)) d2 (by decide) (by decide) (qd0 (by decide)) (fun j _ => gqe _ (by decide) (by decide) j) many_e
  rw [show f_X6_must S2 (4 : Int32) = _ from e3, bnd]
  have q3 : oh sd fsTe S S3 := oh_trans q1 (oh_trans (oh_ofS (by decide) (by decide) o2) (oh_ofS (by decide) (by decide) o3))
  rcases d3 with f | ⟨⟨⟨⟨_, k1⟩, rfl⟩, k4⟩, a3, r3, s3, l3⟩
  · rw [if_neg (flt_p f).1]
    exact ⟨S3, rfl, q3, Or.inl f⟩
  have m19 : st_I S3 (ky 0 19) = nI sd := by rw [kI o3 19, kI o2 19, kI o1 19]; exact h19
  have m24 : st_A S3 (ky 0 24) sd = nI (pc P 0) := by rw [kA o3 24, kA o2 24, kA o1 24]; exact c24
  have hN3 := NMS_on (NMS_on (NMS_on hN (by decide) o1) (by decide) o2) (by decide) o3
  obtain ⟨S4, e4, q4, hN4, e24⟩ := M_note (sd := sd) (s := 0) (c := pc P 0) (g := 24) hN3 (by unfold nN; omega) (at_8 a3 (show t + 1 < t + 1 + 1 + 1 by omega) k1) (tk_vL k1) (by have := a3.2.2.1; omega) (by decide) (by omega) (fun z => absurd z (by decide)) m19 hsd (by decide) m24
  rw [a3.1, if_pos (Int32.le_refl _), m19, chk_t (ib_nI hsd (by decide)), nI_clamp (by omega), m24]
  have a4 := atM_on (by decide) a3 q4.1
  have oo : on (kM [11, 13, 14, 15, 16, 20, 21, 22, 23, 24]) S S4 := on_trans (on_trans (kM_mono (by decide) o1) (on_trans (kM_mono (by decide) o2) (kM_mono (by decide) o3))) (kM_mono (by decide) q4.1)
  have eP : tkP (tkK B n) (tkL B n) (tkV B n) P t [] = (inc (pc P) 0, addN (pn P) (nN P) (tkL B n (t + 1), 0, pc P 0), pr P, pl P, pk P, pd P) := if_pos k20
  have eF : tkF (tkK B n) (tkL B n) (tkV B n) P t = dupP P (tkL B n (t + 1)) (t + 1) := if_pos k20
  refine ⟨S4, e4, oh_trans q3 (oh_mono (by decide) q4), Or.inr ⟨t + 3, [], all, bl, 2, 0, true, true, 0, 0, by omega, Or.inl ⟨k20, k1, k4, rfl⟩, ?_, ?_⟩⟩
  · rw [eP]; exact r3
  · rw [eP, eF]
    refine ⟨LX_mv (by decide) hX oo (by omega) a4, by omega, ⟨?_, ⟨?_, ?_, ?_, ?_⟩, ⟨?_, b1, b2, b4⟩, ?_⟩, fun hw => ?_, wst_on s3 (by decide) q4.1, l3, inc_le 0 hct (by omega)⟩
    · rw [kI q4.1 19]; exact m19
    · rw [e24, upd_s]; rfl
    · rw [kA oo 25]; exact c25
    · rw [kA oo 28]; exact c28
    · rw [kA oo 31]; exact c31
    · show pc P 0 + 1 ≤ 8
      omega
    · have eN : nN (inc (pc P) 0, addN (pn P) (nN P) (tkL B n (t + 1), 0, pc P 0), pr P, pl P, pk P, pd P) = nN P + 1 := by
        show pc P 0 + 1 + pc P 2 + pc P 4 = pc P 0 + pc P 2 + pc P 4 + 1
        omega
      rw [eN]
      exact hN4
    · exact TBr_mv (P := P) (hr (ow_none hw).1) (by decide) oo
end TE
