/-! WHAT A TEXT TELLS. P: how many of each sort (0 rooms, 1 doors, 2 men, 3 laws, 4 mirrors ..), names, rows, laws, breaks, seed. -/
abbrev TP : Type := (Nat → Nat) × NL × (Nat → Nat → Nat) × (Nat → Option (List BR)) × Nat × Nat
def pc (P : TP) : Nat → Nat := P.1
def pn (P : TP) : NL := P.2.1
def pr (P : TP) : Nat → Nat → Nat := P.2.2.1
def pl (P : TP) : Nat → Option (List BR) := P.2.2.2.1
def pk (P : TP) : Nat := P.2.2.2.2.1
def pd (P : TP) : Nat := P.2.2.2.2.2
def nN (P : TP) : Nat := pc P 0 + pc P 2 + pc P 4
def inc (c : Nat → Nat) (i : Nat) : Nat → Nat := fun j => if j = i then c j + 1 else c j
def addN (nl : NL) (N : Nat) (x : List Nat × Nat × Nat) : NL := fun j => if j = N then x else nl j
def setR (r : Nat → Nat → Nat) (i j v : Nat) : Nat → Nat → Nat := fun a b => if a = i ∧ b = j then v else r a b
def setL (f : Nat → Option (List BR)) (i : Option Nat) (x : List BR) : Nat → Option (List BR) := fun j => if i = some j then some x else f j
def lkv (P : TP) (l : List Nat) (s : Nat) : Nat := (lk (nN P) (pn P) l s).getD 0
def dupP (P : TP) (l : List Nat) (u : Nat) : Option (Nat × Nat) := dupF (nN P) (pn P) l u
def lkP (P : TP) (l : List Nat) (s u : Nat) : Option (Nat × Nat) := lkF (nN P) (pn P) l s u
/-- the text after a tell that begins at t -/
def tkP (tk : Nat → Nat) (L : Nat → List Nat) (V : Nat → Nat) (P : TP) (t : Nat) (brs : List BR) : TP :=
  if tk t = 20 then (inc (pc P) 0, addN (pn P) (nN P) (L (t + 1), 0, pc P 0), pr P, pl P, pk P, pd P)
  else if tk t = 21 then (inc (pc P) 1, pn P, setR (setR (pr P) 0 (pc P 1) (lkv P (L (t + 1)) 0)) 1 (pc P 1) (lkv P (L (t + 2)) 0), pl P, pk P, pd P)
  else if tk t = 22 then (inc (pc P) 2, addN (pn P) (nN P) (L (t + 1), 1, pc P 2), setR (setR (pr P) 2 (pc P 2) (V (t + 2))) 3 (pc P 2) (lkv P (L (t + 3)) 0), pl P, pk P, pd P)
  else if tk t = 23 then (inc (pc P) 3, pn P, pr P, setL (pl P) (lk (nN P) (pn P) (L (t + 1)) 1) brs, pk P, pd P)
  else if tk t = 24 then (inc (pc P) 4, addN (pn P) (nN P) (L (t + 1), 2, pc P 4), setR (setR (pr P) 4 (pc P 4) (lkv P (L (t + 2)) 0)) 5 (pc P 4) (lkv P (L (t + 3)) 1), pl P, pk P, pd P)
  else if tk t = 25 then (inc (pc P) 5, pn P, pr P, setL (pl P) (some 6) brs, pk P, pd P)
  else if tk t = 26 then (inc (pc P) 6, pn P, pr P, pl P, V (t + 1), pd P)
  else (inc (pc P) 7, pn P, pr P, pl P, pk P, V (t + 1))
/-- the first fault of the second sort in it -/
def tkF (tk : Nat → Nat) (L : Nat → List Nat) (V : Nat → Nat) (P : TP) (t : Nat) : Option (Nat × Nat) :=
  if tk t = 20 then dupP P (L (t + 1)) (t + 1)
  else if tk t = 21 then ow (ow (lkP P (L (t + 1)) 0 (t + 1)) (lkP P (L (t + 2)) 0 (t + 2))) (if lk (nN P) (pn P) (L (t + 1)) 0 = lk (nN P) (pn P) (L (t + 2)) 0 then some (3, t + 2) else none)
  else if tk t = 22 then ow (ow (dupP P (L (t + 1)) (t + 1)) (numF 20 (V (t + 2)) (t + 2))) (lkP P (L (t + 3)) 0 (t + 3))
  else if tk t = 23 then lkP P (L (t + 1)) 1 (t + 1)
  else if tk t = 24 then ow (ow (dupP P (L (t + 1)) (t + 1)) (lkP P (L (t + 2)) 0 (t + 2))) (lkP P (L (t + 3)) 1 (t + 3))
  else if tk t = 25 then none
  else if tk t = 26 then numF 100 (V (t + 1)) (t + 1)
  else numF 9999 (V (t + 1)) (t + 1)
/-- the tokens of a tell, from t to d -/
def shp (tk tv : Nat → Nat) (t d : Nat) (brs : List BR) : Prop :=
  (tk t = 20 ∧ tk (t + 1) = 1 ∧ tk (t + 2) = 4 ∧ d = t + 3) ∨
  (tk t = 21 ∧ tk (t + 1) = 1 ∧ tk (t + 2) = 1 ∧ tk (t + 3) = 4 ∧ d = t + 4) ∨
  (tk t = 22 ∧ tk (t + 1) = 1 ∧ tk (t + 2) = 2 ∧ tk (t + 3) = 1 ∧ tk (t + 4) = 4 ∧ d = t + 5) ∨
  (tk t = 23 ∧ tk (t + 1) = 1 ∧ tk (t + 2) = 5 ∧ ∃ e, t + 2 < e ∧ LawT tk tv e brs (t + 3) ∧ d = e + 1) ∨
  (tk t = 24 ∧ tk (t + 1) = 1 ∧ tk (t + 2) = 1 ∧ tk (t + 3) = 1 ∧ tk (t + 4) = 4 ∧ d = t + 5) ∨
  (tk t = 25 ∧ tk (t + 1) = 5 ∧ ∃ e, t + 1 < e ∧ LawT tk tv e brs (t + 2) ∧ d = e + 1) ∨
  (tk t = 26 ∧ tk (t + 1) = 2 ∧ tk (t + 2) = 4 ∧ d = t + 3) ∨
  (tk t = 27 ∧ tk (t + 1) = 2 ∧ tk (t + 2) = 4 ∧ d = t + 3)
def TBc (sd : Nat) (S : St) (P : TP) : Prop := st_I S (ky 0 19) = nI sd ∧ (st_A S (ky 0 24) sd = nI (pc P 0) ∧ st_A S (ky 0 25) sd = nI (pc P 1) ∧ st_A S (ky 0 28) sd = nI (pc P 2) ∧ st_A S (ky 0 31) sd = nI (pc P 4)) ∧ (pc P 0 ≤ 8 ∧ pc P 1 ≤ 12 ∧ pc P 2 ≤ 6 ∧ pc P 4 ≤ 8) ∧ NMS S (nN P) (pn P)
def lawR (sd : Nat) (S : St) (bl : List BR) (i : Nat) (o : Option (List BR)) : Prop := match o with
  | none => st_A S (ky 0 36) (7 * sd + i) = st_A S (ky 0 37) (7 * sd + i)
  | some brs => ∃ j, st_A S (ky 0 36) (7 * sd + i) = nI (130 * sd + j) ∧ st_A S (ky 0 37) (7 * sd + i) = nI (130 * sd + j + brs.length) ∧ j + brs.length ≤ bl.length ∧ ∀ u, u < brs.length → bl.getD (j + u) (none, []) = brs.getD u (none, [])
def TBr (sd : Nat) (S : St) (P : TP) (bl : List BR) : Prop := (∀ d, d < pc P 1 → st_A S (ky 0 26) (12 * sd + d) = nI (pr P 0 d) ∧ st_A S (ky 0 27) (12 * sd + d) = nI (pr P 1 d)) ∧ (∀ a, a < pc P 2 → st_A S (ky 0 29) (6 * sd + a) = nI (pr P 2 a) ∧ st_A S (ky 0 30) (6 * sd + a) = nI (pr P 3 a)) ∧ (∀ m, m < pc P 4 → st_A S (ky 0 32) (8 * sd + m) = nI (pr P 4 m) ∧ st_A S (ky 0 33) (8 * sd + m) = nI (pr P 5 m)) ∧ st_A S (ky 0 34) sd = nI (pk P) ∧ st_A S (ky 0 35) sd = nI (pd P) ∧ ∀ i, i < 7 → lawR sd S bl i (pl P i)
/-- the reference, between two tells -/
def TB (B : Nat → Nat) (n sd : Nat) (S : St) (t : Nat) (all : CL) (bl : List BR) (P : TP) (w : Option (Nat × Nat)) : Prop := LX B n sd S t all bl ∧ 4 * bl.length ≤ t ∧ TBc sd S P ∧ (w = none → TBr sd S P bl) ∧ wst B n S w ∧ (∀ a, w = some a → a.2 < t) ∧ ∀ i, pc P i ≤ t
abbrev fsTe : List Nat := [11, 12, 13, 14, 15, 16, 20, 21, 22, 23, 24, 25, 26, 27, 28, 29, 30, 31, 32, 33, 34, 35, 36, 37, 38, 39, 40, 41, 42, 43, 44, 45, 46, 47, 48]
def tq (sp pt : Nat) (wb fr : Bool) (br ifs : Nat) (c : Nat → Nat) : QS := (0, sp, pt, wb, fr, br, ifs, c)
section TE
variable {B : Nat → Nat} {n sd : Nat} {r0 : Nat × Nat}
theorem wd1 (g : Nat) (h : g = 24 ∨ g = 25 ∨ g = 28 ∨ g = 31 ∨ g = 34 ∨ g = 35) : wd g = 1 := by
  rcases h with rfl | rfl | rfl | rfl | rfl | rfl <;> decide
theorem LX_mv {S S' : St} {t t' : Nat} {all : CL} {bl : List BR} {fs : List Nat} (hf : ∀ f ∈ fs, f < 100 ∧ f ≠ 12 ∧ (f < 38 ∨ 46 < f)) (h : LX B n sd S t all bl) (o : on (kM fs) S S') (ht : t ≤ t') (a : atM B n S' t') : LX B n sd S' t' all bl := by
  have g : ∀ f, f < 100 → (f = 12 ∨ 38 ≤ f ∧ f ≤ 46) → ¬ kM fs (ky 0 f) := fun f h1 h2 => kM_n (fun f hf2 => (hf f hf2).1) h1 (fun z => by have := hf f z; omega)
  obtain ⟨⟨a1, a2, a3, a4, a5, a6⟩, a7, a8⟩ := h
  refine ⟨⟨a, ?_, ?_, ?_, by omega, a6⟩, ?_, fun j hj => brAt_cg (a8 j hj) (fun f g1 g2 => ?_)⟩
  · rw [(o _ (g 12 (by decide) (by decide))).1]; exact a2
  · rw [(o _ (g 44 (by decide) (by decide))).1]; exact a3
  · rw [(o _ (g 45 (by decide) (by decide))).2.1, (o _ (g 46 (by decide) (by decide))).2.1]; exact a4
  · rw [(o _ (g 38 (by decide) (by decide))).1]; exact a7
  · rw [(o _ (g f (by omega) (by omega))).2.1]
/-- a tell's first token, of a sort that is counted -/
theorem goQ_0 {sp pt br ifs : Nat} {wb fr : Bool} {c : Nat → Nat} {k : Nat} (hk : 20 ≤ k ∧ k < 28) : goQ (tq sp pt wb fr br ifs c) k = some (k, 0, 0, true, true, 0, 0, inc c (k - 20)) := by
  have e : goQ (tq sp pt wb fr br ifs c) k = (if 20 ≤ k ∧ k < 28 then some (k, 0, 0, true, true, 0, 0, fun i => if i = k - 20 then c i + 1 else c i) else none) := rfl
  rw [e, if_pos hk]
  rfl
theorem many_0 {k : Nat} {c : Nat → Nat} (hk : 20 ≤ k) (sp : Nat) : many (k, sp, 0, true, true, 0, 0, inc c (k - 20)) = decide (mostN.getD (k - 20) 0 < c (k - 20) + 1) := by
  have e : many (k, sp, 0, true, true, 0, 0, inc c (k - 20)) = decide ((k ≠ 0 ∧ mostN.getD (k - 20) 0 < (if k - 20 = k - 20 then c (k - 20) + 1 else c (k - 20))) ∨ 4 < 0 ∨ 6 < 0) := rfl
  rw [e, if_pos rfl]
  apply decide_eq_decide.mpr
  constructor
  · rintro (⟨_, h⟩ | h | h)
    · exact h
    · exact absurd h (by decide)
    · exact absurd h (by decide)
  · intro h
    exact Or.inl ⟨by omega, h⟩
theorem op_room {S : St} {t k c most sp pt br ifs : Nat} {wb fr : Bool} {cn : Nat → Nat} {w : Option (Nat × Nat)} (a : atM B n S t) (sw : wst B n S w) (l : ∀ x, w = some x → x.2 < t) (hk : 20 ≤ k ∧ k < 28) (ht : tkK B n t = k) (hc : cn (k - 20) = c) (hm : mostN.getD (k - 20) 0 = most) (hcm : c ≤ most) (hm2 : most < 100) : ∃ S', f_X6_roomFor S (nI c) (nI most) = some S' ∧ on (kM fsS) S S' ∧ FO B n (rn (tkK B n) t (tq sp pt wb fr br ifs cn)) S' (t + 1) (k, 0, 0, true, true, 0, 0, inc cn (k - 20)) w (c < most) := by
  have h0 : tkK B n t ≠ 0 := by omega
  have hg : goQ (tq sp pt wb fr br ifs cn) (tkK B n t) = some (k, 0, 0, true, true, 0, 0, inc cn (k - 20)) := by rw [ht]; exact goQ_0 hk
  have hmy := many_0 (k := k) (c := cn) hk.1 0
  rw [hm, hc] at hmy
  unfold f_X6_roomFor f_X6_roomFor_J10
  by_cases e : c = most
  · obtain ⟨e1, f⟩ := M_fail a (k := 2) (Or.inr rfl)
    rw [if_pos (by rw [e]), show f_X6_fail S (2 : Int32) = _ from e1, bnd, if_neg (flt_p f).2.1]
    refine ⟨_, rfl, upFl_on _ _ _, Or.inl ?_⟩
    rw [rn_e _ _ a.2.2.1, if_neg h0, hg, aft_s, if_pos (Or.inr (by rw [hmy]; exact decide_eq_true (by omega)))]
    exact f
  · rw [if_neg (nI_eq' (by omega) (by omega) e), a.1, if_pos rfl]
    rcases M_go a (q := tq sp pt wb fr br ifs cn) h0 hg (by rw [hmy]; exact decide_eq_false (by omega)) with ⟨S', a1, b1, d1⟩ | ⟨a1, b1, d1, e1⟩
    · rw [a1, bnd]
      exact ⟨S', rfl, b1, Or.inl d1⟩
    · rw [b1, bnd]
      exact ⟨_, rfl, on_I _ _ _ ⟨11, by decide, rfl⟩, Or.inr ⟨by omega, d1, e1, wst_on (fs := [11]) sw (by decide) (on_I _ _ _ ⟨11, by decide, rfl⟩), fun x hx => by have := l x hx; omega⟩⟩
theorem op_go {S : St} {t k sp pt br ifs : Nat} {wb fr : Bool} {cn : Nat → Nat} {w : Option (Nat × Nat)} (a : atM B n S t) (sw : wst B n S w) (l : ∀ x, w = some x → x.2 < t) (hk : 20 ≤ k ∧ k < 28) (ht : tkK B n t = k) (hc : cn (k - 20) ≤ t) (hm : mostN.getD (k - 20) 0 = 1000) : ∃ S', f_X6_goesOn S = some S' ∧ on (kM fsS) S S' ∧ FO B n (rn (tkK B n) t (tq sp pt wb fr br ifs cn)) S' (t + 1) (k, 0, 0, true, true, 0, 0, inc cn (k - 20)) w True := by
  have h0 : tkK B n t ≠ 0 := by omega
  have h4 := a.2.2.1
  have hg : goQ (tq sp pt wb fr br ifs cn) (tkK B n t) = some (k, 0, 0, true, true, 0, 0, inc cn (k - 20)) := by rw [ht]; exact goQ_0 hk
  have hmy := many_0 (k := k) (c := cn) hk.1 0
  rw [hm] at hmy
  rcases M_go a (q := tq sp pt wb fr br ifs cn) h0 hg (by rw [hmy]; exact decide_eq_false (by omega)) with ⟨S', a1, b1, d1⟩ | ⟨a1, b1, d1, e1⟩
  · exact ⟨S', a1, b1, Or.inl d1⟩
  · exact ⟨_, b1, on_I _ _ _ ⟨11, by decide, rfl⟩, Or.inr ⟨trivial, d1, e1, wst_on (fs := [11]) sw (by decide) (on_I _ _ _ ⟨11, by decide, rfl⟩), fun x hx => by have := l x hx; omega⟩⟩
/-- a name noted, and one more of its sort -/
theorem M_note {S : St} {u s c N g : Nat} {nl : NL} {l : List Nat} (hN : NMS S N nl) (hN2 : N < 22) (h8 : st_L S (ky 0 8) u = lN (codeB 27 l)) (vl : vL l) (hu : u ≤ 400) (hs : s < 3) (hc : c < 8) (h1 : s = 1 → c < 6) (h19 : st_I S (ky 0 19) = nI sd) (hsd : sd < 2) (hg3 : g = 24 ∨ g = 28 ∨ g = 31) (hg : st_A S (ky 0 g) sd = nI c) : ∃ S', (f_X6_notes S (nI u) (nI s) (nI c)).bind (fun (q9 : St) => chk (ib (st_I q9 (ky 0 19)) 2) (chk (ib (st_I q9 (ky 0 19)) 2) (lt_v (up_A q9 (ky 0 g) (upd (st_A q9 (ky 0 g)) (st_I q9 (ky 0 19)).toNatClampNeg ((st_A q9 (ky 0 g) (st_I q9 (ky 0 19)).toNatClampNeg) + (1 : Int32)))) (fun (S10 : St) => some S10)))) = some S' ∧ oh sd [20, 21, 22, 23, g] S S' ∧ NMS S' (N + 1) (addN nl N (l, s, c)) ∧ st_A S' (ky 0 g) = upd (st_A S (ky 0 g)) sd (nI (c + 1)) := by
  obtain ⟨n20, n22, nn⟩ := hN
  have e : f_X6_notes S (nI u) (nI s) (nI c) = some (up_I (up_A (up_A (up_L S (ky 0 21) (vp_updL (st_L S (ky 0 21)) N (lN (codeB 27 l)))) (ky 0 22) (upd (st_A S (ky 0 22)) N (nI s))) (ky 0 23) (upd (st_A S (ky 0 23)) N (nI c))) (ky 0 20) (nI (N + 1))) := by
    unfold f_X6_notes
    have i1 : ∀ f, st_I (up_L S (ky 0 21) f) (ky 0 20) = nI N := fun _ => n20
    have i2 : ∀ f g, st_I (up_A (up_L S (ky 0 21) f) (ky 0 22) g) (ky 0 20) = nI N := fun _ _ => n20
    have i3 : ∀ f g h, st_I (up_A (up_A (up_L S (ky 0 21) f) (ky 0 22) g) (ky 0 23) h) (ky 0 20) = nI N := fun _ _ _ => n20
    rw [chk_t (ib_nI (by omega) (by decide)), n20, chk_t (ib_nI hN2 (by decide)), nI_clamp (by omega), nI_clamp (by omega), h8, lt_e, i1, chk_t (ib_nI hN2 (by decide)), nI_clamp (by omega), lt_e, i2, chk_t (ib_nI hN2 (by decide)), nI_clamp (by omega), lt_e, i3, nI_1, lt_e]
    rfl
  rw [e, bnd]
  generalize hZ : up_I (up_A (up_A (up_L S (ky 0 21) (vp_updL (st_L S (ky 0 21)) N (lN (codeB 27 l)))) (ky 0 22) (upd (st_A S (ky 0 22)) N (nI s))) (ky 0 23) (upd (st_A S (ky 0 23)) N (nI c))) (ky 0 20) (nI (N + 1)) = Z
  have z19 : st_I Z (ky 0 19) = nI sd := by rw [← hZ]; exact h19
  have zg : st_A Z (ky 0 g) = st_A S (ky 0 g) := by
    rw [← hZ]
    rcases hg3 with rfl | rfl | rfl <;> rfl
  have zL : st_L Z (ky 0 21) = vp_updL (st_L S (ky 0 21)) N (lN (codeB 27 l)) := by rw [← hZ]; rfl
  have z22 : st_A Z (ky 0 22) = upd (st_A S (ky 0 22)) N (nI s) := by rw [← hZ]; rfl
  have z23 : st_A Z (ky 0 23) = upd (st_A S (ky 0 23)) N (nI c) := by rw [← hZ]; rfl
  have z20 : st_I Z (ky 0 20) = nI (N + 1) := by rw [← hZ]; rfl
  have oZ : on (kM [20, 21, 22, 23]) S Z := by
    rw [← hZ]
    exact on_trans (on_trans (on_trans (on_L _ _ _ ⟨21, by decide, rfl⟩) (on_A _ _ _ ⟨22, by decide, rfl⟩)) (on_A _ _ _ ⟨23, by decide, rfl⟩)) (on_I _ _ _ ⟨20, by decide, rfl⟩)
  have w1 := wd1 g (by omega)
  rw [z19, chk_t (ib_nI hsd (by decide)), chk_t (ib_nI hsd (by decide)), nI_clamp (by omega), zg, hg, nI_1, lt_e]
  have hNZ : NMS Z (N + 1) (addN nl N (l, s, c)) := by
    refine ⟨z20, by omega, fun j hj => ?_⟩
    rw [zL, z22, z23]
    unfold addN
    by_cases q : j = N
    · subst q
      rw [if_pos rfl, pk_uLs, upd_s, upd_s]
      exact ⟨rfl, vl, rfl, rfl, hs, hc, h1⟩
    · rw [if_neg q, pk_uLn q, upd_n q, upd_n q]
      exact nn j (by omega)
  refine ⟨_, rfl, oh_trans (oh_ofS (fun f hf => List.mem_append.mpr (Or.inl hf) : ∀ f ∈ [20, 21, 22, 23], f ∈ [20, 21, 22, 23] ++ [g]) (by decide) oZ) ?_, ?_, ?_⟩
  · have := oh_U (sd := sd) (fs := [20, 21, 22, 23, g]) Z g sd (nI (c + 1)) (by simp) (by omega) (by rw [w1]; omega) (by rw [w1]; omega)
    rw [zg] at this
    exact this
  · exact NMS_on (fs := [g]) hNZ (by intro f hf; have := List.mem_singleton.mp hf; omega) (on_A _ _ _ ⟨g, by simp, rfl⟩)
  · exact gAs _ _ _
end TE
