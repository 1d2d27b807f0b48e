/-! THE CLASS BUILDS A TEXT. -/
section CT
variable {B : Nat → Nat} {n N kt : Nat}
theorem C_takeOne (hkt : isTx kt) {S : St} {P : TP} {o : CL} {t d : Nat} {brs : List BR} (T : TKC B n N S) (hd : d ≤ N) (hs : shp (tkK B n) (tkV B n) t d brs) (hb : TBd (tkP (tkK B n) (tkL B n) (tkV B n) P t brs)) (ho : o.length ≤ 4 + t) (hg : gP P) (h : CB kt S P o) (hw : cwst B n kt S none) : CTc B n kt S P o t d brs := by
  have v4 : ∀ u, tkK B n u = 2 → tkV B n u < 2 ^ 31 := fun u h2 => Nat.lt_trans (tkV_4 h2) (by decide)
  rcases hs with ⟨ct, k1, k2, e⟩ | ⟨ct, k1, k2, k3, e⟩ | ⟨ct, k1, k2, k3, k4, e⟩ | ⟨ct, k1, k2, x, hx, hL, e⟩ | ⟨ct, k1, k2, k3, k4, e⟩ | ⟨ct, k1, x, hx, hL, e⟩ | ⟨ct, k1, k2, e⟩ | ⟨ct, k1, k2, e⟩
  · have eP : tkP (tkK B n) (tkL B n) (tkV B n) P t brs = (inc (pc P) 0, addN (pn P) (nN P) (tkL B n (t + 1), 0, pc P 0), pr P, pl P, pk P, pd P) := by unfold tkP; rw [if_pos ct]
    rw [eP] at hb
    have b0 : pc P 0 + 1 ≤ 8 := hb.1
    have b2 : pc P 2 ≤ 6 := hb.2.2.1
    have b4 : pc P 4 ≤ 8 := hb.2.2.2
    exact C_take20 hkt T hd ⟨by omega, by unfold nN; omega⟩ hg h hw ct k1 e
  · have eP : tkP (tkK B n) (tkL B n) (tkV B n) P t brs = (inc (pc P) 1, pn P, setR (setR (pr P) 0 (pc P 1) (lkv P (tkL B n (t + 1)) 0)) 1 (pc P 1) (lkv P (tkL B n (t + 2)) 0), pl P, pk P, pd P) := by unfold tkP; rw [ct]; rfl
    rw [eP] at hb
    have b0 : pc P 1 + 1 ≤ 12 := hb.2.1
    exact C_take21 hkt T hd (by omega) hg h hw ct k1 k2 e
  · have eP : tkP (tkK B n) (tkL B n) (tkV B n) P t brs = (inc (pc P) 2, addN (pn P) (nN P) (tkL B n (t + 1), 1, pc P 2), setR (setR (pr P) 2 (pc P 2) (tkV B n (t + 2))) 3 (pc P 2) (lkv P (tkL B n (t + 3)) 0), pl P, pk P, pd P) := by unfold tkP; rw [ct]; rfl
    rw [eP] at hb
    have b0 : pc P 0 ≤ 8 := hb.1
    have b2 : pc P 2 + 1 ≤ 6 := hb.2.2.1
    have b4 : pc P 4 ≤ 8 := hb.2.2.2
    exact C_take22 hkt T hd ⟨by omega, by unfold nN; omega⟩ hg h hw (v4 _ k2) ct k1 k2 k3 e
  · have eP : tkP (tkK B n) (tkL B n) (tkV B n) P t brs = (inc (pc P) 3, pn P, pr P, setL (pl P) (lk (nN P) (pn P) (tkL B n (t + 1)) 1) brs, pk P, pd P) := by unfold tkP; rw [ct]; rfl
    rw [eP] at hb
    have b2 : pc P 2 ≤ 6 := hb.2.2.1
    exact C_take23 hkt T hd b2 ho hg h hw ct k1 k2 hL e
  · have eP : tkP (tkK B n) (tkL B n) (tkV B n) P t brs = (inc (pc P) 4, addN (pn P) (nN P) (tkL B n (t + 1), 2, pc P 4), setR (setR (pr P) 4 (pc P 4) (lkv P (tkL B n (t + 2)) 0)) 5 (pc P 4) (lkv P (tkL B n (t + 3)) 1), pl P, pk P, pd P) := by unfold tkP; rw [ct]; rfl
    rw [eP] at hb
    have b0 : pc P 0 ≤ 8 := hb.1
    have b2 : pc P 2 ≤ 6 := hb.2.2.1
    have b4 : pc P 4 + 1 ≤ 8 := hb.2.2.2
    exact C_take24 hkt T hd ⟨by omega, by unfold nN; omega⟩ hg h hw ct k1 k2 k3 e
  · have eP : tkP (tkK B n) (tkL B n) (tkV B n) P t brs = (inc (pc P) 5, pn P, pr P, setL (pl P) (some 6) brs, pk P, pd P) := by unfold tkP; rw [ct]; rfl
    rw [eP] at hb
    have b2 : pc P 2 ≤ 6 := hb.2.2.1
    exact C_take25 hkt T hd b2 ho h hw ct k1 hL e
  · exact C_take26 hkt T hd h hw (v4 _ k1) (Or.inl ct) k1 e
  · exact C_take26 hkt T hd h hw (v4 _ k1) (Or.inr ct) k1 e
theorem L8_x {S : St} {t m : Nat} (T : TKC B n N S) (h : t = N ∨ ¬ st_I S (ky kt 17) = 0) : f_X4_build_L8 kt (nI t, nI m, S) = some (.inr (st_I S (ky kt 17), S)) := by
  unfold f_X4_build_L8
  by_cases c : st_I S (ky 1 4) ≤ nI m
  · rw [if_pos c]
  · rw [if_neg c]
    rcases h with h | h
    · subst h
      rw [T.1, if_pos (Int32.le_refl _)]
    · by_cases c2 : st_I S (ky 1 4) ≤ nI t
      · rw [if_pos c2]
      · rw [if_neg c2, if_neg h]
theorem kTx_1 {kt f : Nat} (hkt : isTx kt) (hf : f < 100) : ¬ kTx kt (ky 1 f) := by
  rintro (⟨g, hg, e⟩ | ⟨g, hg, e⟩)
  · have := ky_inj hf (show g < 100 by omega) e
    rcases hkt with rfl | rfl <;> omega
  · have := ky_inj hf (show g < 100 by omega) e
    rcases hkt with rfl | rfl <;> omega
/-- what building comes to -/
def bldQ (B : Nat → Nat) (n kt : Nat) (S' : St) (v : Int32) (w : Option (Nat × Nat)) (P' : TP) (o : CL) : Prop := match w with
  | none => v = 0 ∧ cwst B n kt S' none ∧ ∃ o', CB kt S' P' (o ++ o') ∧ (o ++ o').length ≤ 404
  | some a => v = nI a.1 ∧ cwst B n kt S' (some a)
theorem C_loop (hkt : isTx kt) : ∀ (l : TL) (t m : Nat) (P : TP) (o : CL) (S : St), TRc (tkK B n) (tkL B n) (tkV B n) N l t P → m ≤ t → TKC B n N S → CB kt S P o → o.length ≤ 4 + t → cwst B n kt S none → gP P → gR P → ∃ S' v c, c ≤ l.length ∧ (∀ f, iter (f_X4_build_L8 kt) (f + c + 1) (nI t, nI m, S) = some (v, S')) ∧ on (kTx kt) S S' ∧ bldQ B n kt S' v (TRf (tkK B n) (tkL B n) (tkV B n) l t P) (TRp (tkK B n) (tkL B n) (tkV B n) l t P) o
  | [], t, m, P, o, S, h, hm, T, hC, ho, hw, hg, hr => by
    refine ⟨S, st_I S (ky kt 17), 0, Nat.le_refl _, fun f => it_x (L8_x T (Or.inl h.1)) _, on_refl _ _, hw.1, hw, [], ?_⟩
    rw [List.append_nil]
    have := h.1
    have := T.2.1
    exact ⟨hC, by omega⟩
  | (d, brs) :: r, t, m, P, o, S, h, hm, T, hC, ho, hw, hg, hr => by
    obtain ⟨h0, hlt, hs, hB, hR⟩ := h
    have hle := TRc_le hR
    have h400 := T.2.1
    obtain ⟨S1, e1, o1, w1, c1⟩ := C_takeOne hkt T (by omega) hs hB ho hg hC hw
    have T1 := TKC_on (fun f hf => kTx_1 hkt hf) o1 T
    have st : f_X4_build_L8 kt (nI t, nI m, S) = some (.inl (nI d, nI (m + 1), S1)) := by
      unfold f_X4_build_L8
      rw [T.1, if_neg (nI_ge (by omega) (by omega)), if_neg (nI_ge (by omega) (by omega)), hw.1, if_pos rfl, e1, bnd, nI_1]
    show ∃ S' v c, c ≤ r.length + 1 ∧ _ ∧ _ ∧ bldQ B n kt S' v (ow (tkF (tkK B n) (tkL B n) (tkV B n) P t) (TRf (tkK B n) (tkL B n) (tkV B n) r d (tkP (tkK B n) (tkL B n) (tkV B n) P t brs))) (TRp (tkK B n) (tkL B n) (tkV B n) r d (tkP (tkK B n) (tkL B n) (tkV B n) P t brs)) o
    cases q : tkF (tkK B n) (tkL B n) (tkV B n) P t with
    | some a =>
      rw [q] at w1
      have n0 : ¬ st_I S1 (ky kt 17) = 0 := by
        rw [w1.2.1]
        exact nI_nz (by have := w1.1; omega) (by have := w1.1; omega)
      refine ⟨S1, st_I S1 (ky kt 17), 1, by omega, fun f => ?_, o1, ?_⟩
      · rw [it_n st]
        exact it_x (L8_x T1 (Or.inr n0)) _
      · exact ⟨w1.2.1, w1⟩
    | none =>
      rw [q] at w1
      obtain ⟨o', hC1, hl1⟩ := c1 q
      have g := g_step hs q hB hg hr
      obtain ⟨S2, v, c, i1, i2, i3, i4⟩ := C_loop hkt r d (m + 1) _ (o ++ o') S1 hR (by omega) T1 hC1 (by rw [List.length_append]; omega) w1 g.1 g.2
      refine ⟨S2, v, c + 1, by omega, fun f => ?_, on_trans o1 i3, ?_⟩
      · rw [show f + (c + 1) + 1 = (f + c + 1) + 1 by omega, it_n st]
        exact i2 f
      · rw [ow_n]
        unfold bldQ at *
        split
        · rename_i z
          rw [z] at i4
          obtain ⟨a, b, o2, c2⟩ := i4
          rw [List.append_assoc] at c2
          exact ⟨a, b, o' ++ o2, c2⟩
        · rename_i x z
          rw [z] at i4
          exact i4
/-- the class's own laws -/
def dfC : CL := [(0, 0), (3, 0), (1, 2), (3, 0)]
def P0 : TP := (fun _ => 0, fun _ => ([], 0, 0), fun _ _ => 0, fun _ => none, 0, 0)
theorem gP0 : gP P0 ∧ gR P0 ∧ TBd P0 := ⟨⟨fun i j hi _ _ => absurd hi (Nat.not_lt_zero _), fun _ _ _ => rfl, fun j hj _ => absurd hj (Nat.not_lt_zero _)⟩, ⟨fun j hj _ => absurd hj (Nat.not_lt_zero _), ⟨by decide, by decide⟩, fun d hd => absurd hd (Nat.not_lt_zero _), fun d hd => absurd hd (Nat.not_lt_zero _), fun d hd => absurd hd (Nat.not_lt_zero _), fun i b h => by cases h⟩, by decide, by decide, by decide, by decide⟩
theorem C_clear4 (hkt : isTx kt) (S : St) : ∃ S', f_X4_clear kt S = some S' ∧ on (kTx kt) S S' ∧ cwst B n kt S' none ∧ CB kt S' P0 dfC := by
  have hk := tx_L hkt
  have w : ∀ (S : St) (f : Nat) (x : Int32), f < 19 → on (kTx kt) S (up_I S (ky kt f) x) := fun S f x hf => on_I _ _ _ (Or.inl ⟨f, hf, rfl⟩)
  unfold f_X4_clear
  rw [lt_e, lt_e, lt_e, lt_e, lt_e, lt_e, lt_e, lt_e, lt_e, lt_e]
  have oo : on (kTx kt) S (up_I (up_I (up_I (up_I (up_I (up_I (up_I (up_I (up_I (up_I S (ky kt 0) (0 : Int32)) (ky kt 1) (0 : Int32)) (ky kt 2) (0 : Int32)) (ky kt 3) (0 : Int32)) (ky kt 4) (0 : Int32)) (ky kt 5) (0 : Int32)) (ky kt 6) (2 : Int32)) (ky kt 15) (0 : Int32)) (ky kt 17) (0 : Int32)) (ky kt 18) (-1 : Int32)) := on_trans (on_trans (on_trans (on_trans (on_trans (on_trans (on_trans (on_trans (on_trans (w _ 0 _ (by decide)) (w _ 1 _ (by decide))) (w _ 2 _ (by decide))) (w _ 3 _ (by decide))) (w _ 4 _ (by decide))) (w _ 5 _ (by decide))) (w _ 6 _ (by decide))) (w _ 15 _ (by decide))) (w _ 17 _ (by decide))) (w _ 18 _ (by decide))
  have g : ∀ (f : Nat) (x : Int32), (f, x) ∈ [(0, (0 : Int32)), (1, 0), (2, 0), (3, 0), (4, 0), (5, 0), (6, 2), (15, 0), (17, 0), (18, -1)] → st_I (up_I (up_I (up_I (up_I (up_I (up_I (up_I (up_I (up_I (up_I S (ky kt 0) (0 : Int32)) (ky kt 1) (0 : Int32)) (ky kt 2) (0 : Int32)) (ky kt 3) (0 : Int32)) (ky kt 4) (0 : Int32)) (ky kt 5) (0 : Int32)) (ky kt 6) (2 : Int32)) (ky kt 15) (0 : Int32)) (ky kt 17) (0 : Int32)) (ky kt 18) (-1 : Int32)) (ky kt f) = x := by
    intro f x h
    rcases hkt with rfl | rfl
    · simp only [List.mem_cons, List.not_mem_nil, or_false, Prod.mk.injEq] at h
      rcases h with ⟨rfl, rfl⟩ | ⟨rfl, rfl⟩ | ⟨rfl, rfl⟩ | ⟨rfl, rfl⟩ | ⟨rfl, rfl⟩ | ⟨rfl, rfl⟩ | ⟨rfl, rfl⟩ | ⟨rfl, rfl⟩ | ⟨rfl, rfl⟩ | ⟨rfl, rfl⟩ <;> rfl
    · simp only [List.mem_cons, List.not_mem_nil, or_false, Prod.mk.injEq] at h
      rcases h with ⟨rfl, rfl⟩ | ⟨rfl, rfl⟩ | ⟨rfl, rfl⟩ | ⟨rfl, rfl⟩ | ⟨rfl, rfl⟩ | ⟨rfl, rfl⟩ | ⟨rfl, rfl⟩ | ⟨rfl, rfl⟩ | ⟨rfl, rfl⟩ | ⟨rfl, rfl⟩ <;> rfl
  generalize up_I (up_I (up_I (up_I (up_I (up_I (up_I (up_I (up_I (up_I S (ky kt 0) (0 : Int32)) (ky kt 1) (0 : Int32)) (ky kt 2) (0 : Int32)) (ky kt 3) (0 : Int32)) (ky kt 4) (0 : Int32)) (ky kt 5) (0 : Int32)) (ky kt 6) (2 : Int32)) (ky kt 15) (0 : Int32)) (ky kt 17) (0 : Int32)) (ky kt 18) (-1 : Int32) = Z at *
  unfold f_X1_clear
  rw [lt_e]
  have oz : on (kLw (kt + 2)) Z (up_I (up_I Z (ky (kt + 2) 2) (0 : Int32)) (ky (kt + 2) 4) (0 : Int32)) := on_trans (on_I _ _ _ (kLw_ (by decide))) (on_I _ _ _ (kLw_ (by decide)))
  have c0 : clO (kt + 2) (up_I Z (ky (kt + 2) 2) (0 : Int32)) [] := ⟨(gI_I ..).trans (if_pos rfl), fun j hj => absurd hj (Nat.not_lt_zero _)⟩
  have em : ∀ (Y : St) (o : CL) (x : Nat × Nat), clO (kt + 2) Y o → o.length < 512 → ∃ Y', f_X1_emit (kt + 2) Y (nI x.1) (nI x.2) = some Y' ∧ clO (kt + 2) Y' (o ++ [x]) ∧ on (kLw (kt + 2)) Y Y' := by
    intro Y o x h hl
    obtain ⟨_, _, _, e4, e5⟩ := cm_fr hk Y o.length (nI x.1) (nI x.2)
    refine ⟨_, C_emit hk h.1 hl _ _, ⟨?_, ?_⟩, upCm_on _ _ _ _ _⟩
    · rw [(cm_fr hk Y o.length (nI x.1) (nI x.2)).1, List.length_append]
      rfl
    · rw [e4, e5]
      have := cds_app (c0 := 0) x h.2
      rw [Nat.zero_add] at this
      exact this
  obtain ⟨Y1, a1, b1, d1⟩ := em _ [] (0, 0) c0 (by decide)
  obtain ⟨Y2, a2, b2, d2⟩ := em _ _ (3, 0) b1 (by decide)
  obtain ⟨Y3, a3, b3, d3⟩ := em _ _ (1, 2) b2 (by decide)
  obtain ⟨Y4, a4, b4, d4⟩ := em _ _ (3, 0) b3 (by decide)
  rw [show f_X1_emit (kt + 2) (up_I Z (ky (kt + 2) 2) (0 : Int32)) (0 : Int32) (0 : Int32) = some Y1 from a1, bnd, show f_X1_emit (kt + 2) Y1 (3 : Int32) (0 : Int32) = some Y2 from a2, bnd, show f_X1_emit (kt + 2) Y2 (1 : Int32) (2 : Int32) = some Y3 from a3, bnd, show f_X1_emit (kt + 2) Y3 (3 : Int32) (0 : Int32) = some Y4 from a4, bnd, bnd]
  have oY : on (kLw (kt + 2)) Z Y4 := on_trans (on_I _ _ _ (kLw_ (by decide))) (on_trans d1 (on_trans d2 (on_trans d3 d4)))
  have gg : ∀ (f : Nat) (x : Int32), (f, x) ∈ [(0, (0 : Int32)), (1, 0), (2, 0), (3, 0), (4, 0), (5, 0), (6, 2), (15, 0), (17, 0), (18, -1)] → st_I Y4 (ky kt f) = x := fun f x h => by
    have hf : f < 100 := by
      simp only [List.mem_cons, List.not_mem_nil, or_false, Prod.mk.injEq] at h
      omega
    rw [(oY _ (kLw_tx hf)).1]
    exact g f x h
  refine ⟨Y4, rfl, on_trans oo (kTx_Lw oY), ⟨gg 17 0 (by decide), gg 18 (-1) (by decide)⟩, ⟨gg 0 0 (by decide), gg 1 0 (by decide), gg 2 0 (by decide), gg 3 0 (by decide)⟩, ⟨gg 4 0 (by decide), gg 5 0 (by decide)⟩, ⟨gg 15 0 (by decide), by decide, fun j hj => absurd hj (Nat.not_lt_zero _)⟩, fun d hd => absurd hd (Nat.not_lt_zero _), fun d hd => absurd hd (Nat.not_lt_zero _), fun d hd => absurd hd (Nat.not_lt_zero _), fun a ha => absurd ha (Nat.not_lt_zero _), ⟨2, by decide, gg 6 2 (by decide), rfl⟩, b4⟩
/-- the whole -/
theorem C_build (hkt : isTx kt) {S : St} {l : TL} (h : TRc (tkK B n) (tkL B n) (tkV B n) N l 0 P0) (T : TKC B n N S) : ∃ S' v, f_X4_build kt S = some (v, S') ∧ on (kTx kt) S S' ∧ bldQ B n kt S' v (TRf (tkK B n) (tkL B n) (tkV B n) l 0 P0) (TRp (tkK B n) (tkL B n) (tkV B n) l 0 P0) dfC := by
  obtain ⟨S1, e1, o1, w1, c1⟩ := C_clear4 (B := B) (n := n) hkt S
  have T1 := TKC_on (fun f hf => kTx_1 hkt hf) o1 T
  obtain ⟨S2, v, c, i1, i2, i3, i4⟩ := C_loop hkt l 0 0 P0 dfC S1 h (Nat.le_refl _) T1 c1 (by decide) w1 gP0.1 gP0.2.1
  refine ⟨S2, v, ?_, on_trans o1 i3, i4⟩
  have hle := TRc_le h
  have h400 := T.2.1
  unfold f_X4_build
  rw [e1, bnd]
  have hF : FU = (40000 - 1 - c) + c + 1 := by
    show 40000 = _
    omega
  rw [hF]
  exact i2 _
end CT
