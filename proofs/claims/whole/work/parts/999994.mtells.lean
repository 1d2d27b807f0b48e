/-! WHAT A LAW SAYS; the reference's branches. -/
def mW (S : St) (A : Nat → Int32) (x : Int32) : St := up_I (up_A S (ky 0 50) A) (ky 0 51) x
theorem upI_2 (S : St) (k : Nat) (x y : Int32) : up_I (up_I S k x) k y = up_I S k y := by
  have : (fun j => if j = k then y else (if j = k then x else S.1 j)) = fun j => if j = k then y else S.1 j := by
    funext j
    by_cases h : j = k
    · rw [if_pos h, if_pos h]
    · rw [if_neg h, if_neg h, if_neg h]
  show ((fun j => if j = k then y else (if j = k then x else S.1 j)), S.2) = _
  rw [this]
  rfl
theorem upI_eta (S : St) (k : Nat) : up_I S k (st_I S k) = S := by
  have : (fun j => if j = k then st_I S k else S.1 j) = S.1 := by
    funext j
    by_cases h : j = k
    · rw [if_pos h, h]
      rfl
    · rw [if_neg h]
  show ((fun j => if j = k then st_I S k else S.1 j), S.2) = S
  rw [this]
theorem mW_A (S : St) (A A' : Nat → Int32) (x : Int32) : up_A (mW S A x) (ky 0 50) A' = mW S A' x := by
  show up_I (up_A (up_A S (ky 0 50) A) (ky 0 50) A') (ky 0 51) x = _
  rw [upA_upA]
  rfl
theorem mW_I (S : St) (A : Nat → Int32) (x y : Int32) : up_I (mW S A x) (ky 0 51) y = mW S A y := upI_2 _ _ _ _
theorem mW_fr (S : St) (A : Nat → Int32) (x : Int32) {f : Nat} (hf : f ≠ 50 ∧ f < 100) : st_A (mW S A x) (ky 0 f) = st_A S (ky 0 f) := mv_fr S A hf
theorem mW_51 (S : St) (A : Nat → Int32) (x : Int32) : st_I (mW S A x) (ky 0 51) = x := gIs ..
/-- a term in such a state -/
theorem mW_term {S : St} {c0 : Nat} {all l pre post : CL} (hc : cds (st_A S (ky 0 45)) (st_A S (ky 0 46)) c0 all) (ho : c0 + all.length ≤ 840) (h : all = pre ++ (l ++ post)) (hx : xk l) (A : Nat → Int32) (x0 : Int32) : ∃ A', f_X6_termOf (mW S A x0) (nI (c0 + pre.length)) (nI (c0 + pre.length + l.length)) = some (match vl (st_A S (ky 0 49)) l with
    | none => ((0 : Int32), mW S A' 1)
    | some y => (y, mW S A' x0)) := by
  have hc' : cds (st_A (mW S A x0) (ky 0 45)) (st_A (mW S A x0) (ky 0 46)) c0 all := by
    rw [mW_fr _ _ _ (by decide), mW_fr _ _ _ (by decide)]
    exact hc
  obtain ⟨A', e⟩ := M_termOf hc' ho h hx
  rw [mW_fr _ _ _ (by decide)] at e
  refine ⟨A', ?_⟩
  rw [e]
  cases vl (st_A S (ky 0 49)) l with
  | none =>
    show some ((0 : Int32), up_I (up_A (mW S A x0) (ky 0 50) A') (ky 0 51) 1) = some ((0 : Int32), mW S A' 1)
    rw [mW_A, mW_I]
  | some y =>
    show some (y, up_A (mW S A x0) (ky 0 50) A') = some (y, mW S A' x0)
    rw [mW_A]
/-- what follows the loop over the branches -/
def tlK (z : (Int32 × St) ⊕ (Int32 × St)) : Option (Int32 × St) := match z with
  | .inl z => f_X6_tells_J120 z.2 z.1
  | .inr v => some v
section MB
theorem J120_v {S : St} {c0 : Nat} {all l pre post : CL} (hc : cds (st_A S (ky 0 45)) (st_A S (ky 0 46)) c0 all) (ho : c0 + all.length ≤ 840) (h : all = pre ++ (l ++ post)) (hx : xk l) {b : Nat} (hb : b < 260) (h42 : st_A S (ky 0 42) b = nI (c0 + pre.length)) (h43 : st_A S (ky 0 43) b = nI (c0 + pre.length + l.length)) (A : Nat → Int32) : ∃ A' x, f_X6_tells_J120 (mW S A 0) (nI b) = some ((vl (st_A S (ky 0 49)) l).getD 0, mW S A' x) := by
  obtain ⟨A', e⟩ := mW_term hc ho h hx A 0
  unfold f_X6_tells_J120
  rw [chk_t (ib_nI hb (by decide)), chk_t (ib_nI hb (by decide)), nI_clamp (by omega), mW_fr _ _ _ (by decide), mW_fr _ _ _ (by decide), h42, h43, e, bnd]
  cases vl (st_A S (ky 0 49)) l with
  | none =>
    refine ⟨A', 1, ?_⟩
    show (if st_I (mW S A' 1) (ky 0 51) = 0 then _ else _) = _
    rw [mW_51, if_neg (by decide)]
    rfl
  | some y =>
    refine ⟨A', 0, ?_⟩
    show (if st_I (mW S A' 0) (ky 0 51) = 0 then _ else _) = _
    rw [mW_51, if_pos rfl]
    rfl
theorem M_brs {S : St} {c0 : Nat} {all : CL} (hc : cds (st_A S (ky 0 45)) (st_A S (ky 0 46)) c0 all) (ho : c0 + all.length ≤ 840) {u E : Nat} (hu : u < 14) (h37 : st_A S (ky 0 37) u = nI E) (hE : E ≤ 260) : ∀ (brs : List BR) (b : Nat) (A : Nat → Int32), (∀ i, i < brs.length → brAt S c0 all (b + i) (brs.getD i (none, []))) → lawG brs → b + brs.length ≤ E → ∃ A' x c, c ≤ brs.length ∧ ∀ f, (iter (f_X6_tells_L40 (nI u)) (f + c + 1) (nI b, mW S A 0)).bind tlK = some ((brV (st_A S (ky 0 49)) brs).getD 0, mW S A' x)
  | [], b, A, hB, hg, hE2 => absurd hg id
  | (none, l3) :: r, b, A, hB, hg, hE2 => by
    obtain ⟨rfl, hx⟩ := hg
    have hE3 : b + 1 ≤ E := hE2
    obtain ⟨A1, A2, e1, h39, h42, h43⟩ := hB 0 (by decide : 0 < 1)
    obtain ⟨A', x, e⟩ := J120_v hc ho e1 hx (b := b) (by omega) h42 h43 A
    refine ⟨A', x, 0, Nat.zero_le _, fun f => ?_⟩
    have st : f_X6_tells_L40 (nI u) (nI b, mW S A 0) = some (.inr (.inl (nI b, mW S A 0))) := by
      unfold f_X6_tells_L40
      rw [chk_t (ib_nI hu (by decide)), nI_clamp (by omega), mW_fr _ _ _ (by decide), h37, if_neg (nI_ge (by omega) (by omega)), chk_t (ib_nI (by omega) (by decide)), nI_clamp (by omega), mW_fr _ _ _ (by decide)]
      have h39' : st_A S (ky 0 39) b = 0 := h39
      rw [h39', if_pos rfl]
    rw [it_x st, bnd]
    exact e
  | (some (l1, l2), l3) :: r, b, A, hB, hg, hE2 => by
    obtain ⟨x1, x2, x3, hr⟩ := hg
    have hE3 : b + (r.length + 1) ≤ E := hE2
    have hB0 : brAt S c0 all b (some (l1, l2), l3) := hB 0 (Nat.succ_pos _)
    obtain ⟨A1, A2, e1, h39, h40, h41, h42, h43⟩ := hB0
    have e2 : all = (A1 ++ l1) ++ (l2 ++ (l3 ++ A2)) := by rw [e1]; simp only [List.append_assoc]
    have e3 : all = (A1 ++ l1 ++ l2) ++ (l3 ++ A2) := by rw [e1]; simp only [List.append_assoc]
    have p2 : c0 + (A1 ++ l1).length = c0 + A1.length + l1.length := by rw [List.length_append]; omega
    have p3 : c0 + (A1 ++ l1 ++ l2).length = c0 + A1.length + l1.length + l2.length := by rw [List.length_append, List.length_append]; omega
    obtain ⟨B1, t1⟩ := mW_term hc ho e1 x1 A 0
    have start : ∀ S' z, f_X6_termOf (mW S A 0) (nI (c0 + A1.length)) (nI (c0 + A1.length + l1.length)) = some (z, S') → f_X6_tells_L40 (nI u) (nI b, mW S A 0) = (chk (ib (nI b) 260) (chk (ib (nI b) 260) ((f_X6_termOf S' (st_A S' (ky 0 41) (nI b).toNatClampNeg) (st_A S' (ky 0 42) (nI b).toNatClampNeg)).bind (fun (q7 : Int32 × St) => if (st_I q7.2 (ky 0 51)) = 0 then (if z < q7.1 then (some (.inr (.inl (nI b, q7.2)))) else (some (.inl ((nI b + 1), q7.2)))) else (some (.inr (.inr ((0 : Int32), q7.2)))))))) := fun S' z hz => by
      unfold f_X6_tells_L40
      rw [chk_t (ib_nI hu (by decide)), nI_clamp (by omega), mW_fr _ _ _ (by decide), h37, if_neg (nI_ge (by omega) (by omega)), chk_t (ib_nI (by omega) (by decide)), nI_clamp (by omega), mW_fr _ _ _ (by decide), h39, if_neg (by decide), chk_t (ib_nI (by omega) (by decide)), chk_t (ib_nI (by omega) (by decide)), mW_fr _ _ _ (by decide), mW_fr _ _ _ (by decide), h40, h41, hz, bnd]
      all_goals rfl
    show ∃ A' x c, _ ∧ ∀ f, _ = some (((vl (st_A S (ky 0 49)) l1).bind (fun a => (vl (st_A S (ky 0 49)) l2).bind (fun b => if a < b then vl (st_A S (ky 0 49)) l3 else brV (st_A S (ky 0 49)) r))).getD 0, _)
    cases v1 : vl (st_A S (ky 0 49)) l1 with
    | none =>
      rw [v1] at t1
      have t1' : f_X6_termOf (mW S A 0) (nI (c0 + A1.length)) (nI (c0 + A1.length + l1.length)) = some ((0 : Int32), mW S B1 1) := t1
      have s1 := start _ _ t1'
      rw [chk_t (ib_nI (by omega) (by decide)), chk_t (ib_nI (by omega) (by decide)), nI_clamp (by omega), mW_fr _ _ _ (by decide), mW_fr _ _ _ (by decide), h41, h42] at s1
      obtain ⟨B2, t2⟩ := mW_term hc ho e2 x2 B1 1
      rw [p2] at t2
      rw [t2, bnd] at s1
      have fin : ∀ (a y : Int32), f_X6_tells_L40 (nI u) (nI b, mW S A 0) = (if st_I (mW S B2 1) (ky 0 51) = 0 then (if a < y then (some (.inr (.inl (nI b, mW S B2 1)))) else (some (.inl ((nI b + 1), mW S B2 1)))) else (some (.inr (.inr ((0 : Int32), mW S B2 1))))) → ∃ A' x c, c ≤ ((some (l1, l2), l3) :: r : List BR).length ∧ ∀ f, (iter (f_X6_tells_L40 (nI u)) (f + c + 1) (nI b, mW S A 0)).bind tlK = some ((0 : Int32), mW S A' x) := fun a y s2 => by
        rw [mW_51, if_neg (by decide)] at s2
        refine ⟨B2, 1, 0, Nat.zero_le _, fun f => ?_⟩
        rw [it_x s2, bnd]
        rfl
      cases v2 : vl (st_A S (ky 0 49)) l2 with
      | none =>
        rw [v2] at s1
        exact fin 0 0 s1
      | some y =>
        rw [v2] at s1
        exact fin 0 y s1
    | some a =>
      rw [v1] at t1
      have t1' : f_X6_termOf (mW S A 0) (nI (c0 + A1.length)) (nI (c0 + A1.length + l1.length)) = some (a, mW S B1 0) := t1
      have s1 := start _ _ t1'
      rw [chk_t (ib_nI (by omega) (by decide)), chk_t (ib_nI (by omega) (by decide)), nI_clamp (by omega), mW_fr _ _ _ (by decide), mW_fr _ _ _ (by decide), h41, h42] at s1
      obtain ⟨B2, t2⟩ := mW_term hc ho e2 x2 B1 0
      rw [p2] at t2
      rw [t2, bnd] at s1
      rw [Option.bind_some]
      cases v2 : vl (st_A S (ky 0 49)) l2 with
      | none =>
        rw [v2] at s1
        have s1' : f_X6_tells_L40 (nI u) (nI b, mW S A 0) = if st_I (mW S B2 1) (ky 0 51) = 0 then (if a < 0 then (some (.inr (.inl (nI b, mW S B2 1)))) else (some (.inl ((nI b + 1), mW S B2 1)))) else (some (.inr (.inr ((0 : Int32), mW S B2 1)))) := s1
        rw [mW_51, if_neg (by decide)] at s1'
        refine ⟨B2, 1, 0, Nat.zero_le _, fun f => ?_⟩
        rw [it_x s1', bnd]
        rfl
      | some y =>
        rw [v2] at s1
        have s1' : f_X6_tells_L40 (nI u) (nI b, mW S A 0) = if st_I (mW S B2 0) (ky 0 51) = 0 then (if a < y then (some (.inr (.inl (nI b, mW S B2 0)))) else (some (.inl ((nI b + 1), mW S B2 0)))) else (some (.inr (.inr ((0 : Int32), mW S B2 0)))) := s1
        rw [mW_51, if_pos rfl] at s1'
        rw [Option.bind_some]
        by_cases hab : a < y
        · rw [if_pos hab] at s1' ⊢
          obtain ⟨A', x, e⟩ := J120_v hc ho e3 x3 (b := b) (by omega) (by rw [p3]; exact h42) (by rw [p3]; exact h43) B2
          refine ⟨A', x, 0, Nat.zero_le _, fun f => ?_⟩
          rw [it_x s1', bnd]
          exact e
        · rw [if_neg hab] at s1' ⊢
          rw [nI_1] at s1'
          obtain ⟨A', x, c, g1, g2⟩ := M_brs hc ho hu h37 hE r (b + 1) B2 (fun i hi => by
            have := hB (i + 1) (Nat.succ_lt_succ hi)
            rw [show b + 1 + i = b + (i + 1) by omega]
            exact this) hr (by omega)
          refine ⟨A', x, c + 1, Nat.succ_le_succ g1, fun f => ?_⟩
          rw [show f + (c + 1) + 1 = (f + c + 1) + 1 by omega, it_n s1']
          exact g2 f
end MB
/-- the law of number i, told so or not at all -/
def lawF (x : Option (List BR)) (i : Nat) (v : Nat → Int32) : Int32 := match x with
  | none => if i = 6 then v 2 else 0
  | some brs => (brV v brs).getD 0
/-- the reference's law of number i, from what has been read -/
theorem M_lawM {S : St} {s i : Nat} {all : CL} {bl : List BR} {x : Option (List BR)} (hs : s < 2) (hi : i < 7) (ha : all.length ≤ 420) (hb : bl.length ≤ 130) (hc : cds (st_A S (ky 0 45)) (st_A S (ky 0 46)) (420 * s) all) (hB : ∀ j, j < bl.length → brAt S (420 * s) all (130 * s + j) (bl.getD j (none, []))) (hL : lawR s S bl i x) (hg : ∀ brs, x = some brs → lawG brs) (h18 : st_I S (ky 0 18) = nI s) : lawM s S i (lawF x i) := by
  intro S' hq h18'
  have w : ∀ q ∈ [36, 37, 39, 40, 41, 42, 43, 45, 46], ∀ j, j < wd q → st_A S' (ky 0 q) (wd q * s + j) = st_A S (ky 0 q) (wd q * s + j) := fun q hq1 j hj => hq q hq1 _ (by omega) (by omega)
  have w7 : ∀ q, q = 36 ∨ q = 37 → st_A S' (ky 0 q) (7 * s + i) = st_A S (ky 0 q) (7 * s + i) := fun q hq1 => by
    rcases hq1 with rfl | rfl
    · exact w 36 (by decide) i hi
    · exact w 37 (by decide) i hi
  have wb : ∀ f, 39 ≤ f → f ≤ 43 → ∀ j, j < 130 → st_A S' (ky 0 f) (130 * s + j) = st_A S (ky 0 f) (130 * s + j) := fun f h1 h2 j hj => by
    have hf : f = 39 ∨ f = 40 ∨ f = 41 ∨ f = 42 ∨ f = 43 := by omega
    rcases hf with rfl | rfl | rfl | rfl | rfl
    · exact w 39 (by decide) j hj
    · exact w 40 (by decide) j hj
    · exact w 41 (by decide) j hj
    · exact w 42 (by decide) j hj
    · exact w 43 (by decide) j hj
  have hc' : cds (st_A S' (ky 0 45)) (st_A S' (ky 0 46)) (420 * s) all := fun j hj => by
    have g1 : st_A S' (ky 0 45) (420 * s + j) = st_A S (ky 0 45) (420 * s + j) := w 45 (by decide) j (by show j < 420; omega)
    have g2 : st_A S' (ky 0 46) (420 * s + j) = st_A S (ky 0 46) (420 * s + j) := w 46 (by decide) j (by show j < 420; omega)
    rw [g1, g2]
    exact hc j hj
  have e7 : (7 : Int32) * st_I S' (ky 0 18) + nI i = nI (7 * s + i) := by
    rw [h18', h18, show (7 : Int32) * nI s = nI (7 * s) from pk_mul 7 s, nI_add]
  have b14 : ib (nI (7 * s + i)) 14 := ib_nI (by omega) (by decide)
  have c14 : (nI (7 * s + i)).toNatClampNeg = 7 * s + i := nI_clamp (by omega)
  unfold f_X6_tells
  rw [lt_e, e7, chk_t b14, chk_t b14, c14, w7 36 (Or.inl rfl), w7 37 (Or.inr rfl)]
  cases x with
  | none =>
    have hL' : st_A S (ky 0 36) (7 * s + i) = st_A S (ky 0 37) (7 * s + i) := hL
    show ∃ f x, _ = some ((if i = 6 then st_A S' (ky 0 49) 2 else 0), up_I (up_A S' (ky 0 50) f) (ky 0 51) x)
    refine ⟨st_A S' (ky 0 50), st_I S' (ky 0 51), ?_⟩
    rw [if_pos hL', upA_eta, upI_eta]
  | some brs =>
    obtain ⟨j, g1, g2, g3, g4⟩ := hL
    show ∃ f x, _ = some ((brV (st_A S' (ky 0 49)) brs).getD 0, up_I (up_A S' (ky 0 50) f) (ky 0 51) x)
    have hG := hg brs rfl
    have hlen : 0 < brs.length := by
      cases brs with
      | nil => exact absurd hG id
      | cons a r => exact Nat.succ_pos _
    have hne : ¬ nI (130 * s + j) = nI (130 * s + j + brs.length) := nI_eq' (by omega) (by omega) (by omega)
    rw [g1, g2, if_neg hne, lt_e, chk_t b14]
    have hB' : ∀ u, u < brs.length → brAt S' (420 * s) all (130 * s + j + u) (brs.getD u (none, [])) := fun u hu => by
      have h1 := hB (j + u) (by omega)
      rw [g4 u hu] at h1
      rw [show 130 * s + j + u = 130 * s + (j + u) by omega]
      exact brAt_cg h1 (fun f f1 f2 => wb f f1 f2 (j + u) (by omega))
    have h37 : st_A S' (ky 0 37) (7 * s + i) = nI (130 * s + j + brs.length) := by rw [w7 37 (Or.inr rfl), g2]
    have h36 : st_A (up_I S' (ky 0 51) (0 : Int32)) (ky 0 36) (7 * s + i) = nI (130 * s + j) := by
      rw [gA_I, w7 36 (Or.inl rfl), g1]
    obtain ⟨A', x', c, k1, k2⟩ := M_brs hc' (by omega) (u := 7 * s + i) (E := 130 * s + j + brs.length) (by omega) h37 (by omega) brs (130 * s + j) (st_A S' (ky 0 50)) hB' hG (Nat.le_refl _)
    have eW : mW S' (st_A S' (ky 0 50)) 0 = up_I S' (ky 0 51) (0 : Int32) := by
      unfold mW
      rw [upA_eta]
    rw [eW] at k2
    have hF : FU = (40000 - 1 - c) + c + 1 := by
      show 40000 = _
      omega
    refine ⟨A', x', ?_⟩
    rw [h36, hF]
    exact k2 _
