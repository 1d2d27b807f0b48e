/-! WHAT A LAW SAYS; the reference. -/
theorem cds_mid {A D : Nat → Int32} {c0 : Nat} {all X Y : CL} {x : Nat × Nat} (h : cds A D c0 all) (e : all = X ++ x :: Y) : A (c0 + X.length) = nI x.1 ∧ D (c0 + X.length) = nI x.2 := by
  have hl : X.length < all.length := by
    rw [e, List.length_append, List.length_cons]; omega
  have hh := h X.length hl
  rw [getD_mid2 e] at hh
  exact hh
section MV
theorem mv_fr (S : St) (A : Nat → Int32) {f : Nat} (hf : f ≠ 50 ∧ f < 100) : st_A (up_A S (ky 0 50) A) (ky 0 f) = st_A S (ky 0 f) := by
  rw [gA_A, if_neg (ky_ne (by omega) (by decide) (by omega))]
theorem nI_21 (m : Nat) : nI (m + 2) + (-1) = nI (m + 1) := nI_mm (m + 1)
theorem M_one {S : St} {c0 : Nat} {all X Y : CL} {x : Nat × Nat} (hc : cds (st_A S (ky 0 45)) (st_A S (ky 0 46)) c0 all) (e0 : all = X ++ x :: Y) (ho : c0 + all.length ≤ 840) {E e : Nat} (hE : c0 + X.length < E ∧ E ≤ 840) (hr : cdR x) {A : Nat → Int32} {s : List Int32} (hd : dpS (some s.length) x = some e) (hs30 : s.length ≤ 30) (hA : stkV A s) : (evO (st_A S (ky 0 49)) x s = none ∧ f_X6_termOf_L5 (nI E) (nI s.length, nI (c0 + X.length), up_A S (ky 0 50) A) = some (.inr (.inr ((0 : Int32), up_I (up_A S (ky 0 50) A) (ky 0 51) 1)))) ∨ ∃ s' A', evO (st_A S (ky 0 49)) x s = some s' ∧ s'.length = e ∧ stkV A' s' ∧ f_X6_termOf_L5 (nI E) (nI s.length, nI (c0 + X.length), up_A S (ky 0 50) A) = some (.inl (nI s'.length, nI (c0 + X.length + 1), up_A S (ky 0 50) A')) := by
  have hl : X.length < all.length := by
    rw [e0, List.length_append, List.length_cons]; omega
  obtain ⟨g1, g2⟩ := cds_mid hc e0
  have a1 : st_A (up_A S (ky 0 50) A) (ky 0 45) (c0 + X.length) = nI x.1 := by rw [mv_fr _ _ (by decide)]; exact g1
  have a2 : st_A (up_A S (ky 0 50) A) (ky 0 46) (c0 + X.length) = nI x.2 := by rw [mv_fr _ _ (by decide)]; exact g2
  have b8 : ib (nI (c0 + X.length)) 840 := ib_nI (by omega) (by decide)
  have cl : (nI (c0 + X.length)).toNatClampNeg = c0 + X.length := nI_clamp (by omega)
  obtain ⟨c, n⟩ := x
  have hd' : (if c < 2 then (if s.length < 30 then some (s.length + 1) else none) else if 2 ≤ s.length then some (s.length - 1) else none) = some e := hd
  have hr1 : c < 6 := hr.1
  have j58 : ∀ y : Int32, f_X6_termOf_J58 (up_A S (ky 0 50) A) (nI E) (nI s.length) (nI (c0 + X.length)) y (nI s.length) = some (.inl (nI (s.length + 1), nI (c0 + X.length + 1), up_A S (ky 0 50) (upd A s.length y))) := fun y => by
    unfold f_X6_termOf_J58
    rw [chk_t (ib_nI (by omega) (by decide)), nI_clamp (by omega), lt_e, gAs, upA_upA, nI_1, nI_1]
  have head : f_X6_termOf_L5 (nI E) (nI s.length, nI (c0 + X.length), up_A S (ky 0 50) A) = (if (2 : Int32) ≤ nI c then (chk (ib ((nI s.length + (-1)) - (1 : Int32)) 400) (lt_v (st_A (up_A S (ky 0 50) A) (ky 0 50) ((nI s.length + (-1)) - (1 : Int32)).toNatClampNeg) (fun (u4 : Int32) => chk (ib (nI s.length + (-1)) 400) (lt_v (st_A (up_A S (ky 0 50) A) (ky 0 50) (nI s.length + (-1)).toNatClampNeg) (fun (u5 : Int32) => if nI c = (5 : Int32) then (if u5 = 0 then (lt_v (up_I (up_A S (ky 0 50) A) (ky 0 51) (1 : Int32)) (fun (S13 : St) => some (.inr (.inr ((0 : Int32), S13))))) else (f_X6_termOf_J104 (up_A S (ky 0 50) A) (nI E) (nI s.length + (-1)) (nI (c0 + X.length)) (nI c) u4 u5)) else (f_X6_termOf_J104 (up_A S (ky 0 50) A) (nI E) (nI s.length + (-1)) (nI (c0 + X.length)) (nI c) u4 u5)))))) else (if nI c = 0 then (chk (ib (nI (c0 + X.length)) 840) (f_X6_termOf_J58 (up_A S (ky 0 50) A) (nI E) (nI s.length) (nI (c0 + X.length)) (st_A (up_A S (ky 0 50) A) (ky 0 46) (nI (c0 + X.length)).toNatClampNeg) (nI s.length))) else (chk (ib (nI (c0 + X.length)) 840) (chk (ib (st_A (up_A S (ky 0 50) A) (ky 0 46) (nI (c0 + X.length)).toNatClampNeg) 6) (f_X6_termOf_J58 (up_A S (ky 0 50) A) (nI E) (nI s.length) (nI (c0 + X.length)) (st_A (up_A S (ky 0 50) A) (ky 0 49) (st_A (up_A S (ky 0 50) A) (ky 0 46) (nI (c0 + X.length)).toNatClampNeg).toNatClampNeg) (nI s.length)))))) := by
    unfold f_X6_termOf_L5
    rw [if_neg (show ¬ nI E ≤ nI (c0 + X.length) from nI_ge hE.1 (by omega)), chk_t b8, lt_e]
    show (if (2 : Int32) ≤ st_A (up_A S (ky 0 50) A) (ky 0 45) (nI (c0 + X.length)).toNatClampNeg then _ else _) = _
    rw [cl, a1]
  rw [head]
  unfold evO
  by_cases c0' : c = 0
  · subst c0'
    have eS : s.length + 1 = e := by
      rw [if_pos (by decide)] at hd'
      split at hd'
      · exact Option.some.inj hd'
      · cases hd'
    refine Or.inr ⟨nI n :: s, upd A s.length (nI n), rfl, eS, stkV_push (nI n) hA, ?_⟩
    rw [if_neg (by decide), if_pos (show nI 0 = (0 : Int32) from rfl), chk_t b8, cl, a2]
    exact j58 _
  by_cases c1 : c = 1
  · subst c1
    have hn6 : n < 6 := hr.2.2 rfl
    have eS : s.length + 1 = e := by
      rw [if_pos (by decide)] at hd'
      split at hd'
      · exact Option.some.inj hd'
      · cases hd'
    refine Or.inr ⟨st_A S (ky 0 49) n :: s, upd A s.length (st_A S (ky 0 49) n), rfl, eS, stkV_push _ hA, ?_⟩
    have a2' : st_A (up_A S (ky 0 50) A) (ky 0 46) (c0 + X.length) = nI n := a2
    rw [if_neg (by decide), if_neg (by decide), chk_t b8, cl, a2', chk_t (ib_nI hn6 (by decide)), nI_clamp (by omega), mv_fr _ _ (by decide)]
    exact j58 _
  rw [if_neg (show ¬ (c, n).1 = 0 from c0'), if_neg (show ¬ (c, n).1 = 1 from c1)]
  rw [if_neg (by omega)] at hd'
  have h2c : (2 : Int32) ≤ nI c := nI_le (a := 2) (by omega) (by omega)
  rw [if_pos h2c]
  match s, hd', hA, hs30 with
  | [], h', _, _ => cases h'
  | [a], h', _, _ => cases h'
  | b :: a :: q, h', hA, hs30 =>
    have eS : q.length + 1 = e := Option.some.inj h'
    have eL : (b :: a :: q).length = q.length + 2 := rfl
    have t1 : nI (b :: a :: q).length + (-1) = nI (q.length + 1) := by rw [eL]; exact nI_21 _
    have hb : A (q.length + 1) = b := hA.1
    have ha : A q.length = a := hA.2.1
    rw [eL] at hs30
    rw [t1, nI_pred, chk_t (ib_nI (by omega) (by decide)), nI_clamp (by omega), nI_clamp (by omega), lt_e, chk_t (ib_nI (by omega) (by decide)), lt_e, gAs, hb, ha]
    have hcs : c = 2 ∨ c = 3 ∨ c = 4 ∨ c = 5 := by omega
    have j158 : ∀ y : Int32, f_X6_termOf_J158 (up_A S (ky 0 50) A) (nI E) (nI (q.length + 1)) (nI (c0 + X.length)) y (nI (q.length + 1) - (1 : Int32)) = some (.inl (nI (q.length + 1), nI (c0 + X.length + 1), up_A S (ky 0 50) (upd A q.length y))) := fun y => by
      unfold f_X6_termOf_J158
      rw [nI_pred, chk_t (ib_nI (by omega) (by decide)), nI_clamp (by omega), lt_e, gAs, upA_upA, nI_1]
    show ((if c = 5 ∧ b = 0 then none else some (opV c a b :: q)) = none ∧ _) ∨ ∃ s' A', (if c = 5 ∧ b = 0 then none else some (opV c a b :: q)) = some s' ∧ _
    by_cases z : c = 5 ∧ b = 0
    · rw [if_pos z, if_pos (show nI c = (5 : Int32) by rw [z.1]; rfl), if_pos z.2, lt_e]
      exact Or.inl ⟨rfl, rfl⟩
    · rw [if_neg z]
      refine Or.inr ⟨opV c a b :: q, upd A q.length (opV c a b), rfl, eS, stkV_push _ hA.2.2, ?_⟩
      have j104 : f_X6_termOf_J104 (up_A S (ky 0 50) A) (nI E) (nI (q.length + 1)) (nI (c0 + X.length)) (nI c) a b = some (.inl (nI (q.length + 1), nI (c0 + X.length + 1), up_A S (ky 0 50) (upd A q.length (opV c a b)))) := by
        unfold f_X6_termOf_J104
        rcases hcs with rfl | rfl | rfl | rfl
        · rw [if_pos (show nI 2 = (2 : Int32) from rfl)]
          exact j158 _
        · rw [if_neg (show ¬ nI 3 = (2 : Int32) by decide), if_pos (show nI 3 = (3 : Int32) from rfl)]
          exact j158 _
        · rw [if_neg (show ¬ nI 4 = (2 : Int32) by decide), if_neg (show ¬ nI 4 = (3 : Int32) by decide), if_pos (show nI 4 = (4 : Int32) from rfl)]
          exact j158 _
        · have hb0 : ¬ b = 0 := fun y => z ⟨rfl, y⟩
          rw [if_neg (show ¬ nI 5 = (2 : Int32) by decide), if_neg (show ¬ nI 5 = (3 : Int32) by decide), if_neg (show ¬ nI 5 = (4 : Int32) by decide), chk_t hb0]
          exact j158 _
      by_cases c5 : nI c = (5 : Int32)
      · have c5' : c = 5 := (nI_eq (b := 5) (by omega) (by decide)).mp c5
        rw [if_pos c5, if_neg (fun y => z ⟨c5', y⟩)]
        exact j104
      · rw [if_neg c5]
        exact j104
theorem M_seg {S : St} {c0 : Nat} {all : CL} (hc : cds (st_A S (ky 0 45)) (st_A S (ky 0 46)) c0 all) (ho : c0 + all.length ≤ 840) {E : Nat} (hE : E ≤ 840) : ∀ (l pre post : CL) (s : List Int32) (A : Nat → Int32) (e : Nat), all = pre ++ (l ++ post) → (∀ x ∈ l, cdR x) → c0 + pre.length + l.length ≤ E → l.foldl dpS (some s.length) = some e → s.length ≤ 30 → stkV A s → (evL (st_A S (ky 0 49)) l s = none ∧ ∃ A' c, c < l.length ∧ ∀ f, iter (f_X6_termOf_L5 (nI E)) (f + c + 1) (nI s.length, nI (c0 + pre.length), up_A S (ky 0 50) A) = some (.inr ((0 : Int32), up_I (up_A S (ky 0 50) A') (ky 0 51) 1))) ∨ ∃ s' A', evL (st_A S (ky 0 49)) l s = some s' ∧ s'.length = e ∧ stkV A' s' ∧ ∀ f, iter (f_X6_termOf_L5 (nI E)) (f + l.length) (nI s.length, nI (c0 + pre.length), up_A S (ky 0 50) A) = iter (f_X6_termOf_L5 (nI E)) f (nI s'.length, nI (c0 + pre.length + l.length), up_A S (ky 0 50) A')
  | [], pre, post, s, A, e, h, hr, hE2, hd, hs, hA => Or.inr ⟨s, A, rfl, Option.some.inj hd, hA, fun f => rfl⟩
  | x :: l, pre, post, s, A, e, h, hr, hE2, hd, hs, hA => by
    have h2 : all = pre ++ x :: (l ++ post) := h
    have hE3 : c0 + pre.length + (l.length + 1) ≤ E := hE2
    have hd2 : l.foldl dpS (dpS (some s.length) x) = some e := hd
    cases q : dpS (some s.length) x with
    | none =>
      rw [q, dpS_none] at hd2
      cases hd2
    | some d =>
      rw [q] at hd2
      have hd30 : d ≤ 30 := by
        have q' : (if x.1 < 2 then (if s.length < 30 then some (s.length + 1) else none) else if 2 ≤ s.length then some (s.length - 1) else none) = some d := q
        split at q'
        · split at q'
          · have := Option.some.inj q'; omega
          · cases q'
        · split at q'
          · have := Option.some.inj q'; omega
          · cases q'
      show ((evO (st_A S (ky 0 49)) x s).bind (evL (st_A S (ky 0 49)) l) = none ∧ _) ∨ ∃ s' A', (evO (st_A S (ky 0 49)) x s).bind (evL (st_A S (ky 0 49)) l) = some s' ∧ _
      rcases M_one hc h2 ho (E := E) (by omega) (hr x (List.mem_cons_self ..)) q hs hA with ⟨n1, n2⟩ | ⟨s1, A1, n1, n2, n3, n4⟩
      · rw [n1]
        exact Or.inl ⟨rfl, A, 0, Nat.succ_pos _, fun f => it_x n2 _⟩
      · rw [n1, Option.bind_some]
        have h3 : all = (pre ++ [x]) ++ (l ++ post) := by
          rw [h2, List.append_assoc]
          rfl
        have lp : (pre ++ [x]).length = pre.length + 1 := by
          rw [List.length_append]
          rfl
        rcases M_seg hc ho hE l (pre ++ [x]) post s1 A1 e h3 (fun y hy => hr y (List.mem_cons_of_mem _ hy)) (by rw [lp]; omega) (by rw [n2]; exact hd2) (by omega) n3 with ⟨m1, A2, c, m2, m3⟩ | ⟨s2, A2, m1, m2, m3, m4⟩
        · refine Or.inl ⟨m1, A2, c + 1, by show c + 1 < l.length + 1; omega, fun f => ?_⟩
          rw [show f + (c + 1) + 1 = (f + c + 1) + 1 by omega, it_n n4]
          rw [lp] at m3
          exact m3 f
        · refine Or.inr ⟨s2, A2, m1, m2, m3, fun f => ?_⟩
          rw [show f + (x :: l).length = (f + l.length) + 1 from rfl, it_n n4]
          rw [lp] at m4
          have := m4 f
          rw [show c0 + (pre.length + 1) + l.length = c0 + pre.length + (x :: l).length by show _ = c0 + pre.length + (l.length + 1); omega] at this
          exact this
/-- a term -/
theorem M_termOf {S : St} {c0 : Nat} {all l pre post : CL} (hc : cds (st_A S (ky 0 45)) (st_A S (ky 0 46)) c0 all) (ho : c0 + all.length ≤ 840) (h : all = pre ++ (l ++ post)) (hx : xk l) : ∃ A', f_X6_termOf S (nI (c0 + pre.length)) (nI (c0 + pre.length + l.length)) = some (match vl (st_A S (ky 0 49)) l with
    | none => ((0 : Int32), up_I (up_A S (ky 0 50) A') (ky 0 51) 1)
    | some y => (y, up_A S (ky 0 50) A')) := by
  have hlo : all.length = pre.length + (l.length + post.length) := by
    rw [h, List.length_append, List.length_append]
  have t := M_seg hc ho (E := c0 + pre.length + l.length) (by omega) l pre post [] (st_A S (ky 0 50)) 1 h hx.2 (Nat.le_refl _) hx.1 (by decide) trivial
  rw [upA_eta] at t
  unfold f_X6_termOf
  rcases t with ⟨m1, A2, c, m2, m3⟩ | ⟨s2, A2, m1, m2, m3, m4⟩
  · refine ⟨A2, ?_⟩
    have hF : FU = (40000 - 1 - c) + c + 1 := by
      show 40000 = _
      omega
    have m3' : iter (f_X6_termOf_L5 (nI (c0 + pre.length + l.length))) FU ((0 : Int32), nI (c0 + pre.length), S) = some (.inr ((0 : Int32), up_I (up_A S (ky 0 50) A2) (ky 0 51) 1)) := by
      rw [hF]
      exact m3 _
    rw [m3', bnd, vl_n m1]
  · obtain ⟨y, rfl⟩ := one_of m2
    refine ⟨A2, ?_⟩
    have hF : FU = ((40000 - 1 - l.length) + 1) + l.length := by
      show 40000 = _
      omega
    have last : f_X6_termOf_L5 (nI (c0 + pre.length + l.length)) (nI [y].length, nI (c0 + pre.length + l.length), up_A S (ky 0 50) A2) = some (.inr (.inl (up_A S (ky 0 50) A2))) := by
      unfold f_X6_termOf_L5
      rw [if_pos (Int32.le_refl _)]
    have m4' : iter (f_X6_termOf_L5 (nI (c0 + pre.length + l.length))) FU ((0 : Int32), nI (c0 + pre.length), S) = some (.inl (up_A S (ky 0 50) A2)) := by
      rw [hF]
      exact (m4 _).trans (it_x last _)
    rw [m4', bnd, vl_s m1]
    show chk (ib (0 : Int32) 400) (some ((st_A (up_A S (ky 0 50) A2) (ky 0 50) (0 : Int32).toNatClampNeg), up_A S (ky 0 50) A2)) = some (y, up_A S (ky 0 50) A2)
    have i0 : ib (0 : Int32) 400 := ib_nI (i := 0) (by decide) (by decide)
    rw [chk_t i0, gAs]
    have : A2 0 = y := m3.1
    rw [← this]
    rfl
end MV
