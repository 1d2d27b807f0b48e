/-! THE CLASS'S LAW. -/
theorem it_n {σ ρ : Type} {step : σ → Option (σ ⊕ ρ)} {x y : σ} (h : step x = some (.inl y)) (f : Nat) : iter step (f + 1) x = iter step f y := by
  rw [iter, h]
theorem it_x {σ ρ : Type} {step : σ → Option (σ ⊕ ρ)} {x : σ} {r : ρ} (h : step x = some (.inr r)) (f : Nat) : iter step (f + 1) x = some r := by
  rw [iter, h]
theorem LawT_lt {tk tv : Nat → Nat} {d : Nat} : ∀ {brs : List BR} {t : Nat}, LawT tk tv d brs t → t < d
  | [], _, h => absurd h id
  | (none, _) :: _, _, h => h.2.2.1.1
  | (some (_, _), _) :: _, t, h => by
    obtain ⟨_, a, b, c, x1, _, x2, _, x3, _, _, _, _, hr⟩ := h
    have := LawT_lt hr
    have := x1.1
    have := x2.1
    have := x3.1
    omega
theorem clB_len {tk tv : Nat → Nat} {d : Nat} : ∀ {brs : List BR} {t : Nat} (b : Nat), LawT tk tv d brs t → (clB b brs).length + t ≤ d + 1
  | [], _, _, h => absurd h id
  | (none, l3) :: l, t, b, h => by
    obtain ⟨rfl, _, hx, _, rfl⟩ := h
    have := hx.1
    have := hx.2.1.2.2.1
    show ((xo tk tv t d).map cc ++ [(3, 0)]).length + t ≤ d + 1
    rw [List.length_append, List.length_map]
    show (xo tk tv t d).length + 1 + t ≤ d + 1
    omega
  | (some (l1, l2), l3) :: l, t, w, h => by
    obtain ⟨_, a, b, c, x1, _, x2, _, x3, _, rfl, rfl, rfl, hr⟩ := h
    have y1 := x1.2.1.2.2.1
    have y2 := x2.2.1.2.2.1
    have y3 := x3.2.1.2.2.1
    have z1 := x1.1
    have z2 := x2.1
    have z3 := x3.1
    have ih := clB_len (w + (xo tk tv (t + 1) a).length + (xo tk tv (a + 1) b).length + (xo tk tv (b + 1) c).length + 2) hr
    rw [clB, List.length_append, List.length_append, List.length_cons, List.length_append, List.length_cons, List.length_map, List.length_map, List.length_map]
    omega
section CO
variable {B : Nat → Nat} {n N kl : Nat}
theorem J131_x {S : St} (x3 : Int32) (u : Nat) : f_X1_compile_J131 kl S x3 (nI u) (ckd 4) = some (.inr (nI (u + 1), S)) := by
  unfold f_X1_compile_J131
  rw [if_pos (show ckd 4 = (59 : Int32) from rfl), nI_1]
theorem C_law (hk : isLw kl) {d : Nat} (hd : d < N) : ∀ (brs : List BR) (t : Nat) (base : CL) (S : St) (br : Int32), LawT (tkK B n) (tkV B n) d brs t → TKC B n N S → clS kl S base [] → base.length ≤ 4 + t → ∃ S' c, t + c = d ∧ (∀ f, iter (f_X1_compile_L10 kl) (f + c + 1) (br, nI t, S) = some (nI (d + 1), S')) ∧ clS kl S' (base ++ clB base.length brs) [] ∧ on (kLw kl) S S'
  | [], _, _, _, _, h, _, _, _ => absurd h id
  | (none, l3) :: l, t, base, S, br, h, T, hM, hb => by
    obtain ⟨rfl, _, hx, k4, rfl⟩ := h
    have hlt := hx.1
    have hlen := hx.2.1.2.2.1
    have h400 := T.2.1
    obtain ⟨S1, S2, e1, T1, e2, e3, e4, T2⟩ := C_expW hk hx (by omega) br T hM hb
    obtain ⟨S3, f1, f2, f3⟩ := endP_4 hk e3 (by rw [List.length_append, List.length_map]; omega) br
    refine ⟨S3, d - t, by omega, fun f => ?_, ?_, on_trans e4 f3⟩
    · rw [show f + (d - t) + 1 = (f + 1) + (d - t) by omega, e1]
      refine it_x ?_ f
      rw [C_sep br T1 hd k4 (Or.inl rfl), e2, bnd, f1, bnd]
      exact J131_x _ _
    · rw [List.append_assoc] at f2
      exact f2
  | (some (l1, l2), l3) :: l, t, base, S, br, h, T, hM, hb => by
    obtain ⟨k28, a, b, c, x1, ka, x2, kb, x3, kc, rfl, rfl, rfl, hr⟩ := h
    have y1 := x1.2.1.2.2.1
    have y2 := x2.2.1.2.2.1
    have y3 := x3.2.1.2.2.1
    have z1 := x1.1
    have z2 := x2.1
    have z3 := x3.1
    have z4 := LawT_lt hr
    have h400 := T.2.1
    obtain ⟨S0, e0, M0, o0⟩ := C_unw0 hk hM (by omega)
    have T0 := TKC_on (kLw_1 hk) o0 T
    have s0 : f_X1_compile_L10 kl (br, nI t, S) = some (.inl (br, nI (t + 1), S0)) := by
      rw [C_sep br T (by omega) k28 (by decide), e0, bnd, endP_0 _ _ (by decide), bnd]
      exact J131_n _ _ _ (by decide) (by decide)
    obtain ⟨S1, S2, e1, T1, e2, M2, o2, T2⟩ := C_expW hk x1 (by omega) br T0 M0 (by omega)
    have s2 : f_X1_compile_L10 kl (br, nI a, S1) = some (.inl (br, nI (a + 1), S2)) := by
      rw [C_sep br T1 (by omega) ka (by decide), e2, bnd, endP_0 _ _ (by decide), bnd]
      exact J131_n _ _ _ (by decide) (by decide)
    have m1 : ((xo (tkK B n) (tkV B n) (t + 1) a).map cc).length = (xo (tkK B n) (tkV B n) (t + 1) a).length := List.length_map _
    have m2 : ((xo (tkK B n) (tkV B n) (a + 1) b).map cc).length = (xo (tkK B n) (tkV B n) (a + 1) b).length := List.length_map _
    have m3 : ((xo (tkK B n) (tkV B n) (b + 1) c).map cc).length = (xo (tkK B n) (tkV B n) (b + 1) c).length := List.length_map _
    rw [clB]
    generalize (xo (tkK B n) (tkV B n) (t + 1) a).map cc = X1 at *
    generalize (xo (tkK B n) (tkV B n) (t + 1) a).length = w1 at *
    obtain ⟨S3, S4, e3, T3, e4, M4, o4, T4⟩ := C_expW hk x2 (by omega) br T2 M2 (by rw [List.length_append]; omega)
    generalize (xo (tkK B n) (tkV B n) (a + 1) b).map cc = X2 at *
    generalize (xo (tkK B n) (tkV B n) (a + 1) b).length = w2 at *
    have g4 : (base ++ X1 ++ X2).length = base.length + w1 + w2 := by rw [List.length_append, List.length_append]; omega
    obtain ⟨S5, e5, M5, o5⟩ := endP_29 hk M4 (by omega) br
    have T5 := TKC_on (kLw_1 hk) o5 T4
    have s5 : f_X1_compile_L10 kl (br, nI b, S3) = some (.inl (nI (base ++ X1 ++ X2).length, nI (b + 1), S5)) := by
      rw [C_sep br T3 (by omega) kb (by decide), e4, bnd, e5, bnd]
      exact J131_n _ _ _ (by decide) (by decide)
    obtain ⟨S6, S7, e6, T6, e7, M7, o7, T7⟩ := C_expW hk x3 (by omega) (nI (base ++ X1 ++ X2).length) T5 M5 (by rw [List.length_append]; show (base ++ X1 ++ X2).length + 1 ≤ _; omega)
    generalize (xo (tkK B n) (tkV B n) (b + 1) c).map cc = X3 at *
    generalize (xo (tkK B n) (tkV B n) (b + 1) c).length = w3 at *
    rw [List.append_assoc] at M7
    have M7' : clS kl S7 ((base ++ X1 ++ X2) ++ (2, 0) :: X3) [] := M7
    have g7 : ((base ++ X1 ++ X2) ++ (2, 0) :: X3).length = base.length + w1 + w2 + 1 + w3 := by
      rw [List.length_append, List.length_cons]; omega
    obtain ⟨S8, e8, M8, o8⟩ := endP_30 hk M7' (by omega)
    have T8 := TKC_on (kLw_1 hk) o8 T7
    rw [g7] at M8
    have s8 : f_X1_compile_L10 kl (nI (base ++ X1 ++ X2).length, nI c, S6) = some (.inl (nI (base ++ X1 ++ X2).length, nI (c + 1), S8)) := by
      rw [C_sep _ T6 (by omega) kc (by decide), e7, bnd, e8, bnd]
      exact J131_n _ _ _ (by decide) (by decide)
    have g8 : (base ++ X1 ++ X2 ++ (2, base.length + w1 + w2 + 1 + w3 + 1) :: (X3 ++ [(3, 0)])).length = base.length + w1 + w2 + w3 + 2 := by
      rw [List.length_append (as := base ++ X1 ++ X2), g4, List.length_cons, List.length_append]
      show base.length + w1 + w2 + (X3.length + 1 + 1) = _
      omega
    obtain ⟨S9, v, e9, r9, M9, o9⟩ := C_law hk hd l (c + 1) _ S8 (nI (base ++ X1 ++ X2).length) hr T8 M8 (by omega)
    refine ⟨S9, v + (c + 1 - t), by omega, fun f => ?_, ?_, on_trans o0 (on_trans o2 (on_trans o4 (on_trans o5 (on_trans o7 (on_trans o8 o9)))))⟩
    · rw [show f + (v + (c + 1 - t)) + 1 = f + v + 1 + 1 + (c - (b + 1)) + 1 + (b - (a + 1)) + 1 + (a - (t + 1)) + 1 by omega, it_n s0, e1, it_n s2, e3, it_n s5, e6, it_n s8]
      exact r9 f
    · rw [g8] at M9
      rw [show base.length + w1 + w2 + 1 + w3 + 1 = base.length + w1 + w2 + w3 + 2 by omega] at M9
      rw [List.append_assoc, List.append_assoc, List.append_assoc] at M9
      rw [show X1 ++ (X2 ++ (2, base.length + w1 + w2 + w3 + 2) :: (X3 ++ (3, 0) :: clB (base.length + w1 + w2 + w3 + 2) l)) = X1 ++ (X2 ++ ((2, base.length + w1 + w2 + w3 + 2) :: (X3 ++ [(3, 0)]) ++ clB (base.length + w1 + w2 + w3 + 2) l)) by rw [List.cons_append, List.append_assoc]; rfl]
      exact M9
def clO (kl : Nat) (S : St) (o : CL) : Prop := st_I S (ky kl 2) = nI o.length ∧ cds (st_A S (ky kl 0)) (st_A S (ky kl 1)) 0 o
theorem C_compile (hk : isLw kl) {S : St} {t d : Nat} {brs : List BR} {o : CL} (k5 : tkK B n t = 5) (hL : LawT (tkK B n) (tkV B n) d brs (t + 1)) (hd : d < N) (T : TKC B n N S) (h : clO kl S o) (hb : o.length ≤ 4 + t) : ∃ S', f_X1_compile kl S (nI t) = some (nI (d + 1), S') ∧ clO kl S' (o ++ clB o.length brs) ∧ on (kLw kl) S S' := by
  have hlt := LawT_lt hL
  have h400 := T.2.1
  have o0 : on (kLw kl) S (up_I S (ky kl 4) (0 : Int32)) := on_I _ _ _ (kLw_ (by decide))
  have T0 := TKC_on (kLw_1 hk) o0 T
  have M0 : clS kl (up_I S (ky kl 4) (0 : Int32)) o [] := by
    refine ⟨?_, h.2, ?_, trivial, fun w hw => by cases hw⟩
    · rw [gI_I, if_neg (ky_ne (by decide) (by decide) (by omega))]
      exact h.1
    · rw [gI_I, if_pos rfl]
      rfl
  obtain ⟨S1, e1, M1, o1⟩ := C_unw0 hk M0 (by omega)
  have T1 := TKC_on (kLw_1 hk) o1 T0
  obtain ⟨S2, c, e2, r2, M2, o2⟩ := C_law hk hd brs (t + 1) o S1 0 hL T1 M1 (by omega)
  refine ⟨S2, ?_, ⟨M2.1, M2.2.1⟩, on_trans o0 (on_trans o1 o2)⟩
  unfold f_X1_compile
  rw [lt_e]
  have s0 : f_X1_compile_L10 kl ((0 : Int32), nI t, up_I S (ky kl 4) (0 : Int32)) = some (.inl ((0 : Int32), nI (t + 1), S1)) := by
    rw [C_sep _ T0 (by omega) k5 (by decide), e1, bnd, endP_0 _ _ (by decide), bnd]
    exact J131_n _ _ _ (by decide) (by decide)
  have hF : FU = (40000 - 2 - c) + c + 1 + 1 := by
    show 40000 = _
    omega
  rw [hF, it_n s0]
  exact r2 _
end CO
