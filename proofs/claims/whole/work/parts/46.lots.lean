/-! LOTS. -/
def s_mix (x y : Int32) : Int32 := (((x ^^^ y) * (1103515245 : Int32)) + (12345 : Int32)) ^^^ (i_ushr (((x ^^^ y) * (1103515245 : Int32)) + (12345 : Int32)) (15 : Int32))
def s_rnd (sd n : Int32) : Int32 := i_ushr (s_mix (s_mix sd 43) n) (1 : Int32)
/-- does the lot of seed sd break mirror m in minute t? -/
def s_bad (T : TX) (sd : Int32) (t m : Nat) : Bool := decide (¬ nI (tn T 4) ≤ i_rem (s_rnd sd (nI (8 * t + m))) (100 : Int32))
theorem C_mixed (x y : Int32) : f_X4_mixed x y = some (s_mix x y) := rfl
theorem M_mixed (x y : Int32) : f_X6_mixed x y = some (s_mix x y) := rfl
theorem C_lot (d sd n : Int32) : f_X4_lot d sd n = some (if d = 0 then 0 else i_rem (s_rnd sd n) d) := by
  unfold f_X4_lot
  rw [C_mixed, Option.bind_some, C_mixed, Option.bind_some]
  by_cases h : d = 0
  · rw [if_pos h, if_pos h]
  · rw [if_neg h, if_neg h, chk_t h]
    rfl
theorem n100 : ¬ (100 : Int32) = 0 := by decide
theorem C_breaksAt {kt : Nat} {S : St} {T : TX} (hT : tC kt S T) (sd : Int32) (t m : Nat) : f_X4_breaksAt kt S sd (nI t) (nI m) = some (if s_bad T sd t m then 1 else 0) := by
  unfold f_X4_breaksAt
  rw [C_lot, Option.bind_some, i8, if_neg n100, hT.2.2.1 4 (by decide)]
  unfold s_bad
  by_cases h : nI (tn T 4) ≤ i_rem (s_rnd sd (nI (8 * t + m))) (100 : Int32)
  · rw [if_pos h, decide_eq_false (fun q => q h)]
    rfl
  · rw [if_neg h, decide_eq_true h]
    rfl
theorem M_lotOf {p : Nat → Nat → Prop} {S : St} {T : TX} {X : CT} (h : cMp p 56 57 58 59 S T X) (m : Nat) : f_X6_lotOf S (nI m) = some (i_rem (s_rnd (st_I S (ky 0 60)) (nI (8 * cn X + m))) (100 : Int32)) := by
  unfold f_X6_lotOf
  rw [M_mixed, Option.bind_some, h.2.1, i8, M_mixed, Option.bind_some, chk_t n100]
  rfl
/-! THE NEXT ROW. -/
/-- a minute later: men in nx, all else as it was; the row of lateness is v -/
def x_row (X : CT) (nx v : Nat → Nat) : CT := (cn X + 1, (fun f t i => if t = cn X + 1 then (if f = 0 then nx i else if f = 3 then v i else cf X f (cn X) i) else cf X f t i), (fun t => if t = cn X + 1 then cw X (cn X) else cw X t), ck X, cz X)
theorem x_row_n (X : CT) (nx v : Nat → Nat) : cn (x_row X nx v) = cn X + 1 := rfl
theorem x_row_o {X : CT} {nx v : Nat → Nat} {t : Nat} (h : t ≤ cn X) (f i : Nat) : cf (x_row X nx v) f t i = cf X f t i := if_neg (fun e => by omega)
theorem x_row_0 (X : CT) (nx v : Nat → Nat) (i : Nat) : cf (x_row X nx v) 0 (cn X + 1) i = nx i := if_pos rfl
theorem x_row_1 (X : CT) (nx v : Nat → Nat) (i : Nat) : cf (x_row X nx v) 1 (cn X + 1) i = cf X 1 (cn X) i := if_pos rfl
theorem x_row_2 (X : CT) (nx v : Nat → Nat) (i : Nat) : cf (x_row X nx v) 2 (cn X + 1) i = cf X 2 (cn X) i := if_pos rfl
theorem x_row_3 (X : CT) (nx v : Nat → Nat) (i : Nat) : cf (x_row X nx v) 3 (cn X + 1) i = v i := if_pos rfl
theorem x_row_w (X : CT) (nx v : Nat → Nat) : cw (x_row X nx v) (cn X + 1) = cw X (cn X) := if_pos rfl
theorem x_row_wo {X : CT} {nx v : Nat → Nat} {t : Nat} (h : t ≤ cn X) : cw (x_row X nx v) t = cw X t := if_neg (fun e => by omega)
theorem cb_row {T : TX} {X : CT} (h : cb T X) (hn : cn X < 299) {nx v : Nat → Nat} (hx : ∀ a, a < tn T 2 → nx a < tn T 0) (hv : ∀ m, m < tn T 3 → v m ≤ 240) : cb T (x_row X nx v) := by
  refine ⟨by rw [x_row_n]; omega, fun t ht => ?_, fun m hm b hb => ⟨Nat.le_succ_of_le (h.2.2 m hm b hb).1, (h.2.2 m hm b hb).2⟩⟩
  rw [x_row_n] at ht
  by_cases e : t = cn X + 1
  · subst e
    have g := h.2.1 (cn X) (Nat.le_refl _)
    refine ⟨fun a ha => ?_, fun m hm => ?_⟩
    · rw [x_row_0, x_row_1]
      exact ⟨hx a ha, (g.1 a ha).2⟩
    · rw [x_row_2, x_row_3]
      exact ⟨(g.2 m hm).1, hv m hm⟩
  · have g := h.2.1 t (by omega)
    refine ⟨fun a ha => ?_, fun m hm => ?_⟩
    · rw [x_row_o (by omega), x_row_o (by omega)]
      exact g.1 a ha
    · rw [x_row_o (by omega), x_row_o (by omega)]
      exact g.2 m hm
