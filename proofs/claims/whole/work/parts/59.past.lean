/-! WHAT CAN BE UNDONE: the class's. -/
theorem pre_trans {T : TX} {X Y Z : CT} (h : pre T X Y) (g : pre T Y Z) : pre T X Z := by
  refine ⟨Nat.le_trans h.1 g.1, fun t ht => ⟨fun a ha => ?_, fun m hm => ?_⟩, fun m hm hk => ?_⟩
  · have q1 := (h.2.1 t ht).1 a ha
    have q2 := (g.2.1 t (Nat.lt_of_lt_of_le ht h.1)).1 a ha
    exact ⟨q2.1.trans q1.1, q2.2.trans q1.2⟩
  · have q1 := (h.2.1 t ht).2 m hm
    have q2 := (g.2.1 t (Nat.lt_of_lt_of_le ht h.1)).2 m hm
    exact ⟨q2.1.trans q1.1, q2.2.1.trans q1.2.1, q2.2.2.trans q1.2.2⟩
  · have q1 := h.2.2 m hm hk
    have q2 := g.2.2 m hm (by rw [q1.1]; exact hk)
    exact ⟨q2.1.trans q1.1, q2.2.trans q1.2⟩
theorem pre_refl (T : TX) (X : CT) : pre T X X := ⟨Nat.le_refl _, fun _ _ => ⟨fun _ _ => ⟨rfl, rfl⟩, fun _ _ => ⟨rfl, rfl, rfl⟩⟩, fun _ _ _ => ⟨rfl, rfl⟩⟩
theorem pre_put (T : TX) (X : CT) (f i v : Nat) (hf : f ≠ 3) : pre T X (x_put T X f i v) := by
  refine ⟨Nat.le_refl _, fun t ht => ?_, fun _ _ _ => ⟨rfl, rfl⟩⟩
  have key : ∀ g j, cf (x_put T X f i v) g t j = cf X g t j := by
    intro g j
    have e1 : cf (x_lat T (x_set X f i v)) g t j = cf (x_set X f i v) g t j := cf_lat_t T (x_set X f i v) g (show t ≠ cn X by omega) j
    show cf (x_lat T (x_set X f i v)) g t j = _
    rw [e1]
    exact if_neg (fun q => by omega)
  exact ⟨fun a _ => ⟨key 0 a, key 1 a⟩, fun m _ => ⟨key 2 m, key 3 m, rfl⟩⟩
theorem pre_wall (T : TX) (X : CT) (m : Nat) (b : Bool) : pre T X (x_wall X m b) := ⟨Nat.le_refl _, fun t ht => ⟨fun _ _ => ⟨rfl, rfl⟩, fun _ _ => ⟨rfl, rfl, if_neg (fun q => by omega)⟩⟩, fun _ _ _ => ⟨rfl, rfl⟩⟩
theorem pre_break (T : TX) (X : CT) (m : Nat) (h : ck X m = none) : pre T X (x_break X m) := by
  refine ⟨Nat.le_refl _, fun t ht => ⟨fun _ _ => ⟨rfl, rfl⟩, fun _ _ => ⟨rfl, rfl, rfl⟩⟩, fun j _ hj => ?_⟩
  have hne : j ≠ m := fun e => hj (by rw [e, h])
  exact ⟨if_neg hne, if_neg hne⟩
theorem s_brk_none {T : TX} {X : CT} (h : cb T X) {m : Nat} (hm : m < tn T 3) (c : ¬ s_brk X m (cn X) = true) : ck X m = none := by
  cases e : ck X m with
  | none => rfl
  | some b => exact absurd ((s_brk_now h hm).mpr (by rw [e]; exact fun q => by cases q)) c
theorem cb_lots {T : TX} {sd : Int32} {X : CT} (h : cb T X) : ∀ i, i ≤ tn T 3 → cb T (x_lots T sd X i) := by
  intro i
  induction i with
  | zero => intro _; exact h
  | succ i ih =>
    intro hi
    rw [x_lots]
    split
    · exact ih (by omega)
    · split
      · exact cb_break (ih (by omega)) (by omega)
      · exact ih (by omega)
theorem pre_lots {T : TX} {sd : Int32} {X : CT} (h : cb T X) : ∀ i, i ≤ tn T 3 → pre T X (x_lots T sd X i) := by
  intro i
  induction i with
  | zero => intro _; exact pre_refl T X
  | succ i ih =>
    intro hi
    rw [x_lots]
    split
    · exact ih (by omega)
    · rename_i c
      split
      · exact pre_trans (ih (by omega)) (pre_break T _ i (s_brk_none (cb_lots h i (by omega)) (by omega) c))
      · exact ih (by omega)
theorem s_next_lt {T : TX} {X : CT} (hT : tb T) (h : cb T X) (a : Nat) (ha : a < tn T 2) : s_next T X a < tn T 0 := s_step_lt hT ((h.2.1 (cn X) (Nat.le_refl _)).1 a ha).1 _
theorem cb_go {T : TX} {sd : Int32} {X : CT} (hT : tb T) (h : cb T X) (hn : cn X < 299) : cb T (x_go T sd X) := cb_lots (cb_min h hn (s_next_lt hT h)) _ (Nat.le_refl _)
theorem pre_go {T : TX} {sd : Int32} {X : CT} (hT : tb T) (h : cb T X) (hn : cn X < 299) : pre T X (x_go T sd X) := by
  refine pre_trans (Y := x_min T X (s_next T X)) ?_ (pre_lots (cb_min h hn (s_next_lt hT h)) _ (Nat.le_refl _))
  refine ⟨Nat.le_succ _, fun t ht => ⟨fun a _ => ⟨x_row_o (by omega) _ _, x_row_o (by omega) _ _⟩, fun m _ => ⟨x_row_o (by omega) _ _, x_row_o (by omega) _ _, congrFun (x_row_wo (by omega)) m⟩⟩, fun _ _ _ => ⟨rfl, rfl⟩⟩
theorem cb_run {T : TX} {sd : Int32} {X : CT} (hT : tb T) (h : cb T X) : ∀ n, cn X + n ≤ 299 → cb T (x_run T sd X n) := by
  intro n
  induction n with
  | zero => intro _; exact h
  | succ n ih => intro hn; exact cb_go hT (ih (by omega)) (by rw [x_run_n]; omega)
theorem pre_run {T : TX} {sd : Int32} {X : CT} (hT : tb T) (h : cb T X) : ∀ n, cn X + n ≤ 299 → pre T X (x_run T sd X n) := by
  intro n
  induction n with
  | zero => intro _; exact pre_refl T X
  | succ n ih => intro hn; exact pre_trans (ih (by omega)) (pre_go hT (cb_run hT h n (by omega)) (by rw [x_run_n]; omega))
/-- lateness now, behind lots -/
theorem okL_lots {T : TX} {sd : Int32} {X : CT} (h : okL T X) : ∀ i, okL T (x_lots T sd X i) := by
  intro i
  induction i with
  | zero => exact h
  | succ i ih =>
    rw [x_lots]
    split
    · exact ih
    · split
      · exact okL_cg ih rfl (fun _ _ => rfl)
      · exact ih
theorem okL_run {T : TX} {sd : Int32} {X : CT} (h : okL T X) : ∀ n, okL T (x_run T sd X n) := by
  intro n
  cases n with
  | zero => exact h
  | succ n => exact okL_lots (x_min_ok T _ _) _
def hE_C (A : Nat → Int32) (b : Nat) (T : TX) (Y : CT) : Prop := A b = nI (cn Y) ∧ A (b + 1) = nI (bs (tn T 3) (cw Y (cn Y))) ∧ (∀ a, a < tn T 2 → A (b + 2 + a) = nI (cf Y 0 (cn Y) a) ∧ A (b + 8 + a) = nI (cf Y 1 (cn Y) a)) ∧ ∀ m, m < tn T 3 → A (b + 14 + m) = nI (cf Y 2 (cn Y) m) ∧ A (b + 22 + m) = bkC (ck Y m)
theorem C_keepIn {k kt : Nat} {S : St} {T : TX} {X : CT} (hT : tC kt S T) (h : cC k kt S T X) {b : Nat} (hb : b + 30 ≤ 600) : ∃ A, f_X0_keepIn k (ky 6 0) S (nI b) = some (up_A S (ky 6 0) A) ∧ hE_C A b T X ∧ ∀ j, j < b ∨ b + 30 ≤ j → A j = st_A S (ky 6 0) j := by
  have hk := h.2.1
  have h1 := h.1.1
  have h6 := hT.1.2.2.1
  have h8 := hT.1.2.2.2.1
  have LK : wk_n wd_C (ky 6 0) = 600 := lnC (show cl_C 6 = 2 from rfl) (by decide) rfl
  have L2 : wk_n wd_C (ky k 2) = 1800 := lnC hk (by decide) rfl
  have L3 : wk_n wd_C (ky k 3) = 1800 := lnC hk (by decide) rfl
  have L4 : wk_n wd_C (ky k 4) = 2400 := lnC hk (by decide) rfl
  have L6 : wk_n wd_C (ky k 6) = 300 := lnC hk (by decide) rfl
  have L7 : wk_n wd_C (ky k 7) = 8 := lnC hk (by decide) rfl
  have hk6 : k ≠ 6 := by
    rintro rfl
    cases hk
  have nk : ∀ f, f < 9 → ¬ ky k f = ky 6 0 := fun f hf => ky_ne (by omega) (by decide) (fun q => hk6 q.1)
  have cpy : ∀ (f N sp dp n : Nat) (A : Nat → Int32), f < 9 → wk_n wd_C (ky k f) = N → N < 2 ^ 31 → sp + n ≤ N → dp + n ≤ 600 → f_X5_copy (ky k f) (ky 6 0) (up_A S (ky 6 0) A) (nI sp) (nI dp) (nI n) = some (up_A S (ky 6 0) (va_cpy (st_A S (ky k f)) A sp dp n)) := by
    intro f N sp dp n A hf hl hN hs hd
    rw [copy_2 hl LK hN (by decide) hs hd, upA_upA, gAs, gAn _ _ (nk f hf)]
  have g := h.2.2.2.2.1 (cn X) (Nat.le_refl _)
  have e2 : nI b + (2 : Int32) = nI (b + 2) := nI_add b 2
  have e8 : nI (b + 2) + (6 : Int32) = nI (b + 8) := nI_add (b + 2) 6
  have e14 : nI (b + 2) + (12 : Int32) = nI (b + 14) := nI_add (b + 2) 12
  have e22 : nI (b + 14) + (8 : Int32) = nI (b + 22) := nI_add (b + 14) 8
  have m6 : nI (cn X) * (6 : Int32) = nI (cn X * 6) := pk_mul _ 6
  have m8 : nI (cn X) * (8 : Int32) = nI (cn X * 8) := pk_mul _ 8
  refine ⟨va_cpy (st_A S (ky k 7)) (va_cpy (st_A S (ky k 4)) (va_cpy (st_A S (ky k 3)) (va_cpy (st_A S (ky k 2)) (upd (upd (st_A S (ky 6 0)) b (nI (cn X))) (b + 1) (nI (bs (tn T 3) (cw X (cn X))))) (cn X * 6) (b + 2) 6) (cn X * 6) (b + 8) 6) (cn X * 8) (b + 14) 8) 0 (b + 22) 8, ?_, ⟨?_, ?_, fun a ha => ⟨?_, ?_⟩, fun m hm => ⟨?_, ?_⟩⟩, fun j hj => ?_⟩
  · unfold f_X0_keepIn
    rw [h.2.2.2.1, put_nI LK (by omega) (by decide), bnd, gI_A, h.2.2.2.1, at_nI L6 (by omega) (by decide), bnd, gAn _ _ (nk 6 (by decide)), g.2.2, nI_1, put_nI LK (by omega) (by decide), bnd, upA_upA, gAs, gI_A, h.2.2.2.1, m6, e2]
    change (f_X5_copy (ky k 2) (ky 6 0) (up_A S (ky 6 0) _) (nI (cn X * 6)) (nI (b + 2)) (nI 6)).bind _ = _
    rw [cpy 2 1800 _ _ _ _ (by decide) L2 (by decide) (by omega) (by omega), bnd, gI_A, h.2.2.2.1, m6, e8]
    change (f_X5_copy (ky k 3) (ky 6 0) (up_A S (ky 6 0) _) (nI (cn X * 6)) (nI (b + 8)) (nI 6)).bind _ = _
    rw [cpy 3 1800 _ _ _ _ (by decide) L3 (by decide) (by omega) (by omega), bnd, gI_A, h.2.2.2.1, m8, e14]
    change (f_X5_copy (ky k 4) (ky 6 0) (up_A S (ky 6 0) _) (nI (cn X * 8)) (nI (b + 14)) (nI 8)).bind _ = _
    rw [cpy 4 2400 _ _ _ _ (by decide) L4 (by decide) (by omega) (by omega), bnd, e22]
    change (f_X5_copy (ky k 7) (ky 6 0) (up_A S (ky 6 0) _) (nI 0) (nI (b + 22)) (nI 8)).bind _ = _
    rw [cpy 7 8 _ _ _ _ (by decide) L7 (by decide) (by omega) (by omega), bnd]
  · rw [pk_cpy_out (by omega), pk_cpy_out (by omega), pk_cpy_out (by omega), pk_cpy_out (by omega), upd_n (by omega), upd_s]
  · rw [pk_cpy_out (by omega), pk_cpy_out (by omega), pk_cpy_out (by omega), pk_cpy_out (by omega), upd_s]
  · rw [pk_cpy_out (by omega), pk_cpy_out (by omega), pk_cpy_out (by omega), pk_cpy_in (by omega) (by omega), show cn X * 6 + (b + 2 + a - (b + 2)) = cn X * 6 + a by omega, (g.1 a ha).1]
  · rw [pk_cpy_out (by omega), pk_cpy_out (by omega), pk_cpy_in (by omega) (by omega), show cn X * 6 + (b + 8 + a - (b + 8)) = cn X * 6 + a by omega, (g.1 a ha).2]
  · rw [pk_cpy_out (by omega), pk_cpy_in (by omega) (by omega), show cn X * 8 + (b + 14 + m - (b + 14)) = cn X * 8 + m by omega, (g.2.1 m hm).1]
  · rw [pk_cpy_in (by omega) (by omega), show 0 + (b + 22 + m - (b + 22)) = m by omega, (h.2.2.2.2.2 m hm).1]
  · rw [pk_cpy_out (by omega), pk_cpy_out (by omega), pk_cpy_out (by omega), pk_cpy_out (by omega), upd_n (by omega), upd_n (by omega)]
/-- the class's rows kept for what can be undone: u of them, H 0 the eldest -/
def hC (u : Nat) (H : Nat → CT) (S : St) (T : TX) : Prop := u ≤ 20 ∧ ∃ fi, fi < 20 ∧ st_I S (ky 6 1) = nI fi ∧ st_I S (ky 6 2) = nI u ∧ ∀ j, j < u → hE_C (st_A S (ky 6 0)) ((fi + j) % 20 * 30) T (H j)
def h_add (u : Nat) (H : Nat → CT) (X : CT) : Nat → CT := if u = 20 then fun j => if j = 19 then X else H (j + 1) else fun j => if j = u then X else H j
def h_u (u : Nat) : Nat := if u = 20 then 20 else u + 1
def kP : Nat → Prop := fun q => q = ky 6 0 ∨ q = ky 6 1 ∨ q = ky 6 2
theorem hE_C_cg {A A' : Nat → Int32} {b : Nat} {T : TX} {Y : CT} (hT : tb T) (h : hE_C A b T Y) (e : ∀ j, b ≤ j → j < b + 30 → A' j = A j) : hE_C A' b T Y := by
  have h6 := hT.2.2.1
  have h8 := hT.2.2.2.1
  refine ⟨?_, ?_, fun a ha => ?_, fun m hm => ?_⟩
  · rw [e b (by omega) (by omega)]; exact h.1
  · rw [e _ (by omega) (by omega)]; exact h.2.1
  · rw [e _ (by omega) (by omega), e _ (by omega) (by omega)]; exact h.2.2.1 a ha
  · rw [e _ (by omega) (by omega), e _ (by omega) (by omega)]; exact h.2.2.2 m hm
theorem mod20 (n : Nat) (h : n < 40) : i_rem (nI n) (20 : Int32) = nI (n % 20) := pk_rem (d := 20) (by omega) (by decide) (by decide)
theorem C_keepJ {k kt u fi : Nat} {H : Nat → CT} {S : St} {T : TX} {X : CT} (hT : tC kt S T) (h : cC k kt S T X) (hu : u < 20) (hf : fi < 20) (e1 : st_I S (ky 6 1) = nI fi) (e2 : st_I S (ky 6 2) = nI u) (hh : ∀ j, j < u → hE_C (st_A S (ky 6 0)) ((fi + j) % 20 * 30) T (H j)) : ∃ S', f_X2_keep_J32 k S = some S' ∧ hC (u + 1) (fun j => if j = u then X else H j) S' T ∧ on kP S S' := by
  obtain ⟨A, w, ha, ho⟩ := C_keepIn hT h (b := (fi + u) % 20 * 30) (by omega)
  have e20 : (20 : Int32) ≠ 0 := by decide
  have em : nI ((fi + u) % 20) * (30 : Int32) = nI ((fi + u) % 20 * 30) := pk_mul _ 30
  refine ⟨up_I (up_A S (ky 6 0) A) (ky 6 2) (nI (u + 1)), ?_, ⟨by omega, fi, hf, ?_, gIs .., fun j hj => ?_⟩, on_trans (on_A _ _ _ (Or.inl rfl)) (on_I _ _ _ (Or.inr (Or.inr rfl)))⟩
  · unfold f_X2_keep_J32
    rw [chk_t e20, e1, e2, nI_add, mod20 _ (by omega), em, w, bnd, lt_e, gI_A, e2, nI_1]
  · rw [gIn _ _ (ky_ne (by decide) (by decide) (by decide)), gI_A, e1]
  · rw [gA_I, gAs]
    show hE_C A _ T (if j = u then X else H j)
    by_cases c : j = u
    · rw [if_pos c, c]
      exact ha
    · rw [if_neg c]
      refine hE_C_cg hT.1 (hh j (by omega)) (fun i i1 i2 => ho i ?_)
      omega
theorem C_keep {k kt u : Nat} {H : Nat → CT} {S : St} {T : TX} {X : CT} (hT : tC kt S T) (h : cC k kt S T X) (hh : hC u H S T) : ∃ S', f_X2_keep k S = some S' ∧ hC (h_u u) (h_add u H X) S' T ∧ on kP S S' := by
  obtain ⟨hu, fi, hf, e1, e2, hr⟩ := hh
  have hk := h.2.1
  unfold f_X2_keep
  rw [e2]
  by_cases c : u = 20
  · subst c
    have e20 : (20 : Int32) ≠ 0 := by decide
    have o : on kP S (up_I (up_I S (ky 6 1) (nI ((fi + 1) % 20))) (ky 6 2) (nI 19)) := on_trans (on_I _ _ _ (Or.inr (Or.inl rfl))) (on_I _ _ _ (Or.inr (Or.inr rfl)))
    have nP : ∀ c f, c ≠ 6 → f < 100 → ¬ kP (ky c f) := by
      intro c f hc hf q
      rcases q with e | e | e
      · exact hc ((ky_iff hf (by decide)).mp e).1
      · exact hc ((ky_iff hf (by decide)).mp e).1
      · exact hc ((ky_iff hf (by decide)).mp e).1
    have hk6 : k ≠ 6 := by
      rintro rfl
      cases hk
    have t2 : tC kt (up_I (up_I S (ky 6 1) (nI ((fi + 1) % 20))) (ky 6 2) (nI 19)) T := tC_on hT o (fun f hf => nP _ _ (by rcases hT.2.1 with rfl | rfl <;> decide) (by omega)) (fun f hf => nP _ _ (by rcases hT.2.1 with rfl | rfl <;> decide) (by omega))
    have c2 := cC_on h o (fun f hf => nP _ _ hk6 (by omega))
    obtain ⟨S', w, q, o'⟩ := C_keepJ (u := 19) (fi := (fi + 1) % 20) (H := fun j => H (j + 1)) t2 c2 (by decide) (Nat.mod_lt _ (by decide)) (by rw [gIn _ _ (ky_ne (by decide) (by decide) (by decide)), gIs]) (gIs ..) (fun j hj => by
      have := hr (j + 1) (by omega)
      have e : ((fi + 1) % 20 + j) % 20 = (fi + (j + 1)) % 20 := by omega
      rw [e]
      exact this)
    refine ⟨S', ?_, q, on_trans o o'⟩
    have ea : nI fi + (1 : Int32) = nI (fi + 1) := nI_1 fi
    have eb : nI 20 - (1 : Int32) = nI 19 := by decide
    rw [if_pos (show nI 20 = (20 : Int32) from rfl), chk_t e20, e1, ea, mod20 _ (by omega), lt_e, gIn _ _ (ky_ne (by decide) (by decide) (by decide)), e2, eb, lt_e, w]
  · have hne : ¬ nI u = (20 : Int32) := fun q => c ((nI_eq (b := 20) (by omega) (by decide)).mp q)
    rw [if_neg hne]
    obtain ⟨S', w, q, o'⟩ := C_keepJ hT h (by omega) hf e1 e2 hr
    refine ⟨S', w, ?_, o'⟩
    unfold h_u h_add
    rw [if_neg c, if_neg c]
    exact q
