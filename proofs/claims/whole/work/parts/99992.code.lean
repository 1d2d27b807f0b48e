/-! THE CLASS'S CODE OF A LAW: what is emitted, what waits. -/
theorem nI_mm (n : Nat) : nI (n + 1) + (-1) = nI n := by
  rw [show nI (n + 1) + (-1 : Int32) = nI (n + 1) - 1 from (Int32.sub_eq_add_neg _ _).symm]
  exact nI_pred n
def cc (x : Nat × Nat) : Nat × Nat := if x.1 < 2 then x else ([0, 0, 43, 45, 42, 47].getD x.1 0, 0)
def kLw (kl : Nat) : Nat → Prop := fun q => ∃ f, f < 5 ∧ q = ky kl f
def isLw (kl : Nat) : Prop := kl = 4 ∨ kl = 5
theorem kLw_ {kl f : Nat} (h : f < 5) : kLw kl (ky kl f) := ⟨f, h, rfl⟩
def clS (kl : Nat) (S : St) (o : CL) (wt : List Nat) : Prop := st_I S (ky kl 2) = nI o.length ∧ cds (st_A S (ky kl 0)) (st_A S (ky kl 1)) 0 o ∧ st_I S (ky kl 4) = nI wt.length ∧ stk (st_A S (ky kl 3)) (wt.map ckN) ∧ ∀ w ∈ wt, w = 6 ∨ w = 8 ∨ w = 9 ∨ w = 10 ∨ w = 15
theorem lw_n {kl : Nat} (h : isLw kl) : wk_n wd_C (ky kl 0) = 512 ∧ wk_n wd_C (ky kl 1) = 512 ∧ wk_n wd_C (ky kl 3) = 64 ∧ wk_n wd_C (ky kl 5) = 64 ∧ wk_n wd_C (ky kl 6) = 6 := by
  rcases h with rfl | rfl
  · exact ⟨rfl, rfl, rfl, rfl, rfl⟩
  · exact ⟨rfl, rfl, rfl, rfl, rfl⟩
def upCm (S : St) (kl c : Nat) (x1 x2 : Int32) : St := up_I (up_A (up_A S (ky kl 0) (upd (st_A S (ky kl 0)) c x1)) (ky kl 1) (upd (st_A S (ky kl 1)) c x2)) (ky kl 2) (nI (c + 1))
theorem cm_fr {kl : Nat} (h : isLw kl) (S : St) (c : Nat) (x1 x2 : Int32) : st_I (upCm S kl c x1 x2) (ky kl 2) = nI (c + 1) ∧ st_I (upCm S kl c x1 x2) (ky kl 4) = st_I S (ky kl 4) ∧ st_A (upCm S kl c x1 x2) (ky kl 3) = st_A S (ky kl 3) ∧ st_A (upCm S kl c x1 x2) (ky kl 0) = upd (st_A S (ky kl 0)) c x1 ∧ st_A (upCm S kl c x1 x2) (ky kl 1) = upd (st_A S (ky kl 1)) c x2 := by
  rcases h with rfl | rfl
  · exact ⟨rfl, rfl, rfl, rfl, rfl⟩
  · exact ⟨rfl, rfl, rfl, rfl, rfl⟩
theorem upCm_on (S : St) (kl c : Nat) (x1 x2 : Int32) : on (kLw kl) S (upCm S kl c x1 x2) := on_trans (on_trans (on_A _ _ _ (kLw_ (by decide))) (on_A _ _ _ (kLw_ (by decide)))) (on_I _ _ _ (kLw_ (by decide)))
theorem C_emit {kl : Nat} (hk : isLw kl) {S : St} {c : Nat} (h : st_I S (ky kl 2) = nI c) (hc : c < 512) (x1 x2 : Int32) : f_X1_emit kl S x1 x2 = some (upCm S kl c x1 x2) := by
  have hn := lw_n hk
  have h1 : ∀ f, st_I (up_A S (ky kl 0) f) (ky kl 2) = nI c := fun _ => h
  have h2 : ∀ f g, st_I (up_A (up_A S (ky kl 0) f) (ky kl 1) g) (ky kl 2) = nI c := fun _ _ => h
  have h3 : ∀ f, st_A (up_A S (ky kl 0) f) (ky kl 1) = st_A S (ky kl 1) := fun f => by
    rw [gA_A, if_neg (ky_ne (by decide) (by decide) (by omega))]
  unfold f_X1_emit
  rw [h, put_nI hn.1 hc (by decide), bnd, h1, put_nI hn.2.1 hc (by decide), bnd, h2, lt_e, nI_1, h3]
  rfl
theorem cl_em {kl : Nat} (hk : isLw kl) {S : St} {o : CL} {wt : List Nat} (h : clS kl S o wt) (x : Nat × Nat) : clS kl (upCm S kl o.length (nI x.1) (nI x.2)) (o ++ [x]) wt := by
  obtain ⟨e1, e2, e3, e4, e5⟩ := cm_fr hk S o.length (nI x.1) (nI x.2)
  refine ⟨?_, ?_, e2.trans h.2.2.1, ?_, h.2.2.2.2⟩
  · rw [e1, List.length_append]
    rfl
  · rw [e4, e5]
    have := cds_app (c0 := 0) x h.2.1
    rw [Nat.zero_add] at this
    exact this
  · rw [e3]
    exact h.2.2.2.1
theorem C_put1 {kl : Nat} (hk : isLw kl) {S : St} {o : CL} {wt : List Nat} (h : clS kl S o wt) (hl : o.length < 512) (x : Nat × Nat) : ∃ S', f_X1_emit kl S (nI x.1) (nI x.2) = some S' ∧ clS kl S' (o ++ [x]) wt ∧ on (kLw kl) S S' := ⟨_, C_emit hk h.1 hl _ _, cl_em hk h x, upCm_on _ _ _ _ _⟩
theorem ckN_op {w : Nat} (h : w = 8 ∨ w = 9 ∨ w = 10 ∨ w = 15) : f_X1_bindingOf (nI (ckN w)) = some (if w = 8 ∨ w = 9 then (1 : Int32) else 2) ∧ nI (ckN w) ≠ (40 : Int32) ∧ cc (opC w, 0) = (ckN w, 0) := by
  rcases h with rfl | rfl | rfl | rfl
  · exact ⟨rfl, by decide, rfl⟩
  · exact ⟨rfl, by decide, rfl⟩
  · exact ⟨rfl, by decide, rfl⟩
  · exact ⟨rfl, by decide, rfl⟩
def bdI (st : Bool) : Int32 := if st then 2 else 0
/-- every binding that the class asks for -/
def bdOK (st : Bool) (b : Int32) : Prop := (st = true ∧ b = 2) ∨ (st = false ∧ (b = 0 ∨ b = 1))
theorem C_unw {kl : Nat} (hk : isLw kl) {st : Bool} {b : Int32} (hb : bdOK st b) : ∀ (wt : List Nat) (fuel : Nat) (S : St) (base o : CL), wt.length < fuel → wt.length ≤ 60 → base.length + o.length + wt.length ≤ 511 → clS kl S (base ++ o.map cc) wt → ∃ S', iter (f_X1_unwind_L7 kl b) fuel (nI wt.length + (-1), S) = some S' ∧ clS kl S' (base ++ (syPop st o wt).1.map cc) (syPop st o wt).2 ∧ on (kLw kl) S S' := by
  intro wt
  induction wt with
  | nil =>
    intro fuel S base o h1 h2 h3 h
    obtain ⟨f, rfl⟩ : ∃ f, fuel = f + 1 := ⟨fuel - 1, by have : 0 < fuel := h1; omega⟩
    refine ⟨S, ?_, h, on_refl _ _⟩
    rw [iter]
    unfold f_X1_unwind_L7
    rw [if_pos (show (nI ([] : List Nat).length + (-1) : Int32) < 0 by decide)]
  | cons w r ih =>
    intro fuel S base o h1 h2 h3 h
    have h1' : r.length + 1 < fuel := h1
    have h2' : r.length + 1 ≤ 60 := h2
    have h3' : base.length + o.length + (r.length + 1) ≤ 511 := h3
    obtain ⟨f, rfl⟩ : ∃ f, fuel = f + 1 := ⟨fuel - 1, by omega⟩
    have e3 : st_A S (ky kl 3) r.length = nI (ckN w) := by
      have := h.2.2.2.1.1
      rw [List.length_map] at this
      exact this
    have hi : nI (w :: r).length + (-1) = nI r.length := nI_mm _
    have hw := h.2.2.2.2 w (List.mem_cons_self ..)
    have start : f_X1_unwind_L7 kl b (nI r.length, S) = if w = 6 ∨ st = true ∧ (w = 8 ∨ w = 9) then some (.inr S) else (f_X1_emit kl S (nI (ckN w)) (0 : Int32)).bind (fun q6 => lt_v (up_I q6 (ky kl 4) (nI r.length)) (fun S7 => some (.inl (nI r.length + (-1), S7)))) := by
      unfold f_X1_unwind_L7
      rw [if_neg (nI_pos (by omega)), at_nI (lw_n hk).2.2.1 (by omega) (by decide), e3, bnd]
      by_cases c6 : w = 6
      · rw [if_pos (Or.inl c6), if_pos (by rw [c6]; rfl)]
      · obtain ⟨g1, g2, g3⟩ := ckN_op (w := w) (by omega)
        rw [if_neg g2, g1, bnd]
        rcases hb with ⟨s1, s2⟩ | ⟨s1, s2⟩
        · subst s1 s2
          by_cases c8 : w = 8 ∨ w = 9
          · rw [if_pos c8, if_neg (by decide), if_pos (Or.inr ⟨rfl, c8⟩)]
          · rw [if_neg c8, if_pos (by decide), if_neg (fun z => z.elim c6 (fun y => c8 y.2))]
        · subst s1
          rw [if_neg (show ¬ (w = 6 ∨ false = true ∧ (w = 8 ∨ w = 9)) from fun z => z.elim c6 (fun y => absurd y.1 (by decide)))]
          rw [if_pos]
          rcases s2 with rfl | rfl
          · split <;> decide
          · split <;> decide
    rw [hi, iter, start, syPop]
    by_cases c : w = 6 ∨ st = true ∧ (w = 8 ∨ w = 9)
    · rw [if_pos c, if_pos c]
      exact ⟨S, rfl, h, on_refl _ _⟩
    · rw [if_neg c, if_neg c]
      have c6 : w ≠ 6 := fun z => c (Or.inl z)
      obtain ⟨g1, g2, g3⟩ := ckN_op (w := w) (by omega)
      obtain ⟨S1, k1, k2, k3⟩ := C_put1 hk h (by rw [List.length_append, List.length_map]; omega) (ckN w, 0)
      have k1' : f_X1_emit kl S (nI (ckN w)) (0 : Int32) = some S1 := k1
      rw [k1', bnd, lt_e]
      have hS2 : clS kl (up_I S1 (ky kl 4) (nI r.length)) (base ++ (o ++ [(opC w, 0)]).map cc) r := by
        refine ⟨?_, ?_, ?_, ?_, fun x hx => h.2.2.2.2 x (List.mem_cons_of_mem _ hx)⟩
        · rw [gI_I, if_neg (ky_ne (by decide) (by decide) (by omega)), k2.1, List.map_append, List.append_assoc]
          show nI (base ++ (o.map cc ++ [(ckN w, 0)])).length = nI (base ++ (o.map cc ++ [cc (opC w, 0)])).length
          rw [g3]
        · show cds (st_A S1 (ky kl 0)) (st_A S1 (ky kl 1)) 0 (base ++ (o ++ [(opC w, 0)]).map cc)
          rw [List.map_append, ← List.append_assoc]
          show cds (st_A S1 (ky kl 0)) (st_A S1 (ky kl 1)) 0 (base ++ o.map cc ++ [cc (opC w, 0)])
          rw [g3]
          exact k2.2.1
        · rw [gI_I, if_pos rfl]
        · exact k2.2.2.2.1.2
      obtain ⟨S', n1, n2, n3⟩ := ih f _ base (o ++ [(opC w, 0)]) (by omega) (by omega) (by rw [List.length_append]; show base.length + (o.length + 1) + r.length ≤ 511; omega) hS2
      exact ⟨S', n1, n2, on_trans (on_trans k3 (on_I _ _ _ (kLw_ (by decide)))) n3⟩
theorem C_unwind {kl : Nat} (hk : isLw kl) {st : Bool} {b : Int32} (hb : bdOK st b) {S : St} {base o : CL} {wt : List Nat} (h2 : wt.length ≤ 60) (h3 : base.length + o.length + wt.length ≤ 511) (h : clS kl S (base ++ o.map cc) wt) : ∃ S', f_X1_unwind kl S b = some S' ∧ clS kl S' (base ++ (syPop st o wt).1.map cc) (syPop st o wt).2 ∧ on (kLw kl) S S' := by
  obtain ⟨S', e1, e2, e3⟩ := C_unw hk hb wt FU S base o (by show wt.length < 40000; omega) h2 h3 h
  refine ⟨S', ?_, e2, e3⟩
  unfold f_X1_unwind
  rw [h.2.2.1, Int32.sub_eq_add_neg]
  exact e1
theorem C_putOff {kl : Nat} (hk : isLw kl) {S : St} {o : CL} {wt : List Nat} {w : Nat} (h : clS kl S o wt) (hl : wt.length ≤ 60) (hw : w = 6 ∨ w = 8 ∨ w = 9 ∨ w = 10 ∨ w = 15) : ∃ S', f_X1_putOff kl S (nI (ckN w)) = some S' ∧ clS kl S' o (w :: wt) ∧ on (kLw kl) S S' := by
  refine ⟨up_I (up_A S (ky kl 3) (upd (st_A S (ky kl 3)) wt.length (nI (ckN w)))) (ky kl 4) (nI (wt.length + 1)), ?_, ⟨?_, ?_, ?_, ?_, ?_⟩, on_trans (on_A _ _ _ (kLw_ (by decide))) (on_I _ _ _ (kLw_ (by decide)))⟩
  · unfold f_X1_putOff
    rw [h.2.2.1, put_nI (lw_n hk).2.2.1 (by omega) (by decide), bnd, lt_e]
    rw [gI_A, h.2.2.1, nI_1]
  · rw [gI_I, if_neg (ky_ne (by decide) (by decide) (by omega))]
    exact h.1
  · rw [gA_I, gA_I, gA_A, gA_A, if_neg (ky_ne (by decide) (by decide) (by omega)), if_neg (ky_ne (by decide) (by decide) (by omega))]
    exact h.2.1
  · rw [gI_I, if_pos rfl]
    rfl
  · rw [gA_I, gAs]
    have := stk_push (ckN w) h.2.2.2.1
    rw [List.length_map] at this
    exact this
  · intro x hx
    rcases List.mem_cons.mp hx with e | e
    · rw [e]; exact hw
    · exact h.2.2.2.2 x e
