/-! WHAT IS DONE BY HAND, AND THE BEGINNING, abstractly. -/
/-- the row of lateness that is due now -/
def x_lat (T : TX) (X : CT) : CT := (cn X, (fun f t i => if f = 3 ∧ t = cn X then s_late T X i (cf X 1 (cn X) (tf T 5 i)) else cf X f t i), cw X, ck X, cz X)
def x_set (X : CT) (f i v : Nat) : CT := (cn X, (fun f' t j => if f' = f ∧ t = cn X ∧ j = i then v else cf X f' t j), cw X, ck X, cz X)
def x_wall (X : CT) (m : Nat) (b : Bool) : CT := (cn X, cf X, (fun t j => if t = cn X ∧ j = m then b else cw X t j), ck X, cz X)
def x_beg0 (T : TX) : CT := (0, (fun f _ i => if f = 0 then tf T 3 i else if f = 1 then tf T 2 i else if f = 2 then tf T 4 i else 0), (fun _ _ => false), (fun _ => none), fun _ => none)
def x_put (T : TX) (X : CT) (f i v : Nat) : CT := x_lat T (x_set X f i v)
theorem cf_lat_o (T : TX) (X : CT) {f : Nat} (h : f ≠ 3) (t i : Nat) : cf (x_lat T X) f t i = cf X f t i := if_neg (fun q => h q.1)
theorem cf_lat_t (T : TX) (X : CT) (f : Nat) {t : Nat} (h : t ≠ cn X) (i : Nat) : cf (x_lat T X) f t i = cf X f t i := if_neg (fun q => h q.2)
theorem cf_lat_n (T : TX) (X : CT) (i : Nat) : cf (x_lat T X) 3 (cn X) i = s_late T X i (cf X 1 (cn X) (tf T 5 i)) := if_pos ⟨rfl, rfl⟩
/-- lateness looks at the rows but its own, now -/
theorem s_late_cg (T : TX) (X Y : CT) (hn : cn X = cn Y) (h : ∀ f i, f ≠ 3 → cf X f (cn X) i = cf Y f (cn Y) i) (m rk : Nat) : s_late T X m rk = s_late T Y m rk := by
  have e : s_men T X (cf X 2 (cn X) m) (cn X) = s_men T Y (cf Y 2 (cn Y) m) (cn Y) := by
    unfold s_men
    congr 1
    funext a
    rw [h 0 a (by decide), h 2 m (by decide)]
  unfold s_late
  rw [e, h 2 m (by decide), hn]
theorem s_late_lat (T : TX) (X : CT) (m rk : Nat) : s_late T (x_lat T X) m rk = s_late T X m rk := s_late_cg T (x_lat T X) X rfl (fun f i hf => cf_lat_o T X hf _ i) m rk
theorem okL_lat (T : TX) (X : CT) : okL T (x_lat T X) := by
  intro m hm
  show cf (x_lat T X) 3 (cn X) m = s_late T (x_lat T X) m (cf (x_lat T X) 1 (cn X) (tf T 5 m))
  rw [cf_lat_n, s_late_lat, cf_lat_o T X (by decide)]
theorem cb_lat {T : TX} {X : CT} (h : cb T X) : cb T (x_lat T X) := by
  refine ⟨h.1, fun t ht => ⟨fun a ha => ?_, fun m hm => ⟨?_, ?_⟩⟩, h.2.2⟩
  · rw [cf_lat_o T X (by decide), cf_lat_o T X (by decide)]
    exact (h.2.1 t ht).1 a ha
  · rw [cf_lat_o T X (by decide)]
    exact ((h.2.1 t ht).2 m hm).1
  · by_cases e : t = cn X
    · rw [e, cf_lat_n]
      exact s_late_le ..
    · rw [cf_lat_t T X 3 e]
      exact ((h.2.1 t ht).2 m hm).2
theorem x_lat_set (T : TX) (X : CT) (f i v : Nat) (hf : f ≠ 3) : x_lat T (x_set (x_lat T X) f i v) = x_lat T (x_set X f i v) := by
  have e1 : ∀ f' t j, f' ≠ 3 → cf (x_set (x_lat T X) f i v) f' t j = cf (x_set X f i v) f' t j := by
    intro f' t j h
    show (if f' = f ∧ t = cn X ∧ j = i then v else cf (x_lat T X) f' t j) = if f' = f ∧ t = cn X ∧ j = i then v else cf X f' t j
    rw [cf_lat_o T X h]
  have e2 : (fun f' t j => if f' = 3 ∧ t = cn X then s_late T (x_set (x_lat T X) f i v) j (cf (x_set (x_lat T X) f i v) 1 (cn X) (tf T 5 j)) else cf (x_set (x_lat T X) f i v) f' t j) = fun f' t j => if f' = 3 ∧ t = cn X then s_late T (x_set X f i v) j (cf (x_set X f i v) 1 (cn X) (tf T 5 j)) else cf (x_set X f i v) f' t j := by
    funext f' t j
    by_cases c : f' = 3 ∧ t = cn X
    · rw [if_pos c, if_pos c, e1 1 _ _ (by decide), s_late_cg T (x_set (x_lat T X) f i v) (x_set X f i v) rfl (fun f'' i' h => e1 f'' _ i' h)]
    · rw [if_neg c, if_neg c]
      by_cases c3 : f' = 3
      · subst c3
        have c4 : t ≠ cn X := fun q => c ⟨rfl, q⟩
        show (if 3 = f ∧ t = cn X ∧ j = i then v else cf (x_lat T X) 3 t j) = if 3 = f ∧ t = cn X ∧ j = i then v else cf X 3 t j
        rw [cf_lat_t T X 3 c4]
      · exact e1 f' t j c3
  show (cn X, (fun f' t j => if f' = 3 ∧ t = cn X then s_late T (x_set (x_lat T X) f i v) j (cf (x_set (x_lat T X) f i v) 1 (cn X) (tf T 5 j)) else cf (x_set (x_lat T X) f i v) f' t j), cw X, ck X, cz X) = (cn X, (fun f' t j => if f' = 3 ∧ t = cn X then s_late T (x_set X f i v) j (cf (x_set X f i v) 1 (cn X) (tf T 5 j)) else cf (x_set X f i v) f' t j), cw X, ck X, cz X)
  rw [e2]
theorem cb_set {T : TX} {X : CT} (h : cb T X) {f i v : Nat} (hv : (f = 0 ∧ v < tn T 0) ∨ (f = 1 ∧ v ≤ 20) ∨ (f = 2 ∧ v < tn T 0)) : cb T (x_set X f i v) := by
  refine ⟨h.1, fun t ht => ⟨fun a ha => ⟨?_, ?_⟩, fun m hm => ⟨?_, ?_⟩⟩, h.2.2⟩
  · show (if 0 = f ∧ t = cn X ∧ a = i then v else cf X 0 t a) < tn T 0
    split
    · omega
    · exact ((h.2.1 t ht).1 a ha).1
  · show (if 1 = f ∧ t = cn X ∧ a = i then v else cf X 1 t a) ≤ 20
    split
    · omega
    · exact ((h.2.1 t ht).1 a ha).2
  · show (if 2 = f ∧ t = cn X ∧ m = i then v else cf X 2 t m) < tn T 0
    split
    · omega
    · exact ((h.2.1 t ht).2 m hm).1
  · show (if 3 = f ∧ t = cn X ∧ m = i then v else cf X 3 t m) ≤ 240
    split
    · omega
    · exact ((h.2.1 t ht).2 m hm).2
theorem cb_wall {T : TX} {X : CT} (h : cb T X) (m : Nat) (b : Bool) : cb T (x_wall X m b) := ⟨h.1, h.2.1, h.2.2⟩
theorem cb_beg0 {T : TX} (hT : tb T) : cb T (x_beg0 T) := by
  refine ⟨Nat.zero_le _, fun t ht => ⟨fun a ha => ?_, fun m hm => ?_⟩, fun m hm b hb => by cases hb⟩
  · exact ⟨(hT.2.2.2.2.2.2.2.1 a ha).2, (hT.2.2.2.2.2.2.2.1 a ha).1⟩
  · exact ⟨(hT.2.2.2.2.2.2.2.2 m hm).1, Nat.zero_le _⟩
theorem cCp_lat {k kt : Nat} {S : St} {T : TX} {X : CT} (h : cCp (fun t _ => t < cn X) k kt S T X) : cCp (fun t _ => t < cn (x_lat T X)) k kt S T (x_lat T X) := by
  refine ⟨cb_lat h.1, h.2.1, h.2.2.1, h.2.2.2.1, fun t ht => ⟨fun a ha => ?_, fun m hm => ⟨?_, fun q => ?_⟩, (h.2.2.2.2.1 t ht).2.2⟩, h.2.2.2.2.2⟩
  · rw [cf_lat_o T X (by decide), cf_lat_o T X (by decide)]
    exact (h.2.2.2.2.1 t ht).1 a ha
  · rw [cf_lat_o T X (by decide)]
    exact ((h.2.2.2.2.1 t ht).2.1 m hm).1
  · have q' : t < cn X := q
    rw [cf_lat_t T X 3 (by omega)]
    exact ((h.2.2.2.2.1 t ht).2.1 m hm).2 q'
theorem cMp_lat {a b c d : Nat} {S : St} {T : TX} {X : CT} (h : cMp (fun t _ => t < cn X) a b c d S T X) : cMp (fun t _ => t < cn (x_lat T X)) a b c d S T (x_lat T X) := by
  refine ⟨cb_lat h.1, h.2.1, fun t ht => ⟨fun a ha => ?_, fun m hm => ⟨?_, ((h.2.2.1 t ht).2 m hm).2.1, fun q => ?_⟩⟩, h.2.2.2⟩
  · rw [cf_lat_o T X (by decide), cf_lat_o T X (by decide)]
    exact (h.2.2.1 t ht).1 a ha
  · rw [cf_lat_o T X (by decide)]
    exact ((h.2.2.1 t ht).2 m hm).1
  · have q' : t < cn X := q
    rw [cf_lat_t T X 3 (by omega)]
    exact ((h.2.2.1 t ht).2 m hm).2.2 q'
theorem C_lat {k kt : Nat} {S : St} {T : TX} {X : CT} (hT : tC kt S T) (h : cCp (fun t _ => t < cn X) k kt S T X) : ∃ S', f_X0_setLates k S = some S' ∧ tC kt S' T ∧ cC k kt S' T (x_lat T X) ∧ on (kC k kt) S S' := C_setLates hT (cCp_lat h) (okL_lat T X)
theorem M_lat {s : Nat} {S : St} {T : TX} {X : CT} (hT : tM s S T) (h : cMp (fun t _ => t < cn X) 56 57 58 59 S T X) : ∃ S', f_X6_fillsLate S = some S' ∧ tM s S' T ∧ cM 56 57 58 59 S' T (x_lat T X) ∧ on (kM fsC) S S' := M_fillsLate hT (cMp_lat h) (okL_lat T X)
theorem cf_set_o {X : CT} {f i v f' : Nat} (h : f' ≠ f) (t j : Nat) : cf (x_set X f i v) f' t j = cf X f' t j := if_neg (fun q => h q.1)
theorem cf_set_e (X : CT) (f i v t j : Nat) : cf (x_set X f i v) f t j = if t = cn X ∧ j = i then v else cf X f t j := by
  show (if f = f ∧ t = cn X ∧ j = i then v else cf X f t j) = _
  by_cases c : t = cn X ∧ j = i
  · rw [if_pos c, if_pos ⟨rfl, c⟩]
  · rw [if_neg c, if_neg (fun q => c q.2)]

theorem C_putMan {k kt : Nat} {S : St} {T : TX} {X : CT} (hT : tC kt S T) (h : cC k kt S T X) {i v : Nat} (hi : i < tn T 2) (hv : v < tn T 0) : ∃ S', f_X0_putMan k S (nI i) (nI v) = some S' ∧ tC kt S' T ∧ cC k kt S' T (x_put T X 0 i v) ∧ on (kC k kt) S S' := by
  have hk := h.2.1
  have h1 := h.1.1
  have h6 := hT.1.2.2.1
  have h8 := hT.1.2.2.2.1
  have e : nI (cn X) * (6 : Int32) + nI i = nI (cn X * 6 + i) := ix_mul _ 6 i
  have o := on_A (K := kC k kt) S (ky k 2) (upd (st_A S (ky k 2)) (cn X * 6 + i) (nI v)) (Or.inl ⟨2, by decide, by decide, rfl⟩)
  have ne : ∀ f, f < 9 → f ≠ 2 → st_A (up_A S (ky k 2) (upd (st_A S (ky k 2)) (cn X * 6 + i) (nI v))) (ky k f) = st_A S (ky k f) := fun f hf hn => gAn _ _ (ky_ne (by omega) (by decide) (by omega))
  have C1 : cCp (fun t _ => t < cn (x_set X 0 i v)) k kt (up_A S (ky k 2) (upd (st_A S (ky k 2)) (cn X * 6 + i) (nI v))) T (x_set X 0 i v) := by
    refine ⟨cb_set h.1 (Or.inl ⟨rfl, hv⟩), hk, h.2.2.1, h.2.2.2.1, fun t ht => ⟨fun a ha => ⟨?_, ?_⟩, fun m hm => ⟨?_, fun q => ?_⟩, ?_⟩, fun m hm => ?_⟩
    · rw [gAs, upd_e, cf_set_e]
      by_cases c : t = cn X ∧ a = i
      · rw [if_pos c, if_pos (by rw [c.1, c.2])]
      · rw [if_neg c, if_neg (fun q => c (by omega))]
        exact ((h.2.2.2.2.1 t ht).1 a ha).1
    · rw [ne 3 (by decide) (by decide), cf_set_o (by decide)]
      exact ((h.2.2.2.2.1 t ht).1 a ha).2
    · rw [ne 4 (by decide) (by decide), cf_set_o (by decide)]
      exact ((h.2.2.2.2.1 t ht).2.1 m hm).1
    · rw [ne 5 (by decide) (by decide), cf_set_o (by decide)]
      exact ((h.2.2.2.2.1 t ht).2.1 m hm).2 trivial
    · rw [ne 6 (by decide) (by decide)]
      exact (h.2.2.2.2.1 t ht).2.2
    · rw [ne 7 (by decide) (by decide), ne 8 (by decide) (by decide)]
      exact h.2.2.2.2.2 m hm
  obtain ⟨S', w1, T1, C2, o2⟩ := C_lat (tC_kC hk hT o) C1
  refine ⟨S', ?_, T1, C2, on_trans o o2⟩
  unfold f_X0_putMan
  rw [h.2.2.2.1, e, put_nI (lnC hk (by decide) (n := 1800) rfl) (by omega) (by decide), bnd, w1, bnd]
theorem M_putMan {s : Nat} {S : St} {T : TX} {X : CT} (hT : tM s S T) (h : cM 56 57 58 59 S T X) {i v : Nat} (hi : i < tn T 2) (hv : v < tn T 0) : ∃ S', f_X6_fillsLate (up_A S (ky 0 56) (upd (st_A S (ky 0 56)) (36 * cn X + i) (nI v))) = some S' ∧ tM s S' T ∧ cM 56 57 58 59 S' T (x_put T X 0 i v) ∧ on (kM fsC) S S' := by
  have h6 := hT.1.2.2.1
  have h8 := hT.1.2.2.2.1
  have o := on_A (K := kM fsC) S (ky 0 56) (upd (st_A S (ky 0 56)) (36 * cn X + i) (nI v)) ⟨56, by decide, rfl⟩
  have ne : ∀ f, f < 100 → f ≠ 56 → st_A (up_A S (ky 0 56) (upd (st_A S (ky 0 56)) (36 * cn X + i) (nI v))) (ky 0 f) = st_A S (ky 0 f) := fun f hf hn => gAn _ _ (ky_ne (by omega) (by decide) (by omega))
  have C1 : cMp (fun t _ => t < cn (x_set X 0 i v)) 56 57 58 59 (up_A S (ky 0 56) (upd (st_A S (ky 0 56)) (36 * cn X + i) (nI v))) T (x_set X 0 i v) := by
    refine ⟨cb_set h.1 (Or.inl ⟨rfl, hv⟩), h.2.1, fun t ht => ⟨fun a ha => ⟨?_, ?_⟩, fun m hm => ⟨?_, ?_, fun q => ?_⟩⟩, fun m hm => ?_⟩
    · rw [gAs, upd_e, cf_set_e]
      by_cases c : t = cn X ∧ a = i
      · rw [if_pos c, if_pos (by rw [c.1, c.2])]
      · rw [if_neg c, if_neg (fun q => c (by omega))]
        exact ((h.2.2.1 t ht).1 a ha).1
    · rw [gAs, upd_n (by omega), cf_set_o (by decide)]
      exact ((h.2.2.1 t ht).1 a ha).2
    · rw [gAs, upd_n (by omega), cf_set_o (by decide)]
      exact ((h.2.2.1 t ht).2 m hm).1
    · rw [gAs, upd_n (by omega)]
      exact ((h.2.2.1 t ht).2 m hm).2.1
    · rw [gAs, upd_n (by omega), cf_set_o (by decide)]
      exact ((h.2.2.1 t ht).2 m hm).2.2 trivial
    · rw [ne 58 (by decide) (by decide), ne 59 (by decide) (by decide)]
      exact h.2.2.2 m hm
  obtain ⟨S', w1, T1, C2, o2⟩ := M_lat (tM_fsC hT o) C1
  exact ⟨S', w1, T1, C2, on_trans o o2⟩
theorem C_putRank {k kt : Nat} {S : St} {T : TX} {X : CT} (hT : tC kt S T) (h : cC k kt S T X) {i v : Nat} (hi : i < tn T 2) (hv : v ≤ 20) : ∃ S', f_X0_putRank k S (nI i) (nI v) = some S' ∧ tC kt S' T ∧ cC k kt S' T (x_put T X 1 i v) ∧ on (kC k kt) S S' := by
  have hk := h.2.1
  have h1 := h.1.1
  have h6 := hT.1.2.2.1
  have h8 := hT.1.2.2.2.1
  have e : nI (cn X) * (6 : Int32) + nI i = nI (cn X * 6 + i) := ix_mul _ 6 i
  have o := on_A (K := kC k kt) S (ky k 3) (upd (st_A S (ky k 3)) (cn X * 6 + i) (nI v)) (Or.inl ⟨3, by decide, by decide, rfl⟩)
  have ne : ∀ f, f < 9 → f ≠ 3 → st_A (up_A S (ky k 3) (upd (st_A S (ky k 3)) (cn X * 6 + i) (nI v))) (ky k f) = st_A S (ky k f) := fun f hf hn => gAn _ _ (ky_ne (by omega) (by decide) (by omega))
  have C1 : cCp (fun t _ => t < cn (x_set X 1 i v)) k kt (up_A S (ky k 3) (upd (st_A S (ky k 3)) (cn X * 6 + i) (nI v))) T (x_set X 1 i v) := by
    refine ⟨cb_set h.1 (Or.inr (Or.inl ⟨rfl, hv⟩)), hk, h.2.2.1, h.2.2.2.1, fun t ht => ⟨fun a ha => ⟨?_, ?_⟩, fun m hm => ⟨?_, fun q => ?_⟩, ?_⟩, fun m hm => ?_⟩
    · rw [ne 2 (by decide) (by decide), cf_set_o (by decide)]
      exact ((h.2.2.2.2.1 t ht).1 a ha).1
    · rw [gAs, upd_e, cf_set_e]
      by_cases c : t = cn X ∧ a = i
      · rw [if_pos c, if_pos (by rw [c.1, c.2])]
      · rw [if_neg c, if_neg (fun q => c (by omega))]
        exact ((h.2.2.2.2.1 t ht).1 a ha).2
    · rw [ne 4 (by decide) (by decide), cf_set_o (by decide)]
      exact ((h.2.2.2.2.1 t ht).2.1 m hm).1
    · rw [ne 5 (by decide) (by decide), cf_set_o (by decide)]
      exact ((h.2.2.2.2.1 t ht).2.1 m hm).2 trivial
    · rw [ne 6 (by decide) (by decide)]
      exact (h.2.2.2.2.1 t ht).2.2
    · rw [ne 7 (by decide) (by decide), ne 8 (by decide) (by decide)]
      exact h.2.2.2.2.2 m hm
  obtain ⟨S', w1, T1, C2, o2⟩ := C_lat (tC_kC hk hT o) C1
  refine ⟨S', ?_, T1, C2, on_trans o o2⟩
  unfold f_X0_putRank
  rw [h.2.2.2.1, e, put_nI (lnC hk (by decide) (n := 1800) rfl) (by omega) (by decide), bnd, w1, bnd]
theorem M_putRank {s : Nat} {S : St} {T : TX} {X : CT} (hT : tM s S T) (h : cM 56 57 58 59 S T X) {i v : Nat} (hi : i < tn T 2) (hv : v ≤ 20) : ∃ S', f_X6_fillsLate (up_A S (ky 0 56) (upd (st_A S (ky 0 56)) (36 * cn X + 6 + i) (nI v))) = some S' ∧ tM s S' T ∧ cM 56 57 58 59 S' T (x_put T X 1 i v) ∧ on (kM fsC) S S' := by
  have h6 := hT.1.2.2.1
  have h8 := hT.1.2.2.2.1
  have o := on_A (K := kM fsC) S (ky 0 56) (upd (st_A S (ky 0 56)) (36 * cn X + 6 + i) (nI v)) ⟨56, by decide, rfl⟩
  have ne : ∀ f, f < 100 → f ≠ 56 → st_A (up_A S (ky 0 56) (upd (st_A S (ky 0 56)) (36 * cn X + 6 + i) (nI v))) (ky 0 f) = st_A S (ky 0 f) := fun f hf hn => gAn _ _ (ky_ne (by omega) (by decide) (by omega))
  have C1 : cMp (fun t _ => t < cn (x_set X 1 i v)) 56 57 58 59 (up_A S (ky 0 56) (upd (st_A S (ky 0 56)) (36 * cn X + 6 + i) (nI v))) T (x_set X 1 i v) := by
    refine ⟨cb_set h.1 (Or.inr (Or.inl ⟨rfl, hv⟩)), h.2.1, fun t ht => ⟨fun a ha => ⟨?_, ?_⟩, fun m hm => ⟨?_, ?_, fun q => ?_⟩⟩, fun m hm => ?_⟩
    · rw [gAs, upd_n (by omega), cf_set_o (by decide)]
      exact ((h.2.2.1 t ht).1 a ha).1
    · rw [gAs, upd_e, cf_set_e]
      by_cases c : t = cn X ∧ a = i
      · rw [if_pos c, if_pos (by rw [c.1, c.2])]
      · rw [if_neg c, if_neg (fun q => c (by omega))]
        exact ((h.2.2.1 t ht).1 a ha).2
    · rw [gAs, upd_n (by omega), cf_set_o (by decide)]
      exact ((h.2.2.1 t ht).2 m hm).1
    · rw [gAs, upd_n (by omega)]
      exact ((h.2.2.1 t ht).2 m hm).2.1
    · rw [gAs, upd_n (by omega), cf_set_o (by decide)]
      exact ((h.2.2.1 t ht).2 m hm).2.2 trivial
    · rw [ne 58 (by decide) (by decide), ne 59 (by decide) (by decide)]
      exact h.2.2.2 m hm
  obtain ⟨S', w1, T1, C2, o2⟩ := M_lat (tM_fsC hT o) C1
  exact ⟨S', w1, T1, C2, on_trans o o2⟩
theorem C_putMirror {k kt : Nat} {S : St} {T : TX} {X : CT} (hT : tC kt S T) (h : cC k kt S T X) {i v : Nat} (hi : i < tn T 3) (hv : v < tn T 0) : ∃ S', f_X0_putMirror k S (nI i) (nI v) = some S' ∧ tC kt S' T ∧ cC k kt S' T (x_put T X 2 i v) ∧ on (kC k kt) S S' := by
  have hk := h.2.1
  have h1 := h.1.1
  have h6 := hT.1.2.2.1
  have h8 := hT.1.2.2.2.1
  have e : nI (cn X) * (8 : Int32) + nI i = nI (cn X * 8 + i) := ix_mul _ 8 i
  have o := on_A (K := kC k kt) S (ky k 4) (upd (st_A S (ky k 4)) (cn X * 8 + i) (nI v)) (Or.inl ⟨4, by decide, by decide, rfl⟩)
  have ne : ∀ f, f < 9 → f ≠ 4 → st_A (up_A S (ky k 4) (upd (st_A S (ky k 4)) (cn X * 8 + i) (nI v))) (ky k f) = st_A S (ky k f) := fun f hf hn => gAn _ _ (ky_ne (by omega) (by decide) (by omega))
  have C1 : cCp (fun t _ => t < cn (x_set X 2 i v)) k kt (up_A S (ky k 4) (upd (st_A S (ky k 4)) (cn X * 8 + i) (nI v))) T (x_set X 2 i v) := by
    refine ⟨cb_set h.1 (Or.inr (Or.inr ⟨rfl, hv⟩)), hk, h.2.2.1, h.2.2.2.1, fun t ht => ⟨fun a ha => ⟨?_, ?_⟩, fun m hm => ⟨?_, fun q => ?_⟩, ?_⟩, fun m hm => ?_⟩
    · rw [ne 2 (by decide) (by decide), cf_set_o (by decide)]
      exact ((h.2.2.2.2.1 t ht).1 a ha).1
    · rw [ne 3 (by decide) (by decide), cf_set_o (by decide)]
      exact ((h.2.2.2.2.1 t ht).1 a ha).2
    · rw [gAs, upd_e, cf_set_e]
      by_cases c : t = cn X ∧ m = i
      · rw [if_pos c, if_pos (by rw [c.1, c.2])]
      · rw [if_neg c, if_neg (fun q => c (by omega))]
        exact ((h.2.2.2.2.1 t ht).2.1 m hm).1
    · rw [ne 5 (by decide) (by decide), cf_set_o (by decide)]
      exact ((h.2.2.2.2.1 t ht).2.1 m hm).2 trivial
    · rw [ne 6 (by decide) (by decide)]
      exact (h.2.2.2.2.1 t ht).2.2
    · rw [ne 7 (by decide) (by decide), ne 8 (by decide) (by decide)]
      exact h.2.2.2.2.2 m hm
  obtain ⟨S', w1, T1, C2, o2⟩ := C_lat (tC_kC hk hT o) C1
  refine ⟨S', ?_, T1, C2, on_trans o o2⟩
  unfold f_X0_putMirror
  rw [h.2.2.2.1, e, put_nI (lnC hk (by decide) (n := 2400) rfl) (by omega) (by decide), bnd, w1, bnd]
theorem M_putMirror {s : Nat} {S : St} {T : TX} {X : CT} (hT : tM s S T) (h : cM 56 57 58 59 S T X) {i v : Nat} (hi : i < tn T 3) (hv : v < tn T 0) : ∃ S', f_X6_fillsLate (up_A S (ky 0 56) (upd (st_A S (ky 0 56)) (36 * cn X + 12 + i) (nI v))) = some S' ∧ tM s S' T ∧ cM 56 57 58 59 S' T (x_put T X 2 i v) ∧ on (kM fsC) S S' := by
  have h6 := hT.1.2.2.1
  have h8 := hT.1.2.2.2.1
  have o := on_A (K := kM fsC) S (ky 0 56) (upd (st_A S (ky 0 56)) (36 * cn X + 12 + i) (nI v)) ⟨56, by decide, rfl⟩
  have ne : ∀ f, f < 100 → f ≠ 56 → st_A (up_A S (ky 0 56) (upd (st_A S (ky 0 56)) (36 * cn X + 12 + i) (nI v))) (ky 0 f) = st_A S (ky 0 f) := fun f hf hn => gAn _ _ (ky_ne (by omega) (by decide) (by omega))
  have C1 : cMp (fun t _ => t < cn (x_set X 2 i v)) 56 57 58 59 (up_A S (ky 0 56) (upd (st_A S (ky 0 56)) (36 * cn X + 12 + i) (nI v))) T (x_set X 2 i v) := by
    refine ⟨cb_set h.1 (Or.inr (Or.inr ⟨rfl, hv⟩)), h.2.1, fun t ht => ⟨fun a ha => ⟨?_, ?_⟩, fun m hm => ⟨?_, ?_, fun q => ?_⟩⟩, fun m hm => ?_⟩
    · rw [gAs, upd_n (by omega), cf_set_o (by decide)]
      exact ((h.2.2.1 t ht).1 a ha).1
    · rw [gAs, upd_n (by omega), cf_set_o (by decide)]
      exact ((h.2.2.1 t ht).1 a ha).2
    · rw [gAs, upd_e, cf_set_e]
      by_cases c : t = cn X ∧ m = i
      · rw [if_pos c, if_pos (by rw [c.1, c.2])]
      · rw [if_neg c, if_neg (fun q => c (by omega))]
        exact ((h.2.2.1 t ht).2 m hm).1
    · rw [gAs, upd_n (by omega)]
      exact ((h.2.2.1 t ht).2 m hm).2.1
    · rw [gAs, upd_n (by omega), cf_set_o (by decide)]
      exact ((h.2.2.1 t ht).2 m hm).2.2 trivial
    · rw [ne 58 (by decide) (by decide), ne 59 (by decide) (by decide)]
      exact h.2.2.2 m hm
  obtain ⟨S', w1, T1, C2, o2⟩ := M_lat (tM_fsC hT o) C1
  exact ⟨S', w1, T1, C2, on_trans o o2⟩
