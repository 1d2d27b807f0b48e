/-! ROWS OVER WORLDS: an instruction, and what it does to the residual of the pure function: '(X).bind K = some r'. -/
def chk {α : Type} (c : Prop) [Decidable c] (A : Option α) : Option α := if c then A else none
abbrev ib (i : Int32) (n : Nat) : Prop := 0 ≤ i.toInt ∧ i.toInt < n
abbrev isb (v : Int32) : Prop := v = 0 ∨ v = 1
def lt_v {α β : Type} (v : α) (f : α → β) : β := f v
def iter {σ ρ : Type} (step : σ → Option (σ ⊕ ρ)) : Nat → σ → Option ρ
  | 0, _ => none
  | n + 1, x => match step x with
    | none => none
    | some (.inl y) => iter step n y
    | some (.inr z) => some z
def FU : Nat := 40000
theorem h_chk {α β : Type} {c : Prop} [Decidable c] {A : Option α} {K : α → Option β} {r : β} (h : (chk c A).bind K = some r) : c ∧ A.bind K = some r := by
  by_cases hc : c
  · rw [chk, if_pos hc] at h
    exact ⟨hc, h⟩
  · rw [chk, if_neg hc] at h
    cases h
theorem h_pos {α β : Type} {c : Prop} [Decidable c] {A B : Option α} {K : α → Option β} {r : β} (hc : c) (h : (if c then A else B).bind K = some r) : A.bind K = some r := by rw [if_pos hc] at h; exact h
theorem h_neg {α β : Type} {c : Prop} [Decidable c] {A B : Option α} {K : α → Option β} {r : β} (hc : ¬ c) (h : (if c then A else B).bind K = some r) : B.bind K = some r := by rw [if_neg hc] at h; exact h
theorem h_bind {α β γ : Type} {x : Option α} {h : α → Option β} {K : β → Option γ} {r : γ} (hf : (x.bind h).bind K = some r) : ∃ q, x = some q ∧ (h q).bind K = some r := by
  cases x with
  | none => cases hf
  | some q => exact ⟨q, rfl, hf⟩
theorem h_lt {α β γ : Type} {v : α} {f : α → Option β} {K : β → Option γ} {r : γ} (hf : (lt_v v f).bind K = some r) : (f v).bind K = some r := hf
theorem h_top {α : Type} {x : Option α} {r : α} (h : x = some r) : x.bind some = some r := by rw [h]; rfl
/-- a loop's residual: the step's, with what follows -/
def it_K {σ ρ β : Type} (step : σ → Option (σ ⊕ ρ)) (n : Nat) (aft : ρ → Option β) : σ ⊕ ρ → Option β
  | .inl y => (iter step n y).bind aft
  | .inr z => aft z
theorem h_iter {σ ρ β : Type} {step : σ → Option (σ ⊕ ρ)} {n : Nat} {x : σ} {aft : ρ → Option β} {r : β} (h : (iter step (n + 1) x).bind aft = some r) : (step x).bind (it_K step n aft) = some r := by
  rw [iter] at h
  cases hs : step x with
  | none => rw [hs] at h; cases h
  | some q =>
    rw [hs] at h
    cases q with
    | inl y => exact h
    | inr z => exact h
theorem h_iter0 {σ ρ β : Type} {step : σ → Option (σ ⊕ ρ)} {x : σ} {aft : ρ → Option β} {r : β} {P : Prop} (h : (iter step 0 x).bind aft = some r) : P := by cases h
theorem h_assoc {α β γ : Type} {x : Option α} {h : α → Option β} {K : β → Option γ} {r : γ} (hf : (x.bind h).bind K = some r) : x.bind (fun q => (h q).bind K) = some r := by
  cases x with
  | none => cases hf
  | some q => exact hf
/-- good words -/
theorem gw_good : ∀ w ∈ gw_tbl, (w.onTables && w.keeps) = true ∨ ∃ ty, w = .arrayClass ty := by
  intro w hw
  rcases List.mem_append.mp hw with h | h
  · obtain ⟨q, -, rfl⟩ := List.mem_map.mp h
    exact Or.inl rfl
  · exact good_of_word (List.mem_filter.mp h).2
theorem gw_in {c0 w0 : Cond} (h : w0 ∈ gw_tbl) : GoodIn (c0 :: gw_tbl) (w0 :: gw_tbl) := by
  intro w hw
  rcases List.mem_cons.mp hw with rfl | h2
  · exact ⟨List.mem_cons_of_mem _ h, gw_good _ h⟩
  · exact ⟨List.mem_cons_of_mem _ h2, gw_good _ h2⟩
theorem gw_inL {w0 : Cond} (h : w0 ∈ gw_tbl) : GoodIn lw_tbl (w0 :: gw_tbl) := by
  intro w hw
  rcases List.mem_cons.mp hw with rfl | h2
  · exact ⟨gw_lw _ h, gw_good _ h⟩
  · exact ⟨gw_lw _ h2, gw_good _ h2⟩
theorem gw_inG {w0 : Cond} (h : w0 ∈ gw_tbl) : GoodIn gw_tbl (w0 :: gw_tbl) := by
  intro w hw
  rcases List.mem_cons.mp hw with rfl | h2
  · exact ⟨h, gw_good _ h⟩
  · exact ⟨h2, gw_good _ h2⟩
/-- what stays for the whole of a method -/
def CX (w : WD) (g : GG) (p : Program) (s : State) (m : MethodId) (args : Array Value) (c : Code) (cc : ByteArray) (nL : Nat) (own : String) : Prop :=
  p.tables.exec = Jvm.exec ∧ c.code = cc ∧ c.maxLocals = nL ∧ s.vm.findClass own = some m.cls ∧ (∀ w ∈ gw_tbl, w.before args s = true) ∧ va_K (gg_D g) vwCl (tl w g) s ∧ wk_s w g (aw g) s ∧ gd w g
def HH (w : WD) (g : GG) (s : State) (S : St) (H : Heap) (locs : List Loc) : Prop := va_P (gg_D g) vwCl (wl w g S) H ∧ va_S (aw g) s.heap H locs
theorem wI_at {w : WD} {g : GG} {p : Program} {s : State} {m : MethodId} {args : Array Value} {c : Code} {cc : ByteArray} {nL : Nat} {own : String} {S : St} {H : Heap} {locs : List Loc} (cx : CX w g p s m args c cc nL own) (hw : HH w g s S H locs) {U : State} (hU : U.heap = H) (hW : s.WarmedH U.vm) : wI w g S U := by
  obtain ⟨-, -, -, -, -, hK, hs, -, -, -, hgd, -⟩ := cx
  refine ⟨by rw [hU]; exact hw.1, va_K.moved hW.alike hK, ?_⟩
  exact hgd (aw g) s U hW (by rw [hU]; exact hw.2.2.1) hs
theorem wI_blind {w : WD} {g : GG} {S : St} {av : List Value} (hg : gd w g) : FrameBlind (va_Pc av (wI w g S)) := by
  intro a U mk q h
  obtain ⟨h0, hP, hK, hs⟩ := h
  exact ⟨h0, hP, va_K.moved (u := U) (U := U.calling mk q a) (Vm.Alike.refl U.vm) hK, hg.2.2.2.2 (aw g) U (U.calling mk q a) rfl rfl hs⟩
section RW
variable {w : WD} {g : GG} {p : Program} {l : Launch} {e : Env} {R : Room} {s : State} {m : MethodId} {args : Array Value} {below : List Frame} {meth : Method} {c : Code} {H : Heap} {locs : List Loc} {cells slots : Nat} {Q : State → Prop}
variable {cc : ByteArray} {nL pc : Nat} {own : String} {ls : Array Slot} {rest : List Value} {S : St}
/-- arrays -/
theorem r_iald {α β : Type} {A : Option α} {K : α → Option β} {r : β} (cx : CX w g p s m args c cc nL own) (hw : HH w g s S H locs) {k n : Nat} (hk : k ∈ gg_as g) (ht : wk_t w k = .int) (hn : wk_n w k = n) {i : Int32} (hf : (chk (ib i n) A).bind K = some r) (hdg : decode cc pc = .ok (.iaload, 1))
    (kk : A.bind K = some r → W p l e R s m args below meth c H locs cells slots Q (F0 m (pc + 1) ls (.int (st_A S k i.toNatClampNeg) :: rest))) : W p l e R s m args below meth c H locs cells slots Q (F0 m pc ls (.int i :: .ref (gg_a g k) :: rest)) := by
  obtain ⟨hc, hf⟩ := h_chk hf
  obtain ⟨j, -, h1, h2⟩ := wl_a (w := w) (g := g) S hk
  rw [ht] at h2
  exact va_iald cx.1 cx.2.1 cx.2.2.2.2.2.1 hw.1 _ _ h1 h2 (vp_in_iff.mpr (by rw [hn]; exact hc)) hdg (kk hf)
theorem r_bald {α β : Type} {A : Option α} {K : α → Option β} {r : β} (cx : CX w g p s m args c cc nL own) (hw : HH w g s S H locs) {k n : Nat} (hk : k ∈ gg_as g) (ht : wk_t w k = .byte) (hn : wk_n w k = n) {i : Int32} (hf : (chk (ib i n) A).bind K = some r) (hdg : decode cc pc = .ok (.baload, 1))
    (kk : A.bind K = some r → W p l e R s m args below meth c H locs cells slots Q (F0 m (pc + 1) ls (.int (st_A S k i.toNatClampNeg) :: rest))) : W p l e R s m args below meth c H locs cells slots Q (F0 m pc ls (.int i :: .ref (gg_a g k) :: rest)) := by
  obtain ⟨hc, hf⟩ := h_chk hf
  obtain ⟨j, -, h1, h2⟩ := wl_a (w := w) (g := g) S hk
  rw [ht] at h2
  exact va_bald cx.1 cx.2.1 cx.2.2.2.2.2.1 hw.1 _ _ h1 h2 (vp_in_iff.mpr (by rw [hn]; exact hc)) hdg (kk hf)
theorem r_zald {α β : Type} {A : Option α} {K : α → Option β} {r : β} (cx : CX w g p s m args c cc nL own) (hw : HH w g s S H locs) {k n : Nat} (hk : k ∈ gg_as g) (ht : wk_t w k = .boolean) (hn : wk_n w k = n) {i : Int32} (hf : (chk (ib i n) A).bind K = some r) (hdg : decode cc pc = .ok (.baload, 1))
    (kk : A.bind K = some r → W p l e R s m args below meth c H locs cells slots Q (F0 m (pc + 1) ls (.int (st_A S k i.toNatClampNeg) :: rest))) : W p l e R s m args below meth c H locs cells slots Q (F0 m pc ls (.int i :: .ref (gg_a g k) :: rest)) := by
  obtain ⟨hc, hf⟩ := h_chk hf
  obtain ⟨j, -, h1, h2⟩ := wl_a (w := w) (g := g) S hk
  rw [ht] at h2
  exact va_zald cx.1 cx.2.1 cx.2.2.2.2.2.1 hw.1 _ _ h1 h2 (vp_in_iff.mpr (by rw [hn]; exact hc)) hdg (kk hf)
theorem r_lald {α β : Type} {A : Option α} {K : α → Option β} {r : β} (cx : CX w g p s m args c cc nL own) (hw : HH w g s S H locs) {k n : Nat} (hk : k ∈ gg_ls g) (hn : wk_m w k = n) {i : Int32} (hf : (chk (ib i n) A).bind K = some r) (hdg : decode cc pc = .ok (.laload, 1))
    (kk : A.bind K = some r → W p l e R s m args below meth c H locs cells slots Q (F0 m (pc + 1) ls (.long (st_L S k i.toNatClampNeg) :: rest))) : W p l e R s m args below meth c H locs cells slots Q (F0 m pc ls (.int i :: .ref (gg_l g k) :: rest)) := by
  obtain ⟨hc, hf⟩ := h_chk hf
  obtain ⟨j, -, h1, h2⟩ := wl_l (w := w) (g := g) S hk
  exact va_lald cx.1 cx.2.1 cx.2.2.2.2.2.1 hw.1 _ _ h1 h2 (vp_in_iff.mpr (by rw [hn]; exact hc)) hdg (kk hf)
theorem r_aald {α β : Type} {A : Option α} {K : α → Option β} {r : β} (cx : CX w g p s m args c cc nL own) (hw : HH w g s S H locs) (hk : 0 ∈ gg_qs g) {i : Int32} (hf : (chk (ib i 3) A).bind K = some r) (hdg : decode cc pc = .ok (.aaload, 1))
    (kk : A.bind K = some r → W p l e R s m args below meth c H locs cells slots Q (F0 m (pc + 1) ls (.ref (gg_o g (wk_q w i.toNatClampNeg)) :: rest))) : W p l e R s m args below meth c H locs cells slots Q (F0 m pc ls (.int i :: .ref (gg_q g) :: rest)) := by
  obtain ⟨hc, hf⟩ := h_chk hf
  obtain ⟨j, j2, h1, h2⟩ := wl_q (w := w) (g := g) S hk
  exact va_aldq cx.1 cx.2.1 cx.2.2.2.2.2.1 hw.1 _ _ h1 h2 (vp_in_iff.mpr hc) hdg (kk hf)
theorem r_iast {α β : Type} {A : St → Option α} {K : α → Option β} {r : β} (cx : CX w g p s m args c cc nL own) (hw : HH w g s S H locs) {k n : Nat} (hk : k ∈ gg_as g) (ht : wk_t w k = .int) (hn : wk_n w k = n) {i x : Int32} (hf : (chk (ib i n) (lt_v (up_A S k (upd (st_A S k) i.toNatClampNeg x)) A)).bind K = some r) (hdg : decode cc pc = .ok (.iastore, 1))
    (kk : ∀ (S1 : St) (H1 : Heap) (locs1 : List Loc), HH w g s S1 H1 locs1 → (A S1).bind K = some r → W p l e R s m args below meth c H1 locs1 cells slots Q (F0 m (pc + 1) ls rest)) : W p l e R s m args below meth c H locs cells slots Q (F0 m pc ls (.int x :: .int i :: .ref (gg_a g k) :: rest)) := by
  obtain ⟨hc, hf⟩ := h_chk hf
  obtain ⟨j, hj, h1, h2⟩ := wl_a (w := w) (g := g) S hk
  rw [ht] at h2
  obtain ⟨hx, hb, -, -, -, hK, -, -, hnd, hD, -⟩ := cx
  refine va_iast hx hb hK hw.1 (hD S) hw.2 _ _ h1 h2 (vp_in_iff.mpr (by rw [hn]; exact hc)) hdg (fun H1 locs1 e1 _ e3 => ?_)
  rw [set_a hnd.2.1 hj] at e1
  exact kk _ H1 locs1 ⟨e1, e3⟩ hf
theorem r_bast {α β : Type} {A : St → Option α} {K : α → Option β} {r : β} (cx : CX w g p s m args c cc nL own) (hw : HH w g s S H locs) {k n : Nat} (hk : k ∈ gg_as g) (ht : wk_t w k = .byte) (hn : wk_n w k = n) {i x : Int32} (hf : (chk (ib i n) (lt_v (up_A S k (upd (st_A S k) i.toNatClampNeg (vp_nar .byte x))) A)).bind K = some r) (hdg : decode cc pc = .ok (.bastore, 1))
    (kk : ∀ (S1 : St) (H1 : Heap) (locs1 : List Loc), HH w g s S1 H1 locs1 → (A S1).bind K = some r → W p l e R s m args below meth c H1 locs1 cells slots Q (F0 m (pc + 1) ls rest)) : W p l e R s m args below meth c H locs cells slots Q (F0 m pc ls (.int x :: .int i :: .ref (gg_a g k) :: rest)) := by
  obtain ⟨hc, hf⟩ := h_chk hf
  obtain ⟨j, hj, h1, h2⟩ := wl_a (w := w) (g := g) S hk
  rw [ht] at h2
  obtain ⟨hx, hb, -, -, -, hK, -, -, hnd, hD, -⟩ := cx
  refine va_bast hx hb hK hw.1 (hD S) hw.2 _ _ h1 h2 (vp_in_iff.mpr (by rw [hn]; exact hc)) hdg (fun H1 locs1 e1 _ e3 => ?_)
  rw [set_a hnd.2.1 hj] at e1
  exact kk _ H1 locs1 ⟨e1, e3⟩ hf
theorem r_zast {α β : Type} {A : St → Option α} {K : α → Option β} {r : β} (cx : CX w g p s m args c cc nL own) (hw : HH w g s S H locs) {k n : Nat} (hk : k ∈ gg_as g) (ht : wk_t w k = .boolean) (hn : wk_n w k = n) {i x : Int32} (hf : (chk (ib i n) (lt_v (up_A S k (upd (st_A S k) i.toNatClampNeg (vp_nar .boolean x))) A)).bind K = some r) (hdg : decode cc pc = .ok (.bastore, 1))
    (kk : ∀ (S1 : St) (H1 : Heap) (locs1 : List Loc), HH w g s S1 H1 locs1 → (A S1).bind K = some r → W p l e R s m args below meth c H1 locs1 cells slots Q (F0 m (pc + 1) ls rest)) : W p l e R s m args below meth c H locs cells slots Q (F0 m pc ls (.int x :: .int i :: .ref (gg_a g k) :: rest)) := by
  obtain ⟨hc, hf⟩ := h_chk hf
  obtain ⟨j, hj, h1, h2⟩ := wl_a (w := w) (g := g) S hk
  rw [ht] at h2
  obtain ⟨hx, hb, -, -, -, hK, -, -, hnd, hD, -⟩ := cx
  refine va_zast hx hb hK hw.1 (hD S) hw.2 _ _ h1 h2 (vp_in_iff.mpr (by rw [hn]; exact hc)) hdg (fun H1 locs1 e1 _ e3 => ?_)
  rw [set_a hnd.2.1 hj] at e1
  exact kk _ H1 locs1 ⟨e1, e3⟩ hf
theorem r_last {α β : Type} {A : St → Option α} {K : α → Option β} {r : β} (cx : CX w g p s m args c cc nL own) (hw : HH w g s S H locs) {k n : Nat} (hk : k ∈ gg_ls g) (hn : wk_m w k = n) {i : Int32} {x : Int64} (hf : (chk (ib i n) (lt_v (up_L S k (vp_updL (st_L S k) i.toNatClampNeg x)) A)).bind K = some r) (hdg : decode cc pc = .ok (.lastore, 1))
    (kk : ∀ (S1 : St) (H1 : Heap) (locs1 : List Loc), HH w g s S1 H1 locs1 → (A S1).bind K = some r → W p l e R s m args below meth c H1 locs1 cells slots Q (F0 m (pc + 1) ls rest)) : W p l e R s m args below meth c H locs cells slots Q (F0 m pc ls (.long x :: .int i :: .ref (gg_l g k) :: rest)) := by
  obtain ⟨hc, hf⟩ := h_chk hf
  obtain ⟨j, hj, h1, h2⟩ := wl_l (w := w) (g := g) S hk
  obtain ⟨hx, hb, -, -, -, hK, -, -, hnd, hD, -⟩ := cx
  refine va_last hx hb hK hw.1 (hD S) hw.2 _ _ h1 h2 (vp_in_iff.mpr (by rw [hn]; exact hc)) hdg (fun H1 locs1 e1 _ e3 => ?_)
  rw [set_l hnd.2.2 hj] at e1
  exact kk _ H1 locs1 ⟨e1, e3⟩ hf
theorem r_alen (cx : CX w g p s m args c cc nL own) (hw : HH w g s S H locs) {k : Nat} (hk : k ∈ gg_as g) (hdg : decode cc pc = .ok (.arraylength, 1))
    (kk : W p l e R s m args below meth c H locs cells slots Q (F0 m (pc + 1) ls (.int (Int32.ofNat (wk_n w k)) :: rest))) : W p l e R s m args below meth c H locs cells slots Q (F0 m pc ls (.ref (gg_a g k) :: rest)) := by
  obtain ⟨j, -, h1, h2⟩ := wl_a (w := w) (g := g) S hk
  exact va_alen cx.1 cx.2.1 cx.2.2.2.2.2.1 hw.1 _ _ h1 h2 rfl hdg kk
theorem r_alenl (cx : CX w g p s m args c cc nL own) (hw : HH w g s S H locs) {k : Nat} (hk : k ∈ gg_ls g) (hdg : decode cc pc = .ok (.arraylength, 1))
    (kk : W p l e R s m args below meth c H locs cells slots Q (F0 m (pc + 1) ls (.int (Int32.ofNat (wk_m w k)) :: rest))) : W p l e R s m args below meth c H locs cells slots Q (F0 m pc ls (.ref (gg_l g k) :: rest)) := by
  obtain ⟨j, -, h1, h2⟩ := wl_l (w := w) (g := g) S hk
  exact va_alen cx.1 cx.2.1 cx.2.2.2.2.2.1 hw.1 _ _ h1 h2 rfl hdg kk
theorem r_alenq (cx : CX w g p s m args c cc nL own) (hw : HH w g s S H locs) (hk : 0 ∈ gg_qs g) (hdg : decode cc pc = .ok (.arraylength, 1))
    (kk : W p l e R s m args below meth c H locs cells slots Q (F0 m (pc + 1) ls (.int 3 :: rest))) : W p l e R s m args below meth c H locs cells slots Q (F0 m pc ls (.ref (gg_q g) :: rest)) := by
  obtain ⟨j, j2, h1, h2⟩ := wl_q (w := w) (g := g) S hk
  exact va_alen cx.1 cx.2.1 cx.2.2.2.2.2.1 hw.1 _ _ h1 h2 rfl hdg kk
/-- fields -/
theorem r_get (cx : CX w g p s m args c cc nL own) (hw : HH w g s S H locs) {k ci f kd index N : Nat} {C ref : String} {T : u_T} (hk : k ∈ gg_os g) (hc : wk_c w k = ci) (hcl : vwCl[ci]? = some (C, T, N)) (hin : ∀ x ∈ u_ws C T N, x ∈ gw_tbl) (hfN : f < N)
    (hl : Cond.fieldLink own index ref (T f).2.1 (T f).2.2.1 ∈ gw_tbl) (href : (T f).1 = ref) (hkd : (wk_k w ci)[f]? = some kd) {v : Value} (hv : kv g S k f kd = v) (hdg : decode cc pc = .ok (.getfield index, 3))
    (kk : W p l e R s m args below meth c H locs cells slots Q (F0 m (pc + 3) ls (v :: rest))) : W p l e R s m args below meth c H locs cells slots Q (F0 m pc ls (.ref (gg_o g k) :: rest)) := by
  obtain ⟨i, -, h1⟩ := wl_o (w := w) (g := g) S hk
  obtain ⟨hx, hb, -, hown, hts, hK, -⟩ := cx
  subst hc
  subst hv
  exact va_get hx hb hts hin hown hK hw.1 i h1 hcl f hfN (hts _ hl) (by rw [href]; exact fun _ h => h) (fl_get hkd) hdg kk
theorem r_getN (cx : CX w g p s m args c cc nL own) (hw : HH w g s S H locs) {k ci f kd index N : Nat} {C ref host : String} {T : u_T} (hk : k ∈ gg_os g) (hc : wk_c w k = ci) (hcl : vwCl[ci]? = some (C, T, N)) (hin : ∀ x ∈ u_ws C T N, x ∈ gw_tbl) (hfN : f < N)
    (hl : va_Nw (Cond.fieldLinkNest own index ref (T f).2.1 (T f).2.2.1 host) s) (href : (T f).1 = ref) (hkd : (wk_k w ci)[f]? = some kd) {v : Value} (hv : kv g S k f kd = v) (hdg : decode cc pc = .ok (.getfield index, 3))
    (kk : W p l e R s m args below meth c H locs cells slots Q (F0 m (pc + 3) ls (v :: rest))) : W p l e R s m args below meth c H locs cells slots Q (F0 m pc ls (.ref (gg_o g k) :: rest)) := by
  obtain ⟨i, -, h1⟩ := wl_o (w := w) (g := g) S hk
  obtain ⟨hx, hb, -, hown, hts, hK, -⟩ := cx
  subst hc
  subst hv
  exact va_getN hx hb hts hin hown hK hw.1 i h1 hcl f hfN hl (by rw [href]; exact fun _ h => h) (fl_get hkd) hdg kk
end RW
