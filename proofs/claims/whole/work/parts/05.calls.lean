/-! CONTRACTS, PUTS, CALLS, ENDS over worlds. -/
def qc_i (w : WD) (g : GG) (S : St) (q : Int32) : Array Value → State → Outcome → State → Prop := va_Qi (fun r (_ : Unit) => r = q) (fun _ t => wI w g S t) (aw g)
def qc_w (w : WD) (g : GG) (q : Int32 × St) : Array Value → State → Outcome → State → Prop := va_Qi (fun r (_ : Unit) => r = q.1) (fun _ t => wI w g q.2 t) (aw g)
def qc_l (w : WD) (g : GG) (S : St) (q : Int64) : Array Value → State → Outcome → State → Prop := va_Ql (fun r (_ : Unit) => r = q) (fun _ t => wI w g S t) (aw g)
def qc_v (w : WD) (g : GG) (S : St) : Array Value → State → Outcome → State → Prop := va_Qv (fun (_ : Unit) => True) (fun _ t => wI w g S t) (aw g)
def qc_s (w : WD) (g : GG) (S : St) (q : Nat) : Array Value → State → Outcome → State → Prop := fun a s o t => ∃ d : Nat, va_Qr (fun (_ : Unit) => True) (fun _ r t => wI w g S t ∧ r = d) (aw g) a s o t ∧ d = q
section CW
variable {w : WD} {g : GG} {p : Program} {l : Launch} {e : Env} {R : Room} {s : State} {m : MethodId} {args : Array Value} {below : List Frame} {meth : Method} {c : Code} {H : Heap} {locs : List Loc} {cells slots : Nat} {Q : State → Prop}
variable {cc : ByteArray} {nL pc : Nat} {own : String} {ls : Array Slot} {rest st0 : List Value} {S : St}
theorem r_putI {α β : Type} {A : St → Option α} {K : α → Option β} {r : β} (cx : CX w g p s m args c cc nL own) (hw : HH w g s S H locs) {k ci f index N : Nat} {C ref : String} {T : u_T} (hk : k ∈ gg_os g) (hc : wk_c w k = ci) (hcl : vwCl[ci]? = some (C, T, N)) (hin : ∀ x ∈ u_ws C T N, x ∈ gw_tbl) (ty0 : Nat → FieldType) (hty : ∀ k, k < N → parseFieldDescriptor (T k).2.2.1 = some (ty0 k)) (hnm : ∀ a, a < N → ∀ b, b < N → a ≠ b → (T a).2.1 ≠ (T b).2.1) (hfN : f < N)
    (hl : Cond.fieldLink own index ref (T f).2.1 (T f).2.2.1 ∈ gw_tbl) (href : (T f).1 = ref) (hfin : (T f).2.2.2 = false) {ty : FieldType} {x : Int32} (hd : parseFieldDescriptor (T f).2.2.1 = some ty) (hn : narrow ty (.int x) = .int x) (hfit : fits ty (.int x) = true) (hkd : (wk_k w ci)[f]? = some 0) (hf : (lt_v (up_I S (ky k f) x) A).bind K = some r) (hdg : decode cc pc = .ok (.putfield index, 3))
    (kk : ∀ (S1 : St) (H1 : Heap) (locs1 : List Loc), HH w g s S1 H1 locs1 → (A S1).bind K = some r → W p l e R s m args below meth c H1 locs1 cells slots Q (F0 m (pc + 3) ls rest)) : W p l e R s m args below meth c H locs cells slots Q (F0 m pc ls (.int x :: .ref (gg_o g k) :: rest)) := by
  obtain ⟨i, hi, h1⟩ := wl_o (w := w) (g := g) S hk
  obtain ⟨hx, hb, -, hown, hts, hK, -, hlen, hnd, hD, -⟩ := cx
  subst hc
  have hfl : f < (wk_k w (wk_c w k)).length := (List.getElem?_eq_some_iff.mp hkd).1
  refine va_put hx hb hts hin ty0 hty hnm hown hK hw.1 (hD S) hw.2 i h1 hcl f hfN (hts _ hl) (by rw [href]; exact fun _ h => h) hfin hd hn hfit (by unfold fl; simpa using hfl) hdg (fun H1 locs1 e1 _ e3 => ?_)
  rw [set_o (S := S) (S' := up_I S (ky k f) x) (v := .int x) hnd.1 hi rfl rfl hfl (kv_I hlen hkd)] at e1
  exact kk _ H1 locs1 ⟨e1, e3⟩ hf
theorem r_putJ {α β : Type} {A : St → Option α} {K : α → Option β} {r : β} (cx : CX w g p s m args c cc nL own) (hw : HH w g s S H locs) {k ci f index N : Nat} {C ref : String} {T : u_T} (hk : k ∈ gg_os g) (hc : wk_c w k = ci) (hcl : vwCl[ci]? = some (C, T, N)) (hin : ∀ x ∈ u_ws C T N, x ∈ gw_tbl) (ty0 : Nat → FieldType) (hty : ∀ k, k < N → parseFieldDescriptor (T k).2.2.1 = some (ty0 k)) (hnm : ∀ a, a < N → ∀ b, b < N → a ≠ b → (T a).2.1 ≠ (T b).2.1) (hfN : f < N)
    (hl : Cond.fieldLink own index ref (T f).2.1 (T f).2.2.1 ∈ gw_tbl) (href : (T f).1 = ref) (hfin : (T f).2.2.2 = false) {x : Int64} (hd : parseFieldDescriptor (T f).2.2.1 = some .long) (hkd : (wk_k w ci)[f]? = some 1) (hf : (lt_v (up_J S (ky k f) x) A).bind K = some r) (hdg : decode cc pc = .ok (.putfield index, 3))
    (kk : ∀ (S1 : St) (H1 : Heap) (locs1 : List Loc), HH w g s S1 H1 locs1 → (A S1).bind K = some r → W p l e R s m args below meth c H1 locs1 cells slots Q (F0 m (pc + 3) ls rest)) : W p l e R s m args below meth c H locs cells slots Q (F0 m pc ls (.long x :: .ref (gg_o g k) :: rest)) := by
  obtain ⟨i, hi, h1⟩ := wl_o (w := w) (g := g) S hk
  obtain ⟨hx, hb, -, hown, hts, hK, -, hlen, hnd, hD, -⟩ := cx
  subst hc
  have hfl : f < (wk_k w (wk_c w k)).length := (List.getElem?_eq_some_iff.mp hkd).1
  refine va_put hx hb hts hin ty0 hty hnm hown hK hw.1 (hD S) hw.2 i h1 hcl f hfN (hts _ hl) (by rw [href]; exact fun _ h => h) hfin hd rfl rfl (by unfold fl; simpa using hfl) hdg (fun H1 locs1 e1 _ e3 => ?_)
  rw [set_o (S := S) (S' := up_J S (ky k f) x) (v := .long x) hnd.1 hi rfl rfl hfl (kv_J hlen hkd)] at e1
  exact kk _ H1 locs1 ⟨e1, e3⟩ hf
theorem r_putP {α β : Type} {A : St → Option α} {K : α → Option β} {r : β} (cx : CX w g p s m args c cc nL own) (hw : HH w g s S H locs) {k ci f index N : Nat} {C ref : String} {T : u_T} (hk : k ∈ gg_os g) (hc : wk_c w k = ci) (hcl : vwCl[ci]? = some (C, T, N)) (hin : ∀ x ∈ u_ws C T N, x ∈ gw_tbl) (ty0 : Nat → FieldType) (hty : ∀ k, k < N → parseFieldDescriptor (T k).2.2.1 = some (ty0 k)) (hnm : ∀ a, a < N → ∀ b, b < N → a ≠ b → (T a).2.1 ≠ (T b).2.1) (hfN : f < N)
    (hl : Cond.fieldLink own index ref (T f).2.1 (T f).2.2.1 ∈ gw_tbl) (href : (T f).1 = ref) (hfin : (T f).2.2.2 = false) {x : Nat} {D : String} (hd : parseFieldDescriptor (T f).2.2.1 = some (.object D)) (hkd : (wk_k w ci)[f]? = some 5) (hf : (lt_v (up_P S (ky k f) x) A).bind K = some r) (hdg : decode cc pc = .ok (.putfield index, 3))
    (kk : ∀ (S1 : St) (H1 : Heap) (locs1 : List Loc), HH w g s S1 H1 locs1 → (A S1).bind K = some r → W p l e R s m args below meth c H1 locs1 cells slots Q (F0 m (pc + 3) ls rest)) : W p l e R s m args below meth c H locs cells slots Q (F0 m pc ls (.ref (gg_o g x) :: .ref (gg_o g k) :: rest)) := by
  obtain ⟨i, hi, h1⟩ := wl_o (w := w) (g := g) S hk
  obtain ⟨hx, hb, -, hown, hts, hK, -, hlen, hnd, hD, -⟩ := cx
  subst hc
  have hfl : f < (wk_k w (wk_c w k)).length := (List.getElem?_eq_some_iff.mp hkd).1
  refine va_put hx hb hts hin ty0 hty hnm hown hK hw.1 (hD S) hw.2 i h1 hcl f hfN (hts _ hl) (by rw [href]; exact fun _ h => h) hfin hd rfl rfl (by unfold fl; simpa using hfl) hdg (fun H1 locs1 e1 _ e3 => ?_)
  rw [set_o (S := S) (S' := up_P S (ky k f) x) (v := .ref (gg_o g x)) hnd.1 hi rfl rfl hfl (kv_P hlen hkd)] at e1
  exact kk _ H1 locs1 ⟨e1, e3⟩ hf
theorem r_recv (cx : CX w g p s m args c cc nL own) (hw : HH w g s S H locs) {k N : Nat} {C : String} {T : u_T} (hk : k ∈ gg_os g) (hcl : vwCl[wk_c w k]? = some (C, T, N)) : ∃ cell : Cell, H[gg_o g k]? = some cell ∧ cell.vm.isStatics = false ∧ s.vm.findClass C = some cell.cls := by
  obtain ⟨i, hi, h1⟩ := wl_o (w := w) (g := g) S hk
  exact va_recv cx.2.2.2.2.2.1 hw.1 hcl h1
theorem r_end_i {α β : Type} {x : Option (Int32)} {h : Int32 → Option α} {K : α → Option β} {r : β} {a : Array Value} (hf : (x.bind h).bind K = some r) (hw : HH w g s S H locs)
    (hr : ∀ q, x = some q → va_Run p l e R s m args below meth c H locs cells slots 0 0 (F0 m pc ls st0) rest (qc_i w g S q a) (aw g))
    (kk : ∀ (q : Int32) (H1 : Heap) (locs1 : List Loc), HH w g s (S) H1 locs1 → (h q).bind K = some r → W p l e R s m args below meth c H1 locs1 cells slots Q (F0 m (pc + 3) ls (.int q :: rest))) : W p l e R s m args below meth c H locs cells slots Q (F0 m pc ls st0) := by
  obtain ⟨q, hq, hf⟩ := h_bind hf
  refine va_calli (hr q hq) hw.2 (fun _ _ h => h) (fun _ h => h) (fun r u t H1 locs1 ht _ hp hb _ _ hS => ?_)
  rw [hp]
  refine kk q H1 locs1 ⟨?_, hS⟩ hf
  rw [← ht]
  exact hb.1
theorem r_end_w {α β : Type} {x : Option (Int32 × St)} {h : Int32 × St → Option α} {K : α → Option β} {r : β} {a : Array Value} (hf : (x.bind h).bind K = some r) (hw : HH w g s S H locs)
    (hr : ∀ q, x = some q → va_Run p l e R s m args below meth c H locs cells slots 0 0 (F0 m pc ls st0) rest (qc_w w g q a) (aw g))
    (kk : ∀ (q : Int32 × St) (H1 : Heap) (locs1 : List Loc), HH w g s (q.2) H1 locs1 → (h q).bind K = some r → W p l e R s m args below meth c H1 locs1 cells slots Q (F0 m (pc + 3) ls (.int q.1 :: rest))) : W p l e R s m args below meth c H locs cells slots Q (F0 m pc ls st0) := by
  obtain ⟨q, hq, hf⟩ := h_bind hf
  refine va_calli (hr q hq) hw.2 (fun _ _ h => h) (fun _ h => h) (fun r u t H1 locs1 ht _ hp hb _ _ hS => ?_)
  rw [hp]
  refine kk q H1 locs1 ⟨?_, hS⟩ hf
  rw [← ht]
  exact hb.1
theorem r_end_l {α β : Type} {x : Option (Int64)} {h : Int64 → Option α} {K : α → Option β} {r : β} {a : Array Value} (hf : (x.bind h).bind K = some r) (hw : HH w g s S H locs)
    (hr : ∀ q, x = some q → va_Run p l e R s m args below meth c H locs cells slots 0 0 (F0 m pc ls st0) rest (qc_l w g S q a) (aw g))
    (kk : ∀ (q : Int64) (H1 : Heap) (locs1 : List Loc), HH w g s (S) H1 locs1 → (h q).bind K = some r → W p l e R s m args below meth c H1 locs1 cells slots Q (F0 m (pc + 3) ls (.long q :: rest))) : W p l e R s m args below meth c H locs cells slots Q (F0 m pc ls st0) := by
  obtain ⟨q, hq, hf⟩ := h_bind hf
  refine va_calll (hr q hq) hw.2 (fun _ _ h => h) (fun _ h => h) (fun r u t H1 locs1 ht _ hp hb _ _ hS => ?_)
  rw [hp]
  refine kk q H1 locs1 ⟨?_, hS⟩ hf
  rw [← ht]
  exact hb.1
theorem r_end_v {α β : Type} {x : Option (St)} {h : St → Option α} {K : α → Option β} {r : β} {a : Array Value} (hf : (x.bind h).bind K = some r) (hw : HH w g s S H locs)
    (hr : ∀ q, x = some q → va_Run p l e R s m args below meth c H locs cells slots 0 0 (F0 m pc ls st0) rest (qc_v w g q a) (aw g))
    (kk : ∀ (q : St) (H1 : Heap) (locs1 : List Loc), HH w g s (q) H1 locs1 → (h q).bind K = some r → W p l e R s m args below meth c H1 locs1 cells slots Q (F0 m (pc + 3) ls ( rest))) : W p l e R s m args below meth c H locs cells slots Q (F0 m pc ls st0) := by
  obtain ⟨q, hq, hf⟩ := h_bind hf
  refine va_callv (hr q hq) hw.2 (fun _ _ h => h) (fun _ h => h) (fun u t H1 locs1 ht _ hp hb _ _ hS => ?_)
  skip
  refine kk q H1 locs1 ⟨?_, hS⟩ hf
  rw [← ht]
  exact hb.1
end CW
/-! links: what the tables say of a call -/
abbrev lk_d (y : MethodName) (n : Nat) : Prop := y.cls ≠ "java/lang/invoke/MethodHandle" ∧ y.cls ≠ "java/lang/invoke/VarHandle" ∧ (parseMethodDescriptor y.desc).map (fun d => d.parameters.length) = some n
def LkS (own : String) (index : Nat) (y : MethodName) (bytes : ByteArray) (maxL : Nat) (ret : Option FieldType) (n : Nat) : Prop := Cond.methodLink own index y ∈ gw_tbl ∧ Cond.static y ∈ gw_tbl ∧ Cond.initialized y.cls ∈ gw_tbl ∧ Cond.code y bytes maxL ret ∈ gw_tbl ∧ lk_d y n
def LkV (own : String) (index : Nat) (C : String) (y : MethodName) (bytes : ByteArray) (maxL : Nat) (ret : Option FieldType) (n : Nat) : Prop := Cond.methodLink own index y ∈ gw_tbl ∧ Cond.instanceMethod y ∈ gw_tbl ∧ Cond.selects C y y ∈ gw_tbl ∧ Cond.initialized y.cls ∈ gw_tbl ∧ Cond.code y bytes maxL ret ∈ gw_tbl ∧ lk_d y n
def LkI (own : String) (index : Nat) (y : MethodName) (bytes : ByteArray) (maxL : Nat) (n : Nat) : Prop := Cond.methodLink own index y ∈ gw_tbl ∧ Cond.instanceMethod y ∈ gw_tbl ∧ Cond.initialized y.cls ∈ gw_tbl ∧ Cond.code y bytes maxL none ∈ gw_tbl ∧ lk_d y n ∧ y.name = "<init>"
def LnS (own : String) (index : Nat) (host : String) (y : MethodName) (bytes : ByteArray) (maxL : Nat) (ret : Option FieldType) (n : Nat) : Prop := Cond.methodLinkNest own index y host ∈ nw_tbl ∧ Cond.static y ∈ gw_tbl ∧ Cond.initialized y.cls ∈ gw_tbl ∧ Cond.code y bytes maxL ret ∈ gw_tbl ∧ lk_d y n
def LnV (own : String) (index : Nat) (host C : String) (y : MethodName) (bytes : ByteArray) (maxL : Nat) (ret : Option FieldType) (n : Nat) : Prop := Cond.methodLinkNest own index y host ∈ nw_tbl ∧ Cond.instanceMethod y ∈ gw_tbl ∧ Cond.selects C y y ∈ gw_tbl ∧ Cond.initialized y.cls ∈ gw_tbl ∧ Cond.code y bytes maxL ret ∈ gw_tbl ∧ lk_d y n
def LnI (own : String) (index : Nat) (host : String) (y : MethodName) (bytes : ByteArray) (maxL : Nat) (n : Nat) : Prop := Cond.methodLinkNest own index y host ∈ nw_tbl ∧ Cond.instanceMethod y ∈ gw_tbl ∧ Cond.initialized y.cls ∈ gw_tbl ∧ Cond.code y bytes maxL none ∈ gw_tbl ∧ lk_d y n ∧ y.name = "<init>"
abbrev rmFit (rm : Room) (R : Room) (maxL : Nat) : Prop := (rm.cells = 0 ∧ rm.slots = 0) ∧ rm.frames + 1 ≤ R.frames ∧ 8 + (maxL + 11) + rm.locals ≤ R.locals
section CW
variable {w : WD} {g : GG} {p : Program} {l : Launch} {e : Env} {R : Room} {s : State} {m : MethodId} {args : Array Value} {below : List Frame} {meth : Method} {c : Code} {H : Heap} {locs : List Loc} {cells slots : Nat} {Q : State → Prop}
variable {cc : ByteArray} {nL pc : Nat} {own : String} {ls : Array Slot} {rest st0 : List Value} {S : St}
theorem r_S_i {α β : Type} {x : Option (Int32)} {h : Int32 → Option α} {K : α → Option β} {r : β} {y : MethodName} {bytes : ByteArray} {maxL index n : Nat} {ret : Option FieldType} {rm : Room} {As : List Value} (cx : CX w g p s m args c cc nL own) (hw : HH w g s S H locs) (hf : (x.bind h).bind K = some r) (lk : LkS own index y bytes maxL ret n) (hM : ∀ q, x = some q → Met l y (Cond.code y bytes maxL ret :: gw_tbl) rm (va_Pc As (wI w g S)) (qc_i w g S q) 0 0 (aw g)) (hR : rmFit rm R maxL) (hn : As.length = n) (hsz : ls.size = nL) (hst : st0 = As.reverse ++ rest) (hroom : (rest.map fun v => v.category).sum ≤ 8) (hdg : decode cc pc = .ok (.invokestatic index, 3)) (hfit : cells + 0 ≤ R.cells ∧ slots + 0 ≤ R.slots)
    (kk : ∀ (q : Int32) (H1 : Heap) (locs1 : List Loc), HH w g s (S) H1 locs1 → (h q).bind K = some r → W p l e R s m args below meth c H1 locs1 cells slots Q (F0 m (pc + 3) ls (.int q :: rest))) : W p l e R s m args below meth c H locs cells slots Q (F0 m pc ls st0) := by
  have hts := cx.2.2.2.2.1
  obtain ⟨l1, l2, l3, l4, l5⟩ := lk
  refine r_end_i hf hw (fun q hq => va_runS (Ts := gw_tbl) ⟨cx.1, cx.2.1, cx.2.2.1, cx.2.2.2.1, hts⟩ (hM q hq) ⟨callB_of n hts (gw_inG l4) rfl hR.1.1 hR.1.2 (hts _ l3) (hts _ l1) l5 hR.2, hts _ l2⟩ ⟨wI_blind cx.2.2.2.2.2.2.2, fun U hU hW => ⟨rfl, wI_at cx hw hU hW⟩⟩ rfl hn hsz hst (lv_room hroom) hdg hfit) kk
theorem r_V_i {α β : Type} {x : Option (Int32)} {h : Int32 → Option α} {K : α → Option β} {r : β} {y : MethodName} {bytes : ByteArray} {maxL index n : Nat} {ret : Option FieldType} {rm : Room} {As : List Value} (cx : CX w g p s m args c cc nL own) (hw : HH w g s S H locs) (hf : (x.bind h).bind K = some r) {k N : Nat} {C : String} {T : u_T} (hk : k ∈ gg_os g) (hcl : vwCl[wk_c w k]? = some (C, T, N)) (lk : LkV own index C y bytes maxL ret n) (hM : ∀ q, x = some q → Met l y (Cond.code y bytes maxL ret :: gw_tbl) rm (va_Pc (.ref (gg_o g k) :: As) (wI w g S)) (qc_i w g S q) 0 0 (aw g)) (hR : rmFit rm R maxL) (hn : As.length = n) (hsz : ls.size = nL) (hst : st0 = As.reverse ++ .ref (gg_o g k) :: rest) (hroom : (rest.map fun v => v.category).sum ≤ 8) (hdg : decode cc pc = .ok (.invokevirtual index, 3)) (hfit : cells + 0 ≤ R.cells ∧ slots + 0 ≤ R.slots)
    (kk : ∀ (q : Int32) (H1 : Heap) (locs1 : List Loc), HH w g s (S) H1 locs1 → (h q).bind K = some r → W p l e R s m args below meth c H1 locs1 cells slots Q (F0 m (pc + 3) ls (.int q :: rest))) : W p l e R s m args below meth c H locs cells slots Q (F0 m pc ls st0) := by
  have hts := cx.2.2.2.2.1
  obtain ⟨l1, l2, l3, l4, l5, l6⟩ := lk
  refine r_end_i hf hw (fun q hq => va_runV (Ts := gw_tbl) ⟨cx.1, cx.2.1, cx.2.2.1, cx.2.2.2.1, hts⟩ (hM q hq) ⟨callB_of n hts (gw_inG l5) rfl hR.1.1 hR.1.2 (hts _ l4) (hts _ l1) l6 hR.2, hts _ l2, hts _ l3⟩ ⟨wI_blind cx.2.2.2.2.2.2.2, r_recv cx hw hk hcl, fun U hU hW => ⟨rfl, wI_at cx hw hU hW⟩⟩ rfl hn hsz hst (lv_room hroom) hdg hfit) kk
theorem r_SN_i {α β : Type} {x : Option (Int32)} {h : Int32 → Option α} {K : α → Option β} {r : β} {y : MethodName} {bytes : ByteArray} {maxL index n : Nat} {ret : Option FieldType} {rm : Room} {As : List Value} (cx : CX w g p s m args c cc nL own) (hw : HH w g s S H locs) (hf : (x.bind h).bind K = some r) {host : String} (hnw : ∀ z ∈ nw_tbl, va_Nw z s) (lk : LnS own index host y bytes maxL ret n) (hM : ∀ q, x = some q → Met l y (Cond.code y bytes maxL ret :: gw_tbl) rm (va_Pc As (wI w g S)) (qc_i w g S q) 0 0 (aw g)) (hR : rmFit rm R maxL) (hn : As.length = n) (hsz : ls.size = nL) (hst : st0 = As.reverse ++ rest) (hroom : (rest.map fun v => v.category).sum ≤ 8) (hdg : decode cc pc = .ok (.invokestatic index, 3)) (hfit : cells + 0 ≤ R.cells ∧ slots + 0 ≤ R.slots)
    (kk : ∀ (q : Int32) (H1 : Heap) (locs1 : List Loc), HH w g s (S) H1 locs1 → (h q).bind K = some r → W p l e R s m args below meth c H1 locs1 cells slots Q (F0 m (pc + 3) ls (.int q :: rest))) : W p l e R s m args below meth c H locs cells slots Q (F0 m pc ls st0) := by
  have hts := cx.2.2.2.2.1
  obtain ⟨l1, l2, l3, l4, l5⟩ := lk
  refine r_end_i hf hw (fun q hq => va_runSN (Ts := gw_tbl) (host := host) ⟨cx.1, cx.2.1, cx.2.2.1, cx.2.2.2.1, hts⟩ (hM q hq) ⟨va_cnB n hts (gw_inG l4) rfl hR.1.1 hR.1.2 (hnw _ l1) (hts _ l3) l5 hR.2, hts _ l2, trivial⟩ ⟨wI_blind cx.2.2.2.2.2.2.2, fun U hU hW => ⟨rfl, wI_at cx hw hU hW⟩⟩ rfl hn hsz hst (lv_room hroom) hdg hfit) kk
theorem r_VN_i {α β : Type} {x : Option (Int32)} {h : Int32 → Option α} {K : α → Option β} {r : β} {y : MethodName} {bytes : ByteArray} {maxL index n : Nat} {ret : Option FieldType} {rm : Room} {As : List Value} (cx : CX w g p s m args c cc nL own) (hw : HH w g s S H locs) (hf : (x.bind h).bind K = some r) {host : String} {k N : Nat} {C : String} {T : u_T} (hnw : ∀ z ∈ nw_tbl, va_Nw z s) (hk : k ∈ gg_os g) (hcl : vwCl[wk_c w k]? = some (C, T, N)) (lk : LnV own index host C y bytes maxL ret n) (hM : ∀ q, x = some q → Met l y (Cond.code y bytes maxL ret :: gw_tbl) rm (va_Pc (.ref (gg_o g k) :: As) (wI w g S)) (qc_i w g S q) 0 0 (aw g)) (hR : rmFit rm R maxL) (hn : As.length = n) (hsz : ls.size = nL) (hst : st0 = As.reverse ++ .ref (gg_o g k) :: rest) (hroom : (rest.map fun v => v.category).sum ≤ 8) (hdg : decode cc pc = .ok (.invokevirtual index, 3)) (hfit : cells + 0 ≤ R.cells ∧ slots + 0 ≤ R.slots)
    (kk : ∀ (q : Int32) (H1 : Heap) (locs1 : List Loc), HH w g s (S) H1 locs1 → (h q).bind K = some r → W p l e R s m args below meth c H1 locs1 cells slots Q (F0 m (pc + 3) ls (.int q :: rest))) : W p l e R s m args below meth c H locs cells slots Q (F0 m pc ls st0) := by
  have hts := cx.2.2.2.2.1
  obtain ⟨l1, l2, l3, l4, l5, l6⟩ := lk
  refine r_end_i hf hw (fun q hq => va_runVN (Ts := gw_tbl) (host := host) ⟨cx.1, cx.2.1, cx.2.2.1, cx.2.2.2.1, hts⟩ (hM q hq) ⟨va_cnB n hts (gw_inG l5) rfl hR.1.1 hR.1.2 (hnw _ l1) (hts _ l4) l6 hR.2, hts _ l2, hts _ l3⟩ ⟨wI_blind cx.2.2.2.2.2.2.2, r_recv cx hw hk hcl, fun U hU hW => ⟨rfl, wI_at cx hw hU hW⟩⟩ rfl hn hsz hst (lv_room hroom) hdg hfit) kk
theorem r_S_w {α β : Type} {x : Option (Int32 × St)} {h : Int32 × St → Option α} {K : α → Option β} {r : β} {y : MethodName} {bytes : ByteArray} {maxL index n : Nat} {ret : Option FieldType} {rm : Room} {As : List Value} (cx : CX w g p s m args c cc nL own) (hw : HH w g s S H locs) (hf : (x.bind h).bind K = some r) (lk : LkS own index y bytes maxL ret n) (hM : ∀ q, x = some q → Met l y (Cond.code y bytes maxL ret :: gw_tbl) rm (va_Pc As (wI w g S)) (qc_w w g q) 0 0 (aw g)) (hR : rmFit rm R maxL) (hn : As.length = n) (hsz : ls.size = nL) (hst : st0 = As.reverse ++ rest) (hroom : (rest.map fun v => v.category).sum ≤ 8) (hdg : decode cc pc = .ok (.invokestatic index, 3)) (hfit : cells + 0 ≤ R.cells ∧ slots + 0 ≤ R.slots)
    (kk : ∀ (q : Int32 × St) (H1 : Heap) (locs1 : List Loc), HH w g s (q.2) H1 locs1 → (h q).bind K = some r → W p l e R s m args below meth c H1 locs1 cells slots Q (F0 m (pc + 3) ls (.int q.1 :: rest))) : W p l e R s m args below meth c H locs cells slots Q (F0 m pc ls st0) := by
  have hts := cx.2.2.2.2.1
  obtain ⟨l1, l2, l3, l4, l5⟩ := lk
  refine r_end_w hf hw (fun q hq => va_runS (Ts := gw_tbl) ⟨cx.1, cx.2.1, cx.2.2.1, cx.2.2.2.1, hts⟩ (hM q hq) ⟨callB_of n hts (gw_inG l4) rfl hR.1.1 hR.1.2 (hts _ l3) (hts _ l1) l5 hR.2, hts _ l2⟩ ⟨wI_blind cx.2.2.2.2.2.2.2, fun U hU hW => ⟨rfl, wI_at cx hw hU hW⟩⟩ rfl hn hsz hst (lv_room hroom) hdg hfit) kk
theorem r_V_w {α β : Type} {x : Option (Int32 × St)} {h : Int32 × St → Option α} {K : α → Option β} {r : β} {y : MethodName} {bytes : ByteArray} {maxL index n : Nat} {ret : Option FieldType} {rm : Room} {As : List Value} (cx : CX w g p s m args c cc nL own) (hw : HH w g s S H locs) (hf : (x.bind h).bind K = some r) {k N : Nat} {C : String} {T : u_T} (hk : k ∈ gg_os g) (hcl : vwCl[wk_c w k]? = some (C, T, N)) (lk : LkV own index C y bytes maxL ret n) (hM : ∀ q, x = some q → Met l y (Cond.code y bytes maxL ret :: gw_tbl) rm (va_Pc (.ref (gg_o g k) :: As) (wI w g S)) (qc_w w g q) 0 0 (aw g)) (hR : rmFit rm R maxL) (hn : As.length = n) (hsz : ls.size = nL) (hst : st0 = As.reverse ++ .ref (gg_o g k) :: rest) (hroom : (rest.map fun v => v.category).sum ≤ 8) (hdg : decode cc pc = .ok (.invokevirtual index, 3)) (hfit : cells + 0 ≤ R.cells ∧ slots + 0 ≤ R.slots)
    (kk : ∀ (q : Int32 × St) (H1 : Heap) (locs1 : List Loc), HH w g s (q.2) H1 locs1 → (h q).bind K = some r → W p l e R s m args below meth c H1 locs1 cells slots Q (F0 m (pc + 3) ls (.int q.1 :: rest))) : W p l e R s m args below meth c H locs cells slots Q (F0 m pc ls st0) := by
  have hts := cx.2.2.2.2.1
  obtain ⟨l1, l2, l3, l4, l5, l6⟩ := lk
  refine r_end_w hf hw (fun q hq => va_runV (Ts := gw_tbl) ⟨cx.1, cx.2.1, cx.2.2.1, cx.2.2.2.1, hts⟩ (hM q hq) ⟨callB_of n hts (gw_inG l5) rfl hR.1.1 hR.1.2 (hts _ l4) (hts _ l1) l6 hR.2, hts _ l2, hts _ l3⟩ ⟨wI_blind cx.2.2.2.2.2.2.2, r_recv cx hw hk hcl, fun U hU hW => ⟨rfl, wI_at cx hw hU hW⟩⟩ rfl hn hsz hst (lv_room hroom) hdg hfit) kk
theorem r_SN_w {α β : Type} {x : Option (Int32 × St)} {h : Int32 × St → Option α} {K : α → Option β} {r : β} {y : MethodName} {bytes : ByteArray} {maxL index n : Nat} {ret : Option FieldType} {rm : Room} {As : List Value} (cx : CX w g p s m args c cc nL own) (hw : HH w g s S H locs) (hf : (x.bind h).bind K = some r) {host : String} (hnw : ∀ z ∈ nw_tbl, va_Nw z s) (lk : LnS own index host y bytes maxL ret n) (hM : ∀ q, x = some q → Met l y (Cond.code y bytes maxL ret :: gw_tbl) rm (va_Pc As (wI w g S)) (qc_w w g q) 0 0 (aw g)) (hR : rmFit rm R maxL) (hn : As.length = n) (hsz : ls.size = nL) (hst : st0 = As.reverse ++ rest) (hroom : (rest.map fun v => v.category).sum ≤ 8) (hdg : decode cc pc = .ok (.invokestatic index, 3)) (hfit : cells + 0 ≤ R.cells ∧ slots + 0 ≤ R.slots)
    (kk : ∀ (q : Int32 × St) (H1 : Heap) (locs1 : List Loc), HH w g s (q.2) H1 locs1 → (h q).bind K = some r → W p l e R s m args below meth c H1 locs1 cells slots Q (F0 m (pc + 3) ls (.int q.1 :: rest))) : W p l e R s m args below meth c H locs cells slots Q (F0 m pc ls st0) := by
  have hts := cx.2.2.2.2.1
  obtain ⟨l1, l2, l3, l4, l5⟩ := lk
  refine r_end_w hf hw (fun q hq => va_runSN (Ts := gw_tbl) (host := host) ⟨cx.1, cx.2.1, cx.2.2.1, cx.2.2.2.1, hts⟩ (hM q hq) ⟨va_cnB n hts (gw_inG l4) rfl hR.1.1 hR.1.2 (hnw _ l1) (hts _ l3) l5 hR.2, hts _ l2, trivial⟩ ⟨wI_blind cx.2.2.2.2.2.2.2, fun U hU hW => ⟨rfl, wI_at cx hw hU hW⟩⟩ rfl hn hsz hst (lv_room hroom) hdg hfit) kk
theorem r_VN_w {α β : Type} {x : Option (Int32 × St)} {h : Int32 × St → Option α} {K : α → Option β} {r : β} {y : MethodName} {bytes : ByteArray} {maxL index n : Nat} {ret : Option FieldType} {rm : Room} {As : List Value} (cx : CX w g p s m args c cc nL own) (hw : HH w g s S H locs) (hf : (x.bind h).bind K = some r) {host : String} {k N : Nat} {C : String} {T : u_T} (hnw : ∀ z ∈ nw_tbl, va_Nw z s) (hk : k ∈ gg_os g) (hcl : vwCl[wk_c w k]? = some (C, T, N)) (lk : LnV own index host C y bytes maxL ret n) (hM : ∀ q, x = some q → Met l y (Cond.code y bytes maxL ret :: gw_tbl) rm (va_Pc (.ref (gg_o g k) :: As) (wI w g S)) (qc_w w g q) 0 0 (aw g)) (hR : rmFit rm R maxL) (hn : As.length = n) (hsz : ls.size = nL) (hst : st0 = As.reverse ++ .ref (gg_o g k) :: rest) (hroom : (rest.map fun v => v.category).sum ≤ 8) (hdg : decode cc pc = .ok (.invokevirtual index, 3)) (hfit : cells + 0 ≤ R.cells ∧ slots + 0 ≤ R.slots)
    (kk : ∀ (q : Int32 × St) (H1 : Heap) (locs1 : List Loc), HH w g s (q.2) H1 locs1 → (h q).bind K = some r → W p l e R s m args below meth c H1 locs1 cells slots Q (F0 m (pc + 3) ls (.int q.1 :: rest))) : W p l e R s m args below meth c H locs cells slots Q (F0 m pc ls st0) := by
  have hts := cx.2.2.2.2.1
  obtain ⟨l1, l2, l3, l4, l5, l6⟩ := lk
  refine r_end_w hf hw (fun q hq => va_runVN (Ts := gw_tbl) (host := host) ⟨cx.1, cx.2.1, cx.2.2.1, cx.2.2.2.1, hts⟩ (hM q hq) ⟨va_cnB n hts (gw_inG l5) rfl hR.1.1 hR.1.2 (hnw _ l1) (hts _ l4) l6 hR.2, hts _ l2, hts _ l3⟩ ⟨wI_blind cx.2.2.2.2.2.2.2, r_recv cx hw hk hcl, fun U hU hW => ⟨rfl, wI_at cx hw hU hW⟩⟩ rfl hn hsz hst (lv_room hroom) hdg hfit) kk
theorem r_S_l {α β : Type} {x : Option (Int64)} {h : Int64 → Option α} {K : α → Option β} {r : β} {y : MethodName} {bytes : ByteArray} {maxL index n : Nat} {ret : Option FieldType} {rm : Room} {As : List Value} (cx : CX w g p s m args c cc nL own) (hw : HH w g s S H locs) (hf : (x.bind h).bind K = some r) (lk : LkS own index y bytes maxL ret n) (hM : ∀ q, x = some q → Met l y (Cond.code y bytes maxL ret :: gw_tbl) rm (va_Pc As (wI w g S)) (qc_l w g S q) 0 0 (aw g)) (hR : rmFit rm R maxL) (hn : As.length = n) (hsz : ls.size = nL) (hst : st0 = As.reverse ++ rest) (hroom : (rest.map fun v => v.category).sum ≤ 8) (hdg : decode cc pc = .ok (.invokestatic index, 3)) (hfit : cells + 0 ≤ R.cells ∧ slots + 0 ≤ R.slots)
    (kk : ∀ (q : Int64) (H1 : Heap) (locs1 : List Loc), HH w g s (S) H1 locs1 → (h q).bind K = some r → W p l e R s m args below meth c H1 locs1 cells slots Q (F0 m (pc + 3) ls (.long q :: rest))) : W p l e R s m args below meth c H locs cells slots Q (F0 m pc ls st0) := by
  have hts := cx.2.2.2.2.1
  obtain ⟨l1, l2, l3, l4, l5⟩ := lk
  refine r_end_l hf hw (fun q hq => va_runS (Ts := gw_tbl) ⟨cx.1, cx.2.1, cx.2.2.1, cx.2.2.2.1, hts⟩ (hM q hq) ⟨callB_of n hts (gw_inG l4) rfl hR.1.1 hR.1.2 (hts _ l3) (hts _ l1) l5 hR.2, hts _ l2⟩ ⟨wI_blind cx.2.2.2.2.2.2.2, fun U hU hW => ⟨rfl, wI_at cx hw hU hW⟩⟩ rfl hn hsz hst (lv_room hroom) hdg hfit) kk
theorem r_V_l {α β : Type} {x : Option (Int64)} {h : Int64 → Option α} {K : α → Option β} {r : β} {y : MethodName} {bytes : ByteArray} {maxL index n : Nat} {ret : Option FieldType} {rm : Room} {As : List Value} (cx : CX w g p s m args c cc nL own) (hw : HH w g s S H locs) (hf : (x.bind h).bind K = some r) {k N : Nat} {C : String} {T : u_T} (hk : k ∈ gg_os g) (hcl : vwCl[wk_c w k]? = some (C, T, N)) (lk : LkV own index C y bytes maxL ret n) (hM : ∀ q, x = some q → Met l y (Cond.code y bytes maxL ret :: gw_tbl) rm (va_Pc (.ref (gg_o g k) :: As) (wI w g S)) (qc_l w g S q) 0 0 (aw g)) (hR : rmFit rm R maxL) (hn : As.length = n) (hsz : ls.size = nL) (hst : st0 = As.reverse ++ .ref (gg_o g k) :: rest) (hroom : (rest.map fun v => v.category).sum ≤ 8) (hdg : decode cc pc = .ok (.invokevirtual index, 3)) (hfit : cells + 0 ≤ R.cells ∧ slots + 0 ≤ R.slots)
    (kk : ∀ (q : Int64) (H1 : Heap) (locs1 : List Loc), HH w g s (S) H1 locs1 → (h q).bind K = some r → W p l e R s m args below meth c H1 locs1 cells slots Q (F0 m (pc + 3) ls (.long q :: rest))) : W p l e R s m args below meth c H locs cells slots Q (F0 m pc ls st0) := by
  have hts := cx.2.2.2.2.1
  obtain ⟨l1, l2, l3, l4, l5, l6⟩ := lk
  refine r_end_l hf hw (fun q hq => va_runV (Ts := gw_tbl) ⟨cx.1, cx.2.1, cx.2.2.1, cx.2.2.2.1, hts⟩ (hM q hq) ⟨callB_of n hts (gw_inG l5) rfl hR.1.1 hR.1.2 (hts _ l4) (hts _ l1) l6 hR.2, hts _ l2, hts _ l3⟩ ⟨wI_blind cx.2.2.2.2.2.2.2, r_recv cx hw hk hcl, fun U hU hW => ⟨rfl, wI_at cx hw hU hW⟩⟩ rfl hn hsz hst (lv_room hroom) hdg hfit) kk
theorem r_SN_l {α β : Type} {x : Option (Int64)} {h : Int64 → Option α} {K : α → Option β} {r : β} {y : MethodName} {bytes : ByteArray} {maxL index n : Nat} {ret : Option FieldType} {rm : Room} {As : List Value} (cx : CX w g p s m args c cc nL own) (hw : HH w g s S H locs) (hf : (x.bind h).bind K = some r) {host : String} (hnw : ∀ z ∈ nw_tbl, va_Nw z s) (lk : LnS own index host y bytes maxL ret n) (hM : ∀ q, x = some q → Met l y (Cond.code y bytes maxL ret :: gw_tbl) rm (va_Pc As (wI w g S)) (qc_l w g S q) 0 0 (aw g)) (hR : rmFit rm R maxL) (hn : As.length = n) (hsz : ls.size = nL) (hst : st0 = As.reverse ++ rest) (hroom : (rest.map fun v => v.category).sum ≤ 8) (hdg : decode cc pc = .ok (.invokestatic index, 3)) (hfit : cells + 0 ≤ R.cells ∧ slots + 0 ≤ R.slots)
    (kk : ∀ (q : Int64) (H1 : Heap) (locs1 : List Loc), HH w g s (S) H1 locs1 → (h q).bind K = some r → W p l e R s m args below meth c H1 locs1 cells slots Q (F0 m (pc + 3) ls (.long q :: rest))) : W p l e R s m args below meth c H locs cells slots Q (F0 m pc ls st0) := by
  have hts := cx.2.2.2.2.1
  obtain ⟨l1, l2, l3, l4, l5⟩ := lk
  refine r_end_l hf hw (fun q hq => va_runSN (Ts := gw_tbl) (host := host) ⟨cx.1, cx.2.1, cx.2.2.1, cx.2.2.2.1, hts⟩ (hM q hq) ⟨va_cnB n hts (gw_inG l4) rfl hR.1.1 hR.1.2 (hnw _ l1) (hts _ l3) l5 hR.2, hts _ l2, trivial⟩ ⟨wI_blind cx.2.2.2.2.2.2.2, fun U hU hW => ⟨rfl, wI_at cx hw hU hW⟩⟩ rfl hn hsz hst (lv_room hroom) hdg hfit) kk
theorem r_VN_l {α β : Type} {x : Option (Int64)} {h : Int64 → Option α} {K : α → Option β} {r : β} {y : MethodName} {bytes : ByteArray} {maxL index n : Nat} {ret : Option FieldType} {rm : Room} {As : List Value} (cx : CX w g p s m args c cc nL own) (hw : HH w g s S H locs) (hf : (x.bind h).bind K = some r) {host : String} {k N : Nat} {C : String} {T : u_T} (hnw : ∀ z ∈ nw_tbl, va_Nw z s) (hk : k ∈ gg_os g) (hcl : vwCl[wk_c w k]? = some (C, T, N)) (lk : LnV own index host C y bytes maxL ret n) (hM : ∀ q, x = some q → Met l y (Cond.code y bytes maxL ret :: gw_tbl) rm (va_Pc (.ref (gg_o g k) :: As) (wI w g S)) (qc_l w g S q) 0 0 (aw g)) (hR : rmFit rm R maxL) (hn : As.length = n) (hsz : ls.size = nL) (hst : st0 = As.reverse ++ .ref (gg_o g k) :: rest) (hroom : (rest.map fun v => v.category).sum ≤ 8) (hdg : decode cc pc = .ok (.invokevirtual index, 3)) (hfit : cells + 0 ≤ R.cells ∧ slots + 0 ≤ R.slots)
    (kk : ∀ (q : Int64) (H1 : Heap) (locs1 : List Loc), HH w g s (S) H1 locs1 → (h q).bind K = some r → W p l e R s m args below meth c H1 locs1 cells slots Q (F0 m (pc + 3) ls (.long q :: rest))) : W p l e R s m args below meth c H locs cells slots Q (F0 m pc ls st0) := by
  have hts := cx.2.2.2.2.1
  obtain ⟨l1, l2, l3, l4, l5, l6⟩ := lk
  refine r_end_l hf hw (fun q hq => va_runVN (Ts := gw_tbl) (host := host) ⟨cx.1, cx.2.1, cx.2.2.1, cx.2.2.2.1, hts⟩ (hM q hq) ⟨va_cnB n hts (gw_inG l5) rfl hR.1.1 hR.1.2 (hnw _ l1) (hts _ l4) l6 hR.2, hts _ l2, hts _ l3⟩ ⟨wI_blind cx.2.2.2.2.2.2.2, r_recv cx hw hk hcl, fun U hU hW => ⟨rfl, wI_at cx hw hU hW⟩⟩ rfl hn hsz hst (lv_room hroom) hdg hfit) kk
theorem r_S_v {α β : Type} {x : Option (St)} {h : St → Option α} {K : α → Option β} {r : β} {y : MethodName} {bytes : ByteArray} {maxL index n : Nat} {ret : Option FieldType} {rm : Room} {As : List Value} (cx : CX w g p s m args c cc nL own) (hw : HH w g s S H locs) (hf : (x.bind h).bind K = some r) (lk : LkS own index y bytes maxL ret n) (hM : ∀ q, x = some q → Met l y (Cond.code y bytes maxL ret :: gw_tbl) rm (va_Pc As (wI w g S)) (qc_v w g q) 0 0 (aw g)) (hR : rmFit rm R maxL) (hn : As.length = n) (hsz : ls.size = nL) (hst : st0 = As.reverse ++ rest) (hroom : (rest.map fun v => v.category).sum ≤ 8) (hdg : decode cc pc = .ok (.invokestatic index, 3)) (hfit : cells + 0 ≤ R.cells ∧ slots + 0 ≤ R.slots)
    (kk : ∀ (q : St) (H1 : Heap) (locs1 : List Loc), HH w g s (q) H1 locs1 → (h q).bind K = some r → W p l e R s m args below meth c H1 locs1 cells slots Q (F0 m (pc + 3) ls ( rest))) : W p l e R s m args below meth c H locs cells slots Q (F0 m pc ls st0) := by
  have hts := cx.2.2.2.2.1
  obtain ⟨l1, l2, l3, l4, l5⟩ := lk
  refine r_end_v hf hw (fun q hq => va_runS (Ts := gw_tbl) ⟨cx.1, cx.2.1, cx.2.2.1, cx.2.2.2.1, hts⟩ (hM q hq) ⟨callB_of n hts (gw_inG l4) rfl hR.1.1 hR.1.2 (hts _ l3) (hts _ l1) l5 hR.2, hts _ l2⟩ ⟨wI_blind cx.2.2.2.2.2.2.2, fun U hU hW => ⟨rfl, wI_at cx hw hU hW⟩⟩ rfl hn hsz hst (lv_room hroom) hdg hfit) kk
theorem r_V_v {α β : Type} {x : Option (St)} {h : St → Option α} {K : α → Option β} {r : β} {y : MethodName} {bytes : ByteArray} {maxL index n : Nat} {ret : Option FieldType} {rm : Room} {As : List Value} (cx : CX w g p s m args c cc nL own) (hw : HH w g s S H locs) (hf : (x.bind h).bind K = some r) {k N : Nat} {C : String} {T : u_T} (hk : k ∈ gg_os g) (hcl : vwCl[wk_c w k]? = some (C, T, N)) (lk : LkV own index C y bytes maxL ret n) (hM : ∀ q, x = some q → Met l y (Cond.code y bytes maxL ret :: gw_tbl) rm (va_Pc (.ref (gg_o g k) :: As) (wI w g S)) (qc_v w g q) 0 0 (aw g)) (hR : rmFit rm R maxL) (hn : As.length = n) (hsz : ls.size = nL) (hst : st0 = As.reverse ++ .ref (gg_o g k) :: rest) (hroom : (rest.map fun v => v.category).sum ≤ 8) (hdg : decode cc pc = .ok (.invokevirtual index, 3)) (hfit : cells + 0 ≤ R.cells ∧ slots + 0 ≤ R.slots)
    (kk : ∀ (q : St) (H1 : Heap) (locs1 : List Loc), HH w g s (q) H1 locs1 → (h q).bind K = some r → W p l e R s m args below meth c H1 locs1 cells slots Q (F0 m (pc + 3) ls ( rest))) : W p l e R s m args below meth c H locs cells slots Q (F0 m pc ls st0) := by
  have hts := cx.2.2.2.2.1
  obtain ⟨l1, l2, l3, l4, l5, l6⟩ := lk
  refine r_end_v hf hw (fun q hq => va_runV (Ts := gw_tbl) ⟨cx.1, cx.2.1, cx.2.2.1, cx.2.2.2.1, hts⟩ (hM q hq) ⟨callB_of n hts (gw_inG l5) rfl hR.1.1 hR.1.2 (hts _ l4) (hts _ l1) l6 hR.2, hts _ l2, hts _ l3⟩ ⟨wI_blind cx.2.2.2.2.2.2.2, r_recv cx hw hk hcl, fun U hU hW => ⟨rfl, wI_at cx hw hU hW⟩⟩ rfl hn hsz hst (lv_room hroom) hdg hfit) kk
theorem r_SN_v {α β : Type} {x : Option (St)} {h : St → Option α} {K : α → Option β} {r : β} {y : MethodName} {bytes : ByteArray} {maxL index n : Nat} {ret : Option FieldType} {rm : Room} {As : List Value} (cx : CX w g p s m args c cc nL own) (hw : HH w g s S H locs) (hf : (x.bind h).bind K = some r) {host : String} (hnw : ∀ z ∈ nw_tbl, va_Nw z s) (lk : LnS own index host y bytes maxL ret n) (hM : ∀ q, x = some q → Met l y (Cond.code y bytes maxL ret :: gw_tbl) rm (va_Pc As (wI w g S)) (qc_v w g q) 0 0 (aw g)) (hR : rmFit rm R maxL) (hn : As.length = n) (hsz : ls.size = nL) (hst : st0 = As.reverse ++ rest) (hroom : (rest.map fun v => v.category).sum ≤ 8) (hdg : decode cc pc = .ok (.invokestatic index, 3)) (hfit : cells + 0 ≤ R.cells ∧ slots + 0 ≤ R.slots)
    (kk : ∀ (q : St) (H1 : Heap) (locs1 : List Loc), HH w g s (q) H1 locs1 → (h q).bind K = some r → W p l e R s m args below meth c H1 locs1 cells slots Q (F0 m (pc + 3) ls ( rest))) : W p l e R s m args below meth c H locs cells slots Q (F0 m pc ls st0) := by
  have hts := cx.2.2.2.2.1
  obtain ⟨l1, l2, l3, l4, l5⟩ := lk
  refine r_end_v hf hw (fun q hq => va_runSN (Ts := gw_tbl) (host := host) ⟨cx.1, cx.2.1, cx.2.2.1, cx.2.2.2.1, hts⟩ (hM q hq) ⟨va_cnB n hts (gw_inG l4) rfl hR.1.1 hR.1.2 (hnw _ l1) (hts _ l3) l5 hR.2, hts _ l2, trivial⟩ ⟨wI_blind cx.2.2.2.2.2.2.2, fun U hU hW => ⟨rfl, wI_at cx hw hU hW⟩⟩ rfl hn hsz hst (lv_room hroom) hdg hfit) kk
theorem r_VN_v {α β : Type} {x : Option (St)} {h : St → Option α} {K : α → Option β} {r : β} {y : MethodName} {bytes : ByteArray} {maxL index n : Nat} {ret : Option FieldType} {rm : Room} {As : List Value} (cx : CX w g p s m args c cc nL own) (hw : HH w g s S H locs) (hf : (x.bind h).bind K = some r) {host : String} {k N : Nat} {C : String} {T : u_T} (hnw : ∀ z ∈ nw_tbl, va_Nw z s) (hk : k ∈ gg_os g) (hcl : vwCl[wk_c w k]? = some (C, T, N)) (lk : LnV own index host C y bytes maxL ret n) (hM : ∀ q, x = some q → Met l y (Cond.code y bytes maxL ret :: gw_tbl) rm (va_Pc (.ref (gg_o g k) :: As) (wI w g S)) (qc_v w g q) 0 0 (aw g)) (hR : rmFit rm R maxL) (hn : As.length = n) (hsz : ls.size = nL) (hst : st0 = As.reverse ++ .ref (gg_o g k) :: rest) (hroom : (rest.map fun v => v.category).sum ≤ 8) (hdg : decode cc pc = .ok (.invokevirtual index, 3)) (hfit : cells + 0 ≤ R.cells ∧ slots + 0 ≤ R.slots)
    (kk : ∀ (q : St) (H1 : Heap) (locs1 : List Loc), HH w g s (q) H1 locs1 → (h q).bind K = some r → W p l e R s m args below meth c H1 locs1 cells slots Q (F0 m (pc + 3) ls ( rest))) : W p l e R s m args below meth c H locs cells slots Q (F0 m pc ls st0) := by
  have hts := cx.2.2.2.2.1
  obtain ⟨l1, l2, l3, l4, l5, l6⟩ := lk
  refine r_end_v hf hw (fun q hq => va_runVN (Ts := gw_tbl) (host := host) ⟨cx.1, cx.2.1, cx.2.2.1, cx.2.2.2.1, hts⟩ (hM q hq) ⟨va_cnB n hts (gw_inG l5) rfl hR.1.1 hR.1.2 (hnw _ l1) (hts _ l4) l6 hR.2, hts _ l2, hts _ l3⟩ ⟨wI_blind cx.2.2.2.2.2.2.2, r_recv cx hw hk hcl, fun U hU hW => ⟨rfl, wI_at cx hw hU hW⟩⟩ rfl hn hsz hst (lv_room hroom) hdg hfit) kk
/-! ends -/
theorem r_iret {q r0 : Int32} (cx : CX w g p s m args c cc nL own) (hw : HH w g s S H locs) (hr : meth.sig.returnType = some .int) (hlocks : meth.locks = false) (hf : (some q : Option Int32).bind some = some r0) (hdg : decode cc pc = .ok (.ireturn, 1)) : W p l e R s m args below meth c H locs cells slots (MQ below (qc_i w g S r0) args s cells slots (aw g)) (F0 m pc ls [.int q]) := by
  obtain rfl : q = r0 := Option.some.inj hf
  exact W.iret cx.1 cx.2.1 hr (fun t ht hW => ⟨⟨q, (), rfl, rfl, wI_at cx hw ht hW⟩, hw.2.F ht⟩) hw.2.2.2 hdg hlocks
theorem r_iretw {q : Int32} {r0 : Int32 × St} (cx : CX w g p s m args c cc nL own) (hw : HH w g s S H locs) (hr : meth.sig.returnType = some .int) (hlocks : meth.locks = false) (hf : (some (q, S) : Option (Int32 × St)).bind some = some r0) (hdg : decode cc pc = .ok (.ireturn, 1)) : W p l e R s m args below meth c H locs cells slots (MQ below (qc_w w g r0) args s cells slots (aw g)) (F0 m pc ls [.int q]) := by
  obtain rfl : (q, S) = r0 := Option.some.inj hf
  exact W.iret cx.1 cx.2.1 hr (fun t ht hW => ⟨⟨q, (), rfl, rfl, wI_at cx hw ht hW⟩, hw.2.F ht⟩) hw.2.2.2 hdg hlocks
theorem n_bool {q : Int32} (h : isb q) : narrow .boolean (.int q) = .int q := by
  rcases h with rfl | rfl
  · rfl
  · rfl
theorem r_zret {q r0 : Int32} (cx : CX w g p s m args c cc nL own) (hw : HH w g s S H locs) (hr : meth.sig.returnType = some .boolean) (hlocks : meth.locks = false) (hz : isb q) (hf : (some q : Option Int32).bind some = some r0) (hdg : decode cc pc = .ok (.ireturn, 1)) : W p l e R s m args below meth c H locs cells slots (MQ below (qc_i w g S r0) args s cells slots (aw g)) (F0 m pc ls [.int q]) := by
  obtain rfl : q = r0 := Option.some.inj hf
  exact W.zret cx.1 cx.2.1 hr (n_bool hz) (fun t ht hW => ⟨⟨q, (), rfl, rfl, wI_at cx hw ht hW⟩, hw.2.F ht⟩) hw.2.2.2 hdg hlocks
theorem r_zretw {q : Int32} {r0 : Int32 × St} (cx : CX w g p s m args c cc nL own) (hw : HH w g s S H locs) (hr : meth.sig.returnType = some .boolean) (hlocks : meth.locks = false) (hz : isb q) (hf : (some (q, S) : Option (Int32 × St)).bind some = some r0) (hdg : decode cc pc = .ok (.ireturn, 1)) : W p l e R s m args below meth c H locs cells slots (MQ below (qc_w w g r0) args s cells slots (aw g)) (F0 m pc ls [.int q]) := by
  obtain rfl : (q, S) = r0 := Option.some.inj hf
  exact W.zret cx.1 cx.2.1 hr (n_bool hz) (fun t ht hW => ⟨⟨q, (), rfl, rfl, wI_at cx hw ht hW⟩, hw.2.F ht⟩) hw.2.2.2 hdg hlocks
theorem r_lret {q r0 : Int64} (cx : CX w g p s m args c cc nL own) (hw : HH w g s S H locs) (hr : meth.sig.returnType = some .long) (hlocks : meth.locks = false) (hf : (some q : Option Int64).bind some = some r0) (hdg : decode cc pc = .ok (.lreturn, 1)) : W p l e R s m args below meth c H locs cells slots (MQ below (qc_l w g S r0) args s cells slots (aw g)) (F0 m pc ls [.long q]) := by
  obtain rfl : q = r0 := Option.some.inj hf
  exact W.lret cx.1 cx.2.1 hr (fun t ht hW => ⟨⟨q, (), rfl, rfl, wI_at cx hw ht hW⟩, hw.2.F ht⟩) hw.2.2.2 hdg hlocks
theorem r_vret {r0 : St} (cx : CX w g p s m args c cc nL own) (hw : HH w g s S H locs) (hr : meth.sig.returnType = none) (hlocks : meth.locks = false) (hf : (some S : Option St).bind some = some r0) (hdg : decode cc pc = .ok (.return_, 1)) : W p l e R s m args below meth c H locs cells slots (MQ below (qc_v w g r0) args s cells slots (aw g)) (F0 m pc ls []) := by
  obtain rfl : S = r0 := Option.some.inj hf
  exact W.vret cx.1 cx.2.1 hr (fun t ht hW => ⟨⟨(), rfl, trivial, wI_at cx hw ht hW⟩, hw.2.F ht⟩) hw.2.2.2 hdg hlocks
end CW
/-- a method's beginning -/
theorem mt_start {w : WD} {g : GG} {l : Launch} {y : MethodName} {cc : ByteArray} {maxL : Nat} {ret : Option FieldType} {rm : Room} {av : List Value} {S : St} {Qc : Array Value → State → Outcome → State → Prop} {own : String} (hg : gd w g) (hy : plainName y.cls = true) (hown : y.cls = own) (hlen : (lg_sl av).length ≤ maxL)
    (body : ∀ (p : Program) (e : Env) (s : State) (m : MethodId) (args : Array Value) (below : List Frame) (meth : Method) (c : Code) (ls : Array Slot), CX w g p s m args c cc maxL own → HH w g s S s.heap [] → meth.sig.returnType = ret → meth.locks = false → lv_has ls maxL (lv_args 0 av) → W p l e rm s m args below meth c s.heap [] 0 0 (MQ below Qc args s 0 0 (aw g)) (F0 m 0 ls [])) :
    Met l y (Cond.code y cc maxL ret :: gw_tbl) rm (va_Pc av (wI w g S)) Qc 0 0 (aw g) := by
  refine Met.ofW (cc := cc) (maxL := maxL) (ret := ret) hy rfl ?_
  intro p e s m args below meth c s₁ B hml hv
  obtain ⟨rfl, hP, hK, hs⟩ := hv
  have hts := atoms_spec (ws := Cond.code y cc maxL ret :: gw_tbl) B.pre
  have hl := lv_entry av hlen
  rw [lg_entry_eq]
  exact body p e s m _ below meth c _ ⟨B.exec, B.bytes, hml, by rw [← hown]; exact findClass_of_methodNamed B.named, fun z hz => hts z (List.mem_cons_of_mem _ hz), hK, hs, hg⟩ ⟨hP, va_S.rf⟩ B.returns B.notSynchronized hl
