/-! Further rows: names for values, shifts, the static array, strings, arraycopy. -/
abbrev i_ushr (x y : Int32) : Int32 := (x.toUInt32 >>> (y.toUInt32 &&& Int32.toUInt32 31)).toInt32
abbrev i_rem (x y : Int32) : Int32 := x - x / y * y
abbrev i_max (x y : Int32) : Int32 := if x < y then y else x
abbrev i_min (x y : Int32) : Int32 := if y < x then y else x
abbrev cpok (sp dp n : Int32) (n0 n1 : Nat) : Prop := ¬ sp < 0 ∧ ¬ dp < 0 ∧ ¬ n < 0 ∧ sp.toNatClampNeg + n.toNatClampNeg ≤ n0 ∧ dp.toNatClampNeg + n.toNatClampNeg ≤ n1
theorem ts_out {x : Int32} {lo hi : Int} (h0 : -2147483648 ≤ lo) (h1 : hi < 2147483648) (h : ∀ i : Int, lo ≤ i → i ≤ hi → ¬ x = Int32.ofInt i) : x.toInt < lo ∨ hi < x.toInt := by
  by_cases a : x.toInt < lo
  · exact Or.inl a
  · by_cases b : hi < x.toInt
    · exact Or.inr b
    · exact absurd (Int32.ofInt_toInt x).symm (h x.toInt (by omega) (by omega))
theorem h_none {α β : Type} {K : α → Option β} {r : β} {P : Prop} (h : (none : Option α).bind K = some r) : P := by cases h
abbrev isc (v : Int32) : Prop := v.toUInt32.toUInt16.toUInt32.toInt32 = v
theorem n_char {q : Int32} (h : isc q) : narrow .char (.int q) = .int q := by
  show Value.int (q.toUInt32.toUInt16.toUInt32.toInt32) = _
  rw [h]
section MW
variable {w : WD} {g : GG} {p : Program} {l : Launch} {e : Env} {R : Room} {s : State} {m : MethodId} {args : Array Value} {below : List Frame} {meth : Method} {c : Code} {H : Heap} {locs : List Loc} {cells slots : Nat} {Q : State → Prop}
variable {cc : ByteArray} {nL pc : Nat} {own : String} {ls : Array Slot} {rest : List Value} {S : St}
theorem r_leti {α β : Type} {v : Int32} {A : Int32 → Option α} {K : α → Option β} {r : β} (hf : (lt_v v A).bind K = some r) (kk : ∀ z : Int32, (A z).bind K = some r → W p l e R s m args below meth c H locs cells slots Q (F0 m pc ls (.int z :: rest))) : W p l e R s m args below meth c H locs cells slots Q (F0 m pc ls (.int v :: rest)) := kk v hf
theorem st_Z (cx : CX wd_C g p s m args c cc nL own) : va_Z RX3 "MOST" "[I" (.ref (gg_t g)) (aw g) s s.heap := cx.2.2.2.2.2.2.1.2.1
theorem st_R (cx : CX wd_C g p s m args c cc nL own) (i : Nat) {q : Nat × String × List Int32} (h : so_C[i]? = some q) : vk_R RX3 q.1 q.2.1 (gg_k g i) s := cx.2.2.2.2.2.2.1.2.2.2.2.2.1 i q h
theorem r_tald {α β : Type} {A : Option α} {K : α → Option β} {r : β} (cx : CX wd_C g p s m args c cc nL own) (hw : HH wd_C g s S H locs) {i : Int32} (hf : (chk (ib i 8) A).bind K = some r) (hdg : decode cc pc = .ok (.iaload, 1))
    (kk : A.bind K = some r → W p l e R s m args below meth c H locs cells slots Q (F0 m (pc + 1) ls (.int (mo_C.getD i.toNatClampNeg 0) :: rest))) : W p l e R s m args below meth c H locs cells slots Q (F0 m pc ls (.int i :: .ref (gg_t g) :: rest)) := by
  obtain ⟨hc, hf⟩ := h_chk hf
  exact va_ti cx.1 cx.2.1 cx.2.2.2.2.2.2.1.2.2.1 hw.2 (vp_in_iff.mpr hc) rfl hdg (kk hf)
theorem r_tlen (cx : CX wd_C g p s m args c cc nL own) (hw : HH wd_C g s S H locs) (hdg : decode cc pc = .ok (.arraylength, 1))
    (kk : W p l e R s m args below meth c H locs cells slots Q (F0 m (pc + 1) ls (.int 8 :: rest))) : W p l e R s m args below meth c H locs cells slots Q (F0 m pc ls (.ref (gg_t g) :: rest)) := va_tlen cx.1 cx.2.1 cx.2.2.2.2.2.2.1.2.2.1 hw.2 rfl hdg kk
theorem r_copyi {α β : Type} {A : St → Option α} {K : α → Option β} {r : β} (cx : CX w g p s m args c cc nL own) (hw : HH w g s S H locs) (hls : ls.size = nL) {k0 k1 n0 n1 index : Nat} (hk0 : k0 ∈ gg_as g) (hk1 : k1 ∈ gg_as g) (ht0 : wk_t w k0 = .int) (ht1 : wk_t w k1 = .int) (hn0 : wk_n w k0 = n0) (hn1 : wk_n w k1 = n1) {sp dp n : Int32}
    (hf : (chk (cpok sp dp n n0 n1) (lt_v (up_A S k1 (va_cpy (st_A S k0) (st_A S k1) sp.toNatClampNeg dp.toNatClampNeg n.toNatClampNeg)) A)).bind K = some r) (hlink : Cond.methodLink own index arraycopyName ∈ gw_tbl) (hnat : Cond.native arraycopyName ∈ gw_tbl) (hstat : Cond.static arraycopyName ∈ gw_tbl) (hini : Cond.initialized "java/lang/System" ∈ gw_tbl)
    (hframes : 1 ≤ R.frames) (hlocals : (rest.map fun v => v.category).sum + (nativeFrameWords "java/lang/System" "arraycopy" 5 + 11) ≤ R.locals) (hdg : decode cc pc = .ok (.invokestatic index, 3))
    (kk : ∀ (S1 : St) (H1 : Heap) (locs1 : List Loc), HH w g s S1 H1 locs1 → (A S1).bind K = some r → W p l e R s m args below meth c H1 locs1 cells slots Q (F0 m (pc + 3) ls rest)) : W p l e R s m args below meth c H locs cells slots Q (F0 m pc ls (.int n :: .int dp :: .ref (gg_a g k1) :: .int sp :: .ref (gg_a g k0) :: rest)) := by
  obtain ⟨hc, hf⟩ := h_chk hf
  obtain ⟨j0, hj0, a1, a2⟩ := wl_a (w := w) (g := g) S hk0
  obtain ⟨j1, hj1, b1, b2⟩ := wl_a (w := w) (g := g) S hk1
  rw [ht0] at a2
  rw [ht1] at b2
  obtain ⟨hx, hb, hml, hown, hts, hK, -, -, hnd, hD, -⟩ := cx
  refine va_copyi hx hb (hml.trans hls.symm) hown (hts _ hlink) (hts _ hnat) (hts _ hstat) (hts _ hini) hK hw.1 (hD S) hw.2 _ _ _ _ a1 b1 a2 b2 rfl hc.1 hc.2.1 hc.2.2.1 (by rw [hn0]; exact hc.2.2.2.1) (by rw [hn1]; exact hc.2.2.2.2) (fun _ _ => rfl) hframes hlocals hdg (fun H1 locs1 e1 _ e3 => ?_)
  rw [set_a hnd.2.1 hj1] at e1
  exact kk _ H1 locs1 ⟨e1, e3⟩ hf
theorem st_E (cx : CX wd_C g p s m args c cc nL own) : vk_S 9 sl_C sb_C (gg_k g) (gg_v g) (aw g) s s.heap := cx.2.2.2.2.2.2.1.2.2.2.2.1
theorem st_c (cx : CX wd_C g p s m args c cc nL own) : va_Z "java/lang/String" "COMPACT_STRINGS" "Z" (.int 1) (aw g) s s.heap := cx.2.2.2.2.2.2.1.2.2.2.1
theorem st_q (cx : CX wd_C g p s m args c cc nL own) : va_Zq "jdk/internal/util/Preconditions" "SIOOBE_FORMATTER" "Ljava/util/function/BiFunction;" (aw g) s s.heap := cx.2.2.2.2.2.2.1.2.2.2.2.2.2
theorem r_sval (cx : CX wd_C g p s m args c cc nL "java/lang/String") (hw : HH wd_C g s S H locs) {k : Nat} (hk : k < 9) (hdg : decode cc pc = .ok (.getfield 9, 3))
    (kk : W p l e R s m args below meth c H locs cells slots Q (F0 m (pc + 3) ls (.ref (gg_v g k) :: rest))) : W p l e R s m args below meth c H locs cells slots Q (F0 m pc ls (.ref (gg_k g k) :: rest)) :=
  vk_getf cx.1 cx.2.1 ((st_E cx).1 k hk).2.2.1 hw.2 cx.2.2.2.1 (cx.2.2.2.2.1 _ wd_1770) (fun _ h => h) hdg kk
theorem r_scod (cx : CX wd_C g p s m args c cc nL "java/lang/String") (hw : HH wd_C g s S H locs) {k : Nat} (hk : k < 9) (hdg : decode cc pc = .ok (.getfield 15, 3))
    (kk : W p l e R s m args below meth c H locs cells slots Q (F0 m (pc + 3) ls (.int 0 :: rest))) : W p l e R s m args below meth c H locs cells slots Q (F0 m pc ls (.ref (gg_k g k) :: rest)) :=
  vk_getf cx.1 cx.2.1 ((st_E cx).1 k hk).2.1 hw.2 cx.2.2.2.1 (cx.2.2.2.2.1 _ wd_1771) (fun _ h => h) hdg kk
theorem r_slen (cx : CX wd_C g p s m args c cc nL own) (hw : HH wd_C g s S H locs) {k : Nat} (hk : k < 9) (hdg : decode cc pc = .ok (.arraylength, 1))
    (kk : W p l e R s m args below meth c H locs cells slots Q (F0 m (pc + 1) ls (.int (Int32.ofNat (sl_C.getD k 0)) :: rest))) : W p l e R s m args below meth c H locs cells slots Q (F0 m pc ls (.ref (gg_v g k) :: rest)) :=
  va_tlen cx.1 cx.2.1 ((st_E cx).1 k hk).2.2.2 hw.2 rfl hdg kk
theorem r_sld {α β : Type} {A : Option α} {K : α → Option β} {r : β} (cx : CX wd_C g p s m args c cc nL own) (hw : HH wd_C g s S H locs) {k : Nat} (hk : k < 9) {i : Int32} (hf : (chk (ib i (sl_C.getD k 0)) A).bind K = some r) (hdg : decode cc pc = .ok (.baload, 1))
    (kk : A.bind K = some r → W p l e R s m args below meth c H locs cells slots Q (F0 m (pc + 1) ls (.int ((sb_C.getD k []).getD i.toNatClampNeg 0) :: rest))) : W p l e R s m args below meth c H locs cells slots Q (F0 m pc ls (.int i :: .ref (gg_v g k) :: rest)) := by
  obtain ⟨hc, hf⟩ := h_chk hf
  exact va_tb cx.1 cx.2.1 ((st_E cx).1 k hk).2.2.2 hw.2 (vp_in_iff.mpr hc) rfl hdg (kk hf)
theorem r_srecv (cx : CX wd_C g p s m args c cc nL own) (hw : HH wd_C g s S H locs) {k : Nat} (hk : k < 9) : ∃ cell : Cell, H[gg_k g k]? = some cell ∧ cell.vm.isStatics = false ∧ s.vm.findClass "java/lang/String" = some cell.cls := vk_recv (st_E cx) hk hw.2
/-- a call whose answer is known beforehand -/
theorem r_VRc {v : Int32} {y : MethodName} {bytes : ByteArray} {maxL index n b : Nat} {ret : Option FieldType} {rm : Room} {As st0 : List Value} {C : String} (cx : CX w g p s m args c cc nL own) (hw : HH w g s S H locs) (hrecv : ∃ cell : Cell, H[b]? = some cell ∧ cell.vm.isStatics = false ∧ s.vm.findClass C = some cell.cls) (lk : LkV own index C y bytes maxL ret n) (hM : Met l y (Cond.code y bytes maxL ret :: gw_tbl) rm (va_Pc (.ref b :: As) (wI w g S)) (qc_i w g S v) 0 0 (aw g)) (hR : rmFit rm R maxL) (hn : As.length = n) (hsz : ls.size = nL) (hst : st0 = As.reverse ++ .ref b :: rest) (hroom : (rest.map fun v => v.category).sum ≤ 8) (hdg : decode cc pc = .ok (.invokevirtual index, 3)) (hfit : cells + 0 ≤ R.cells ∧ slots + 0 ≤ R.slots)
    (kk : ∀ (H1 : Heap) (locs1 : List Loc), HH w g s S H1 locs1 → W p l e R s m args below meth c H1 locs1 cells slots Q (F0 m (pc + 3) ls (.int v :: rest))) : W p l e R s m args below meth c H locs cells slots Q (F0 m pc ls st0) :=
  r_VR_i (x := some v) (h := fun q => if q = v then some () else none) (K := some) (r := ()) cx hw (by simp) hrecv lk (fun q hq => by obtain rfl := Option.some.inj hq; exact hM) hR hn hsz hst hroom hdg hfit (fun q H1 locs1 hw1 hq => by
    by_cases hqv : q = v
    · subst hqv
      exact kk H1 locs1 hw1
    · rw [if_neg hqv] at hq
      cases hq)
end MW
