/-! Further rows: names for values, shifts, the static array, strings, arraycopy. -/
abbrev i_ushr (x y : Int32) : Int32 := (x.toUInt32 >>> (y.toUInt32 &&& Int32.toUInt32 31)).toInt32
abbrev i_rem (x y : Int32) : Int32 := x - x / y * y
abbrev i_max (x y : Int32) : Int32 := if x < y then y else x
abbrev i_min (x y : Int32) : Int32 := if y < x then y else x
abbrev cpok (sp dp n : Int32) (n0 n1 : Nat) : Prop := ¬ sp < 0 ∧ ¬ dp < 0 ∧ ¬ n < 0 ∧ sp.toNatClampNeg + n.toNatClampNeg ≤ n0 ∧ dp.toNatClampNeg + n.toNatClampNeg ≤ n1
theorem ts_out {x : Int32} {lo hi : Int} (h0 : -2147483648 ≤ lo) (h1 : hi < 2147483648) (h : ∀ i : Int, lo ≤ i → i ≤ hi → ¬ x = Int32.ofInt i) : x.toInt < lo ∨ hi < x.toInt := by
  by_cases a : x.toInt < lo
  · exact Or.inl a
  · by_cases b : hi < x.toInt
    · exact Or.inr b
    · exact absurd (Int32.ofInt_toInt x).symm (h x.toInt (by omega) (by omega))
section MW
variable {w : WD} {g : GG} {p : Program} {l : Launch} {e : Env} {R : Room} {s : State} {m : MethodId} {args : Array Value} {below : List Frame} {meth : Method} {c : Code} {H : Heap} {locs : List Loc} {cells slots : Nat} {Q : State → Prop}
variable {cc : ByteArray} {nL pc : Nat} {own : String} {ls : Array Slot} {rest : List Value} {S : St}
theorem r_leti {α β : Type} {v : Int32} {A : Int32 → Option α} {K : α → Option β} {r : β} (hf : (lt_v v A).bind K = some r) (kk : ∀ z : Int32, (A z).bind K = some r → W p l e R s m args below meth c H locs cells slots Q (F0 m pc ls (.int z :: rest))) : W p l e R s m args below meth c H locs cells slots Q (F0 m pc ls (.int v :: rest)) := kk v hf
theorem st_Z (cx : CX wd_C g p s m args c cc nL own) : va_Z RX3 "MOST" "[I" (.ref (gg_t g)) (aw g) s s.heap := cx.2.2.2.2.2.2.1.2.1
theorem st_R (cx : CX wd_C g p s m args c cc nL own) (i : Nat) {q : Nat × String × List Int32} (h : so_C[i]? = some q) : vk_R RX3 q.1 q.2.1 (gg_k g i) s := cx.2.2.2.2.2.2.1.2.2.2.2.2 i q h
theorem r_tald {α β : Type} {A : Option α} {K : α → Option β} {r : β} (cx : CX wd_C g p s m args c cc nL own) (hw : HH wd_C g s S H locs) {i : Int32} (hf : (chk (ib i 8) A).bind K = some r) (hdg : decode cc pc = .ok (.iaload, 1))
    (kk : A.bind K = some r → W p l e R s m args below meth c H locs cells slots Q (F0 m (pc + 1) ls (.int (mo_C.getD i.toNatClampNeg 0) :: rest))) : W p l e R s m args below meth c H locs cells slots Q (F0 m pc ls (.int i :: .ref (gg_t g) :: rest)) := by
  obtain ⟨hc, hf⟩ := h_chk hf
  exact va_ti cx.1 cx.2.1 cx.2.2.2.2.2.2.1.2.2.1 hw.2 (vp_in_iff.mpr hc) rfl hdg (kk hf)
theorem r_tlen (cx : CX wd_C g p s m args c cc nL own) (hw : HH wd_C g s S H locs) (hdg : decode cc pc = .ok (.arraylength, 1))
    (kk : W p l e R s m args below meth c H locs cells slots Q (F0 m (pc + 1) ls (.int 8 :: rest))) : W p l e R s m args below meth c H locs cells slots Q (F0 m pc ls (.ref (gg_t g) :: rest)) := va_tlen cx.1 cx.2.1 cx.2.2.2.2.2.2.1.2.2.1 hw.2 rfl hdg kk
theorem r_copyi {α β : Type} {A : St → Option α} {K : α → Option β} {r : β} (cx : CX w g p s m args c cc nL own) (hw : HH w g s S H locs) (hls : ls.size = nL) {k0 k1 n0 n1 index : Nat} (hk0 : k0 ∈ gg_as g) (hk1 : k1 ∈ gg_as g) (ht0 : wk_t w k0 = .int) (ht1 : wk_t w k1 = .int) (hn0 : wk_n w k0 = n0) (hn1 : wk_n w k1 = n1) {sp dp n : Int32}
    (hf : (chk (cpok sp dp n n0 n1) (lt_v (up_A S k1 (va_cpy (st_A S k0) (st_A S k1) sp.toNatClampNeg dp.toNatClampNeg n.toNatClampNeg)) A)).bind K = some r) (hlink : Cond.methodLink own index arraycopyName ∈ gw_tbl) (hnat : Cond.native arraycopyName ∈ gw_tbl) (hstat : Cond.static arraycopyName ∈ gw_tbl) (hini : Cond.initialized "java/lang/System" ∈ gw_tbl)
    (hframes : 1 ≤ R.frames) (hlocals : (rest.map fun v => v.category).sum + (nativeFrameWords "java/lang/System" "arraycopy" 5 + 11) ≤ R.locals) (hdg : decode cc pc = .ok (.invokestatic index, 3))
    (kk : ∀ (S1 : St) (H1 : Heap) (locs1 : List Loc), HH w g s S1 H1 locs1 → (A S1).bind K = some r → W p l e R s m args below meth c H1 locs1 cells slots Q (F0 m (pc + 3) ls rest)) : W p l e R s m args below meth c H locs cells slots Q (F0 m pc ls (.int n :: .int dp :: .ref (gg_a g k1) :: .int sp :: .ref (gg_a g k0) :: rest)) := by
  obtain ⟨hc, hf⟩ := h_chk hf
  obtain ⟨j0, hj0, a1, a2⟩ := wl_a (w := w) (g := g) S hk0
  obtain ⟨j1, hj1, b1, b2⟩ := wl_a (w := w) (g := g) S hk1
  rw [ht0] at a2
  rw [ht1] at b2
  obtain ⟨hx, hb, hml, hown, hts, hK, -, -, hnd, hD, -⟩ := cx
  refine va_copyi hx hb (hml.trans hls.symm) hown (hts _ hlink) (hts _ hnat) (hts _ hstat) (hts _ hini) hK hw.1 (hD S) hw.2 _ _ _ _ a1 b1 a2 b2 rfl hc.1 hc.2.1 hc.2.2.1 (by rw [hn0]; exact hc.2.2.2.1) (by rw [hn1]; exact hc.2.2.2.2) (fun _ _ => rfl) hframes hlocals hdg (fun H1 locs1 e1 _ e3 => ?_)
  rw [set_a hnd.2.1 hj1] at e1
  exact kk _ H1 locs1 ⟨e1, e3⟩ hf
end MW
