/-! WALLS; A COPY OF A COURT; THE BEGINNING. -/
theorem wall_b : ∀ i < 8, ∀ a < 256, nI a &&& (((1 : Int32) <<< (nI i &&& 31)) ^^^ (-1 : Int32)) = nI (a &&& (255 ^^^ 2 ^ i)) := by decide +kernel
theorem wall_t : ∀ i < 8, ∀ j < 8, (255 ^^^ 2 ^ i).testBit j = decide (j ≠ i) := by decide +kernel
theorem pow_t : ∀ i < 8, ∀ j < 8, (2 ^ i).testBit j = decide (j = i) := by decide +kernel
theorem wall_bs {n i : Nat} (hn : n ≤ 8) (hi : i < n) (p : Nat → Bool) (b : Bool) : (bs n p &&& (255 ^^^ 2 ^ i)) ||| (if b then 2 ^ i else 0) = bs n (fun j => if j = i then b else p j) := by
  apply Nat.eq_of_testBit_eq
  intro j
  rw [Nat.testBit_or, Nat.testBit_and, bs_bit, bs_bit]
  by_cases hj : j < n
  · rw [wall_t i (by omega) j (by omega)]
    cases b
    · by_cases c : j = i <;> simp [hj, c]
    · have := pow_t i (by omega) j (by omega)
      by_cases c : j = i <;> simp [hj, hi, c, this]
  · have hz : (if b then 2 ^ i else 0 : Nat).testBit j = false := by
      cases b
      · simp
      · rw [if_pos rfl]
        apply Nat.testBit_lt_two_pow
        exact Nat.pow_lt_pow_right (by decide) (by omega)
    rw [hz]
    simp [hj]
theorem C_putWall {k kt : Nat} {S : St} {T : TX} {X : CT} (hT : tC kt S T) (h : cC k kt S T X) {m : Nat} (hm : m < tn T 3) (b : Bool) : ∃ S', f_X0_putWall k S (nI m) (if b then 1 else 0) = some S' ∧ tC kt S' T ∧ cC k kt S' T (x_wall X m b) ∧ on (kC k kt) S S' := by
  have hk := h.2.1
  have h1 := h.1.1
  have h6 := hT.1.2.2.1
  have h8 := hT.1.2.2.2.1
  have L6 : wk_n wd_C (ky k 6) = 300 := lnC hk (by decide) rfl
  have g0 := (h.2.2.2.2.1 (cn X) (Nat.le_refl _)).2.2
  have hb : bs (tn T 3) (cw X (cn X)) < 256 := Nat.lt_of_lt_of_le (bs_lt _ _) (Nat.pow_le_pow_right (by decide) h8)
  have key : ∃ y : Int32, f_X0_putWall k S (nI m) (if b then 1 else 0) = f_X0_putWall_J38 k S y (nI (bs (tn T 3) (cw X (cn X)) &&& (255 ^^^ 2 ^ m))) (nI (cn X)) ∧ y = nI (if b then 2 ^ m else 0) := by
    unfold f_X0_putWall
    rw [h.2.2.2.1, at_nI L6 (by omega) (by decide), bnd, g0, lt_e, wall_b m (by omega) _ hb]
    cases b
    · exact ⟨_, if_pos rfl, rfl⟩
    · exact ⟨_, if_neg (by decide), shl_b m (by omega)⟩
  obtain ⟨y, hy, hy2⟩ := key
  have o := on_A (K := kC k kt) S (ky k 6) (upd (st_A S (ky k 6)) (cn X) (nI (bs (tn T 3) (fun j => if j = m then b else cw X (cn X) j)))) (Or.inl ⟨6, by decide, by decide, rfl⟩)
  have ne : ∀ f, f < 9 → f ≠ 6 → st_A (up_A S (ky k 6) (upd (st_A S (ky k 6)) (cn X) (nI (bs (tn T 3) (fun j => if j = m then b else cw X (cn X) j))))) (ky k f) = st_A S (ky k f) := fun f hf hn => gAn _ _ (ky_ne (by omega) (by decide) (by omega))
  refine ⟨up_A S (ky k 6) (upd (st_A S (ky k 6)) (cn X) (nI (bs (tn T 3) (fun j => if j = m then b else cw X (cn X) j)))), ?_, tC_kC hk hT o, ?_, o⟩
  · rw [hy]
    unfold f_X0_putWall_J38
    rw [hy2, nI_oN, wall_bs h8 hm, put_nI L6 (by omega) (by decide), bnd]
  · refine ⟨cb_wall h.1 m b, hk, h.2.2.1, h.2.2.2.1, fun t ht => ⟨?_, ?_, ?_⟩, fun m hm => ?_⟩
    · rw [ne 2 (by decide) (by decide), ne 3 (by decide) (by decide)]
      exact (h.2.2.2.2.1 t ht).1
    · rw [ne 4 (by decide) (by decide), ne 5 (by decide) (by decide)]
      exact (h.2.2.2.2.1 t ht).2.1
    · rw [gAs, upd_e]
      have e : cw (x_wall X m b) t = fun j => if t = cn X ∧ j = m then b else cw X t j := rfl
      rw [e]
      by_cases c : t = cn X
      · rw [if_pos c]
        have e2 : (fun j => if t = cn X ∧ j = m then b else cw X t j) = fun j => if j = m then b else cw X (cn X) j := by
          funext j
          rw [c]
          by_cases c2 : j = m
          · rw [if_pos ⟨rfl, c2⟩, if_pos c2]
          · rw [if_neg (fun q => c2 q.2), if_neg c2]
        rw [e2]
      · rw [if_neg c, (h.2.2.2.2.1 t ht).2.2]
        have e2 : (fun j => if t = cn X ∧ j = m then b else cw X t j) = cw X t := by
          funext j
          rw [if_neg (fun q => c q.1)]
        rw [e2]
    · rw [ne 7 (by decide) (by decide), ne 8 (by decide) (by decide)]
      exact h.2.2.2.2.2 m hm
theorem M_putWall {S : St} {T : TX} {X : CT} (hT : tb T) (h : cM 56 57 58 59 S T X) {m : Nat} (hm : m < tn T 3) (b : Bool) : cM 56 57 58 59 (up_A S (ky 0 56) (upd (st_A S (ky 0 56)) (36 * cn X + 20 + m) (if b then 1 else 0))) T (x_wall X m b) := by
  have h6 := hT.2.2.1
  have h8 := hT.2.2.2.1
  have ne : ∀ f, f < 100 → f ≠ 56 → st_A (up_A S (ky 0 56) (upd (st_A S (ky 0 56)) (36 * cn X + 20 + m) (if b then 1 else 0))) (ky 0 f) = st_A S (ky 0 f) := fun f hf hn => gAn _ _ (ky_ne (by omega) (by decide) (by omega))
  refine ⟨cb_wall h.1 m b, h.2.1, fun t ht => ⟨fun a ha => ⟨?_, ?_⟩, fun j hj => ⟨?_, ?_, fun q => ?_⟩⟩, fun j hj => ?_⟩
  · rw [gAs, upd_n (by omega)]
    exact ((h.2.2.1 t ht).1 a ha).1
  · rw [gAs, upd_n (by omega)]
    exact ((h.2.2.1 t ht).1 a ha).2
  · rw [gAs, upd_n (by omega)]
    exact ((h.2.2.1 t ht).2 j hj).1
  · rw [gAs, upd_e]
    show _ = if (if t = cn X ∧ j = m then b else cw X t j) = true then 1 else 0
    by_cases c : t = cn X ∧ j = m
    · rw [if_pos c, if_pos (by rw [c.1, c.2])]
    · rw [if_neg c, if_neg (fun q => c (by omega))]
      exact ((h.2.2.1 t ht).2 j hj).2.1
  · rw [gAs, upd_n (by omega)]
    exact ((h.2.2.1 t ht).2 j hj).2.2 trivial
  · rw [ne 58 (by decide) (by decide), ne 59 (by decide) (by decide)]
    exact h.2.2.2 j hj
theorem okL_cg {T : TX} {X Y : CT} (h : okL T X) (hn : cn X = cn Y) (hf : ∀ f i, cf X f (cn X) i = cf Y f (cn Y) i) : okL T Y := by
  intro m hm
  rw [← hf 3 m, ← hf 1, ← s_late_cg T X Y hn (fun f i _ => hf f i)]
  exact h m hm
/-- what a court's object is -/
def kF (k : Nat) : Nat → Prop := fun q => ∃ f, f < 9 ∧ q = ky k f
theorem copy_0 {k k2 N n : Nat} (S : St) (h1 : wk_n wd_C k = N) (h2 : wk_n wd_C k2 = N) (hN : N < 2 ^ 31) (hn : n ≤ N) : f_X5_copy k k2 S (0 : Int32) (0 : Int32) (nI n) = some (up_A S k2 (va_cpy (st_A S k) (st_A S k2) 0 0 n)) := copy_nI (sp := 0) (dp := 0) h1 h2 hN (by omega) (by omega)
theorem copy_ex {k k2 N n : Nat} (S : St) (h1 : wk_n wd_C k = N) (h2 : wk_n wd_C k2 = N) (hN : N < 2 ^ 31) (hn : n ≤ N) : ∃ S', f_X5_copy k k2 S (0 : Int32) (0 : Int32) (nI n) = some S' ∧ (∀ j, j < n → st_A S' k2 j = st_A S k j) ∧ (∀ q, ¬ q = k2 → st_A S' q = st_A S q) ∧ st_I S' = st_I S ∧ st_P S' = st_P S ∧ on (fun q => q = k2) S S' := by
  refine ⟨_, copy_0 S h1 h2 hN hn, fun j hj => ?_, fun q hq => gAn _ _ hq, rfl, rfl, on_A _ _ _ rfl⟩
  rw [gAs, pk_cpy_in (by omega) (by omega), Nat.sub_zero, Nat.zero_add]
theorem C_copyOf {p : Nat → Nat → Prop} {k k1 kt : Nat} {S : St} {T : TX} {X : CT} (hne : k ≠ k1) (hk : cl_C k = 0) (hT : tC kt S T) (h : cCp p k1 kt S T X) : ∃ S', f_X0_copyOf k k1 S = some S' ∧ cCp p k kt S' T X ∧ on (kF k) S S' := by
  have h1 := h.1.1
  have hk1 := h.2.1
  have e1 : (nI (cn X) + (1 : Int32)) * (6 : Int32) = nI ((cn X + 1) * 6) := by rw [nI_1]; exact pk_mul _ 6
  have e2 : (nI (cn X) + (1 : Int32)) * (8 : Int32) = nI ((cn X + 1) * 8) := by rw [nI_1]; exact pk_mul _ 8
  have e3 : nI (cn X) + (1 : Int32) = nI (cn X + 1) := nI_1 _
  have LC : ∀ c, cl_C c = 0 → wk_n wd_C (ky c 2) = 1800 ∧ wk_n wd_C (ky c 3) = 1800 ∧ wk_n wd_C (ky c 4) = 2400 ∧ wk_n wd_C (ky c 5) = 2400 ∧ wk_n wd_C (ky c 6) = 300 ∧ wk_n wd_C (ky c 7) = 8 ∧ wk_n wd_C (ky c 8) = 8 := fun c hc => ⟨lnC hc (by decide) rfl, lnC hc (by decide) rfl, lnC hc (by decide) rfl, lnC hc (by decide) rfl, lnC hc (by decide) rfl, lnC hc (by decide) rfl, lnC hc (by decide) rfl⟩
  obtain ⟨a2, a3, a4, a5, a6, a7, a8⟩ := LC k hk
  obtain ⟨b2, b3, b4, b5, b6, b7, b8⟩ := LC k1 hk1
  have o0 : on (kF k) S (up_I (up_P S (ky k 0) kt) (ky k 1) (nI (cn X))) := fun q hq => ⟨gIn _ _ (fun e => hq ⟨1, by decide, e⟩), rfl, rfl, rfl, (gP_I ..).trans (gPn _ _ (fun e => hq ⟨0, by decide, e⟩))⟩
  have hP0 : st_P (up_I (up_P S (ky k 0) kt) (ky k 1) (nI (cn X))) (ky k 0) = kt := gPs ..
  have hI0 : st_I (up_I (up_P S (ky k 0) kt) (ky k 1) (nI (cn X))) (ky k 1) = nI (cn X) := gIs ..
  have hA0 : st_A (up_I (up_P S (ky k 0) kt) (ky k 1) (nI (cn X))) = st_A S := rfl
  have hs1 : st_I (up_P S (ky k 0) kt) (ky k1 1) = nI (cn X) := h.2.2.2.1
  generalize hS1 : up_I (up_P S (ky k 0) kt) (ky k 1) (nI (cn X)) = S1 at o0 hP0 hI0 hA0
  obtain ⟨S2, w2, r2, n2, i2, p2, o2⟩ := copy_ex (n := (cn X + 1) * 6) S1 b2 a2 (by decide) (by omega)
  obtain ⟨S3, w3, r3, n3, i3, p3, o3⟩ := copy_ex (n := (cn X + 1) * 6) S2 b3 a3 (by decide) (by omega)
  obtain ⟨S4, w4, r4, n4, i4, p4, o4⟩ := copy_ex (n := (cn X + 1) * 8) S3 b4 a4 (by decide) (by omega)
  obtain ⟨S5, w5, r5, n5, i5, p5, o5⟩ := copy_ex (n := (cn X + 1) * 8) S4 b5 a5 (by decide) (by omega)
  obtain ⟨S6, w6, r6, n6, i6, p6, o6⟩ := copy_ex (n := cn X + 1) S5 b6 a6 (by decide) (by omega)
  obtain ⟨S7, w7, r7, n7, i7, p7, o7⟩ := copy_ex (n := 8) S6 b7 a7 (by decide) (by omega)
  obtain ⟨S8, w8, r8, n8, i8, p8, o8⟩ := copy_ex (n := 8) S7 b8 a8 (by decide) (by omega)
  have mono : ∀ f, f < 9 → ∀ {A B : St}, on (fun q => q = ky k f) A B → on (kF k) A B := fun f hf A B => on_mono (fun q e => ⟨f, hf, e⟩)
  refine ⟨S8, ?_, ?_, on_trans o0 (on_trans (mono 2 (by decide) o2) (on_trans (mono 3 (by decide) o3) (on_trans (mono 4 (by decide) o4) (on_trans (mono 5 (by decide) o5) (on_trans (mono 6 (by decide) o6) (on_trans (mono 7 (by decide) o7) (mono 8 (by decide) o8)))))))⟩
  · unfold f_X0_copyOf
    rw [h.2.2.1, chk_t hT.2.1, lt_e, hs1, lt_e, hS1, h.2.2.2.1, e1, e2, e3, w2, bnd, w3, bnd, w4, bnd, w5, bnd, w6, bnd]
    change (f_X5_copy (ky k1 7) (ky k 7) S6 (0 : Int32) (0 : Int32) (nI 8)).bind _ = _
    rw [w7, bnd]
    change (f_X5_copy (ky k1 8) (ky k 8) S7 (0 : Int32) (0 : Int32) (nI 8)).bind _ = _
    rw [w8, bnd]
  · have nk : ∀ a b, a < 9 → b < 9 → ¬ ky k1 a = ky k b := fun a b ha hb => ky_ne (by omega) (by omega) (fun q => hne q.1.symm)
    have nn : ∀ a b, a < 9 → b < 9 → a ≠ b → ¬ ky k a = ky k b := fun a b ha hb hab => ky_ne (by omega) (by omega) (fun q => hab q.2)
    refine cC_cg hT.1 h hk (by rw [p8, p7, p6, p5, p4, p3, p2, hP0]) (by rw [i8, i7, i6, i5, i4, i3, i2, hI0]) (fun j hj => ?_) (fun j hj => ?_) (fun j hj => ?_) (fun j hj => ?_) (fun j hj => ?_) (fun j hj => ?_) (fun j hj => ?_)
    · rw [n8 _ (nn 2 8 (by decide) (by decide) (by decide)), n7 _ (nn 2 7 (by decide) (by decide) (by decide)), n6 _ (nn 2 6 (by decide) (by decide) (by decide)), n5 _ (nn 2 5 (by decide) (by decide) (by decide)), n4 _ (nn 2 4 (by decide) (by decide) (by decide)), n3 _ (nn 2 3 (by decide) (by decide) (by decide)), r2 j (by omega), hA0]
    · rw [n8 _ (nn 3 8 (by decide) (by decide) (by decide)), n7 _ (nn 3 7 (by decide) (by decide) (by decide)), n6 _ (nn 3 6 (by decide) (by decide) (by decide)), n5 _ (nn 3 5 (by decide) (by decide) (by decide)), n4 _ (nn 3 4 (by decide) (by decide) (by decide)), r3 j (by omega), n2 _ (nk 3 2 (by decide) (by decide)), hA0]
    · rw [n8 _ (nn 4 8 (by decide) (by decide) (by decide)), n7 _ (nn 4 7 (by decide) (by decide) (by decide)), n6 _ (nn 4 6 (by decide) (by decide) (by decide)), n5 _ (nn 4 5 (by decide) (by decide) (by decide)), r4 j (by omega), n3 _ (nk 4 3 (by decide) (by decide)), n2 _ (nk 4 2 (by decide) (by decide)), hA0]
    · rw [n8 _ (nn 5 8 (by decide) (by decide) (by decide)), n7 _ (nn 5 7 (by decide) (by decide) (by decide)), n6 _ (nn 5 6 (by decide) (by decide) (by decide)), r5 j (by omega), n4 _ (nk 5 4 (by decide) (by decide)), n3 _ (nk 5 3 (by decide) (by decide)), n2 _ (nk 5 2 (by decide) (by decide)), hA0]
    · rw [n8 _ (nn 6 8 (by decide) (by decide) (by decide)), n7 _ (nn 6 7 (by decide) (by decide) (by decide)), r6 j (by omega), n5 _ (nk 6 5 (by decide) (by decide)), n4 _ (nk 6 4 (by decide) (by decide)), n3 _ (nk 6 3 (by decide) (by decide)), n2 _ (nk 6 2 (by decide) (by decide)), hA0]
    · rw [n8 _ (nn 7 8 (by decide) (by decide) (by decide)), r7 j (by omega), n6 _ (nk 7 6 (by decide) (by decide)), n5 _ (nk 7 5 (by decide) (by decide)), n4 _ (nk 7 4 (by decide) (by decide)), n3 _ (nk 7 3 (by decide) (by decide)), n2 _ (nk 7 2 (by decide) (by decide)), hA0]
    · rw [r8 j (by omega), n7 _ (nk 8 7 (by decide) (by decide)), n6 _ (nk 8 6 (by decide) (by decide)), n5 _ (nk 8 5 (by decide) (by decide)), n4 _ (nk 8 4 (by decide) (by decide)), n3 _ (nk 8 3 (by decide) (by decide)), n2 _ (nk 8 2 (by decide) (by decide)), hA0]
