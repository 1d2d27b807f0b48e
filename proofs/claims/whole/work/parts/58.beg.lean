/-! THE BEGINNING, both sides. -/
theorem copy_2 {k k2 N M sp dp n : Nat} {S : St} (h1 : wk_n wd_C k = N) (h2 : wk_n wd_C k2 = M) (hN : N < 2 ^ 31) (hM : M < 2 ^ 31) (hs : sp + n ≤ N) (hd : dp + n ≤ M) : f_X5_copy k k2 S (nI sp) (nI dp) (nI n) = some (up_A S k2 (va_cpy (st_A S k) (st_A S k2) sp dp n)) := by
  have e : Int32.ofNat N - nI n = nI (N - n) := pk_sub (by omega)
  have e' : Int32.ofNat M - nI n = nI (M - n) := pk_sub (by omega)
  unfold f_X5_copy
  rw [h1, h2, if_neg (nI_pos (by omega)), if_neg (nI_pos (by omega)), if_pos (nI_pos' (by omega)), e, e']
  have q1 : ¬ nI (N - n) < nI sp := fun q => Int32.not_le.mpr q (nI_le (by omega) (by omega))
  have q2 : ¬ nI (M - n) < nI dp := fun q => Int32.not_le.mpr q (nI_le (by omega) (by omega))
  have c1 := nI_clamp (n := sp) (by omega)
  have c2 := nI_clamp (n := dp) (by omega)
  have c3 := nI_clamp (n := n) (by omega)
  have g : cpok (nI sp) (nI dp) (nI n) N M := ⟨nI_pos (by omega), nI_pos (by omega), nI_pos (by omega), by rw [c1, c3]; exact hs, by rw [c2, c3]; exact hd⟩
  rw [if_neg q1, if_neg q2, chk_t g, lt_e, c1, c2, c3]
theorem copy_ex2 {k k2 N M n : Nat} (S : St) (h1 : wk_n wd_C k = N) (h2 : wk_n wd_C k2 = M) (hN : N < 2 ^ 31) (hM : M < 2 ^ 31) (hn : n ≤ N) (hm : n ≤ M) : ∃ S', f_X5_copy k k2 S (0 : Int32) (0 : Int32) (nI n) = some S' ∧ (∀ j, j < n → st_A S' k2 j = st_A S k j) ∧ (∀ q, ¬ q = k2 → st_A S' q = st_A S q) ∧ st_I S' = st_I S ∧ st_P S' = st_P S ∧ on (fun q => q = k2) S S' := by
  refine ⟨up_A S k2 (va_cpy (st_A S k) (st_A S k2) 0 0 n), copy_2 (sp := 0) (dp := 0) h1 h2 hN hM (by omega) (by omega), fun j hj => ?_, fun q hq => gAn _ _ hq, rfl, rfl, on_A _ _ _ rfl⟩
  rw [gAs, pk_cpy_in (by omega) (by omega), Nat.sub_zero, Nat.zero_add]
def kB (k kt : Nat) : Nat → Prop := fun q => kF k q ∨ kL kt q
theorem tC_kB {k kt : Nat} {S S' : St} {T : TX} (hk : cl_C k = 0) (h : tC kt S T) (o : on (kB k kt) S S') : tC kt S' T := by
  have h2 := h.2.1
  have key : ∀ c f, (c = kt ∨ c = kt + 2) → f < 13 → (c = kt + 2 → f < 3) → ¬ kB k kt (ky c f) := by
    rintro c f hc hf hf3 (⟨g, hg, e⟩ | e | e)
    · have := (ky_iff (by omega) (by omega)).mp e
      rw [← this.1] at hk
      rcases hc with rfl | rfl <;> rcases h2 with rfl | rfl <;> cases hk
    · have := (ky_iff (by omega) (by omega)).mp e
      rcases hc with rfl | rfl
      · omega
      · have := hf3 rfl
        omega
    · have := (ky_iff (by omega) (by omega)).mp e
      rcases hc with rfl | rfl
      · omega
      · have := hf3 rfl
        omega
  exact tC_on h o (fun f hf => key kt f (Or.inl rfl) hf (fun e => by omega)) (fun f hf => key (kt + 2) f (Or.inr rfl) (by omega) (fun _ => hf))
theorem kC_B {k kt : Nat} (q : Nat) (h : kC k kt q) : kB k kt q := by
  rcases h with ⟨f, h1, h2, h3⟩ | h
  · exact Or.inl ⟨f, h1, h3⟩
  · exact Or.inr h
theorem kF_B {k kt : Nat} (q : Nat) (h : kF k q) : kB k kt q := Or.inl h
theorem C_begin {k kt : Nat} {S : St} {T : TX} (hk : cl_C k = 0) (hT : tC kt S T) : ∃ S', f_X0_begin k kt S = some S' ∧ tC kt S' T ∧ cC k kt S' T (x_lat T (x_beg0 T)) ∧ on (kB k kt) S S' := by
  have h2 := hT.2.1
  have h6 := hT.1.2.2.1
  have h8 := hT.1.2.2.2.1
  have hkt : cl_C kt = 4 := kt_cl hT
  have hne : k ≠ kt := by
    rintro rfl
    rw [hk] at hkt
    cases hkt
  have a2 : wk_n wd_C (ky k 2) = 1800 := lnC hk (by decide) rfl
  have a3 : wk_n wd_C (ky k 3) = 1800 := lnC hk (by decide) rfl
  have a4 : wk_n wd_C (ky k 4) = 2400 := lnC hk (by decide) rfl
  have a6 : wk_n wd_C (ky k 6) = 300 := lnC hk (by decide) rfl
  have a7 : wk_n wd_C (ky k 7) = 8 := lnC hk (by decide) rfl
  have a8 : wk_n wd_C (ky k 8) = 8 := lnC hk (by decide) rfl
  have b9 : wk_n wd_C (ky kt 9) = 6 := lnC hkt (by decide) rfl
  have b8 : wk_n wd_C (ky kt 8) = 6 := lnC hkt (by decide) rfl
  have b11 : wk_n wd_C (ky kt 11) = 8 := lnC hkt (by decide) rfl
  have o0 : on (kF k) S (up_I (up_P S (ky k 0) kt) (ky k 1) (0 : Int32)) := fun q hq => ⟨gIn _ _ (fun e => hq ⟨1, by decide, e⟩), rfl, rfl, rfl, (gP_I ..).trans (gPn _ _ (fun e => hq ⟨0, by decide, e⟩))⟩
  have hP0 : st_P (up_I (up_P S (ky k 0) kt) (ky k 1) (0 : Int32)) (ky k 0) = kt := gPs ..
  have hI0 : st_I (up_I (up_P S (ky k 0) kt) (ky k 1) (0 : Int32)) (ky k 1) = 0 := gIs ..
  have hA0 : st_A (up_I (up_P S (ky k 0) kt) (ky k 1) (0 : Int32)) = st_A S := rfl
  generalize hS1 : up_I (up_P S (ky k 0) kt) (ky k 1) (0 : Int32) = S1 at o0 hP0 hI0 hA0
  obtain ⟨S2, w2, r2, n2, i2, p2, o2⟩ := copy_ex2 (n := 6) S1 b9 a2 (by decide) (by decide) (by omega) (by omega)
  obtain ⟨S3, w3, r3, n3, i3, p3, o3⟩ := copy_ex2 (n := 6) S2 b8 a3 (by decide) (by decide) (by omega) (by omega)
  obtain ⟨S4, w4, r4, n4, i4, p4, o4⟩ := copy_ex2 (n := 8) S3 b11 a4 (by decide) (by decide) (by omega) (by omega)
  have w5 : f_X5_put (ky k 6) S4 (0 : Int32) (0 : Int32) = some (up_A S4 (ky k 6) (upd (st_A S4 (ky k 6)) 0 0)) := put_nI (i := 0) a6 (by decide) (by decide)
  have o5 := on_A (K := kF k) S4 (ky k 6) (upd (st_A S4 (ky k 6)) 0 0) ⟨6, by decide, rfl⟩
  have r5 : st_A (up_A S4 (ky k 6) (upd (st_A S4 (ky k 6)) 0 0)) (ky k 6) 0 = 0 := by rw [gAs, upd_s]
  have n5 : ∀ q, ¬ q = ky k 6 → st_A (up_A S4 (ky k 6) (upd (st_A S4 (ky k 6)) 0 0)) q = st_A S4 q := fun q hq => gAn _ _ hq
  have i5 : st_I (up_A S4 (ky k 6) (upd (st_A S4 (ky k 6)) 0 0)) = st_I S4 := rfl
  have p5 : st_P (up_A S4 (ky k 6) (upd (st_A S4 (ky k 6)) 0 0)) = st_P S4 := rfl
  generalize up_A S4 (ky k 6) (upd (st_A S4 (ky k 6)) 0 0) = S5 at w5 o5 r5 n5 i5 p5
  have nn : ∀ a b, a < 9 → b < 9 → a ≠ b → ¬ ky k a = ky k b := fun a b ha hb hab => ky_ne (by omega) (by omega) (fun q => hab q.2)
  have nt : ∀ a b, a < 13 → b < 9 → ¬ ky kt a = ky k b := fun a b ha hb => ky_ne (by omega) (by omega) (fun q => hne q.1.symm)
  obtain ⟨S6, w6, o6, n6, r7, r8⟩ := loop_P (step := f_X0_begin_L66 k kt) S5 8 (fun z => z) (fun i z => on (fun q => q = ky k 7 ∨ q = ky k 8) S5 z ∧ (∀ q, ¬ q = ky k 7 → ¬ q = ky k 8 → st_A z q = st_A S5 q) ∧ (∀ m, m < i → st_A z (ky k 7) m = 100000) ∧ ∀ m, m < i → st_A z (ky k 8) m = -2) (by decide) ⟨on_refl _ _, fun q _ _ => rfl, fun m hm => absurd hm (Nat.not_lt_zero _), fun m hm => absurd hm (Nat.not_lt_zero _)⟩ (fun i z hi hz => by
    obtain ⟨zo, zn, z7, z8⟩ := hz
    refine ⟨up_A (up_A z (ky k 7) (upd (st_A z (ky k 7)) i 100000)) (ky k 8) (upd (st_A z (ky k 8)) i (-2)), ?_, on_trans zo (on_trans (on_A _ _ _ (Or.inl rfl)) (on_A _ _ _ (Or.inr rfl))), fun q q1 q2 => ?_, fun m hm => ?_, fun m hm => ?_⟩
    · unfold f_X0_begin_L66
      rw [if_neg (show ¬ (8 : Int32) ≤ nI i from nI_ge (b := 8) hi (by decide)), put_nI a7 hi (by decide), bnd, put_nI a8 hi (by decide), bnd, gAn _ _ (nn 8 7 (by decide) (by decide) (by decide)), ← nI_succ]
    · rw [gAn _ _ q2, gAn _ _ q1]
      exact zn q q1 q2
    · rw [gAn _ _ (nn 7 8 (by decide) (by decide) (by decide)), gAs, upd_e]
      by_cases c : m = i
      · rw [if_pos c]
      · rw [if_neg c]
        exact z7 m (by omega)
    · rw [gAs, upd_e]
      by_cases c : m = i
      · rw [if_pos c]
      · rw [if_neg c]
        exact z8 m (by omega)) (fun z hz => by
    unfold f_X0_begin_L66
    rw [if_pos (show (8 : Int32) ≤ nI 8 from nI_le (Nat.le_refl 8) (by decide))])
  have mono : ∀ f, f < 9 → ∀ {A B : St}, on (fun q => q = ky k f) A B → on (kF k) A B := fun f hf A B => on_mono (fun q e => ⟨f, hf, e⟩)
  have o6' : on (kF k) S5 S6 := on_mono (fun q e => by
    rcases e with e | e
    · exact ⟨7, by decide, e⟩
    · exact ⟨8, by decide, e⟩) o6
  have oA : on (kF k) S S6 := on_trans o0 (on_trans (mono 2 (by decide) o2) (on_trans (mono 3 (by decide) o3) (on_trans (mono 4 (by decide) o4) (on_trans o5 o6'))))
  have n6' : ∀ f, f < 7 → st_A S6 (ky k f) = st_A S5 (ky k f) := fun f hf => n6 _ (nn f 7 (by omega) (by decide) (by omega)) (nn f 8 (by omega) (by decide) (by omega))
  have oI : st_I S6 (ky k 1) = st_I S5 (ky k 1) := (o6 _ (fun e => by
    rcases e with e | e
    · exact nn 1 7 (by decide) (by decide) (by decide) e
    · exact nn 1 8 (by decide) (by decide) (by decide) e)).1
  have oP : st_P S6 (ky k 0) = st_P S5 (ky k 0) := (o6 _ (fun e => by
    rcases e with e | e
    · exact nn 0 7 (by decide) (by decide) (by decide) e
    · exact nn 0 8 (by decide) (by decide) (by decide) e)).2.2.2.2
  have C6 : cCp (fun t _ => t < cn (x_beg0 T)) k kt S6 T (x_beg0 T) := by
    refine ⟨cb_beg0 hT.1, hk, by rw [oP, p5, p4, p3, p2, hP0], by rw [oI, i5, i4, i3, i2, hI0]; rfl, fun t ht => ?_, fun m hm => ?_⟩
    · have t0 : t = 0 := Nat.le_zero.mp ht
      subst t0
      refine ⟨fun a ha => ⟨?_, ?_⟩, fun m hm => ⟨?_, fun q => absurd q (Nat.lt_irrefl _)⟩, ?_⟩
      · rw [n6' 2 (by decide), n5 _ (nn 2 6 (by decide) (by decide) (by decide)), n4 _ (nn 2 4 (by decide) (by decide) (by decide)), n3 _ (nn 2 3 (by decide) (by decide) (by decide)), r2 _ (by omega), hA0, Nat.zero_mul, Nat.zero_add, (hT.2.2.2.2.1 a ha).2]
        rfl
      · rw [n6' 3 (by decide), n5 _ (nn 3 6 (by decide) (by decide) (by decide)), n4 _ (nn 3 4 (by decide) (by decide) (by decide)), r3 _ (by omega), n2 _ (nt 8 2 (by decide) (by decide)), hA0, Nat.zero_mul, Nat.zero_add, (hT.2.2.2.2.1 a ha).1]
        rfl
      · rw [n6' 4 (by decide), n5 _ (nn 4 6 (by decide) (by decide) (by decide)), r4 _ (by omega), n3 _ (nt 11 3 (by decide) (by decide)), n2 _ (nt 11 2 (by decide) (by decide)), hA0, Nat.zero_mul, Nat.zero_add, (hT.2.2.2.2.2.1 m hm).1]
        rfl
      · rw [n6' 6 (by decide), r5]
        have : ∀ n, bs n (cw (x_beg0 T) 0) = 0 := by
          intro n
          induction n with
          | zero => rfl
          | succ n ih =>
            rw [bs, ih]
            rfl
        rw [this]
        rfl
    · rw [r7 m (by omega), r8 m (by omega)]
      exact ⟨rfl, fun q => absurd rfl q⟩
  obtain ⟨S7, w7, T7, C7, o7⟩ := C_lat (tC_kB hk hT (on_mono kF_B oA)) C6
  refine ⟨S7, ?_, T7, C7, on_trans (on_mono kF_B oA) (on_mono kC_B o7)⟩
  unfold f_X0_begin
  rw [lt_e, lt_e, hS1]
  change (f_X5_copy (ky kt 9) (ky k 2) S1 (0 : Int32) (0 : Int32) (nI 6)).bind _ = _
  rw [w2, bnd]
  change (f_X5_copy (ky kt 8) (ky k 3) S2 (0 : Int32) (0 : Int32) (nI 6)).bind _ = _
  rw [w3, bnd]
  change (f_X5_copy (ky kt 11) (ky k 4) S3 (0 : Int32) (0 : Int32) (nI 8)).bind _ = _
  rw [w4, bnd, w5, bnd, w6, bnd, w7, bnd]
abbrev fsB : List Nat := [49, 50, 51, 56, 57, 58, 59, 60]
theorem fsC_B (q : Nat) (h : kM fsC q) : kM fsB q := by
  obtain ⟨f, hf, e⟩ := h
  exact ⟨f, (by decide : ∀ f ∈ fsC, f ∈ fsB) f hf, e⟩
theorem fsW_B (q : Nat) (h : kM fsW q) : kM fsB q := by
  obtain ⟨f, hf, e⟩ := h
  exact ⟨f, (by decide : ∀ f ∈ fsW, f ∈ fsB) f hf, e⟩
theorem i6s (s m : Nat) : (6 : Int32) * nI s + nI m = nI (6 * s + m) := by rw [show (6 : Int32) = nI 6 from rfl, pk_mul, nI_add]
theorem i8s (s m : Nat) : (8 : Int32) * nI s + nI m = nI (8 * s + m) := i8 s m
abbrev fsX : List Nat := [56, 58, 59]
theorem fsX_W (q : Nat) (h : kM fsX q) : kM fsW q := by
  obtain ⟨f, hf, e⟩ := h
  exact ⟨f, (by decide : ∀ f ∈ fsX, f ∈ fsW) f hf, e⟩
theorem M_beginsWith {s : Nat} {S : St} {T : TX} {x1 x2 : Int32} {X0 : CT} (hT : tM s S T) (hc : cb T X0) (hn : cn X0 = 0) (hr : ∀ i, i < tn T 2 → (if nI i = x1 then x2 else nI (tf T 3 i)) = nI (cf X0 0 0 i)) (h1 : ∀ i, i < tn T 2 → cf X0 1 0 i = tf T 2 i) (h2 : ∀ m, m < tn T 3 → cf X0 2 0 m = tf T 4 m) (hw : ∀ m, cw X0 0 m = false) (hk : ∀ m, ck X0 m = none) : ∃ S', f_X6_beginsWith S x1 x2 = some S' ∧ tM s S' T ∧ cM 56 57 58 59 S' T (x_lat T X0) ∧ st_I S' (ky 0 60) = nI (tn T 5) ∧ on (kM fsB) S S' := by
  have h6 := hT.1.2.2.1
  have h8 := hT.1.2.2.2.1
  have hs := hT.2.1
  have o0 := on_I (K := kM fsW) S (ky 0 57) (0 : Int32) ⟨57, by decide, rfl⟩
  have hI0 : st_I (up_I S (ky 0 57) (0 : Int32)) (ky 0 57) = 0 := gIs ..
  generalize hS0 : up_I S (ky 0 57) (0 : Int32) = S0 at o0 hI0
  have w1 := fill_loop (step := f_X6_beginsWith_L7 x1 x2) S0 (ky 0 56) 0 36 0 (fun _ => 0) (fun z => z) (by decide) (by decide) (fun i A q1 q2 hA => by
    unfold f_X6_beginsWith_L7
    rw [if_neg (show ¬ (36 : Int32) ≤ nI i from nI_ge (b := 36) q2 (by decide)), chk_t (ib_nI (by omega) (by decide)), nI_clamp (by omega), lt_e, upA_upA, gAs, ← nI_succ, Nat.zero_add]) (fun A => by
    unfold f_X6_beginsWith_L7
    rw [if_pos (show (36 : Int32) ≤ nI 36 from nI_le (Nat.le_refl 36) (by decide))])
  have o1 : on (kM fsX) S0 (up_A S0 (ky 0 56) (fun j => if 0 + 0 ≤ j ∧ j < 0 + 36 then 0 else st_A S0 (ky 0 56) j)) := on_A S0 _ _ ⟨56, by decide, rfl⟩
  have a1 : ∀ j, j < 36 → st_A (up_A S0 (ky 0 56) (fun j => if 0 + 0 ≤ j ∧ j < 0 + 36 then 0 else st_A S0 (ky 0 56) j)) (ky 0 56) j = 0 := fun j hj => by
    rw [gAs, if_pos (by omega)]
  generalize up_A S0 (ky 0 56) (fun j => if 0 + 0 ≤ j ∧ j < 0 + 36 then 0 else st_A S0 (ky 0 56) j) = S1 at w1 o1 a1
  obtain ⟨S2, w2, o2, q0, q1, qz⟩ := loop_P (step := f_X6_beginsWith_L28 x1 x2) S1 (tn T 2) (fun z => z) (fun i z => on (kM fsX) S1 z ∧ (∀ a, a < i → st_A z (ky 0 56) a = nI (cf X0 0 0 a)) ∧ (∀ a, a < i → st_A z (ky 0 56) (6 + a) = nI (tf T 2 a)) ∧ ∀ j, 12 ≤ j → j < 36 → st_A z (ky 0 56) j = 0) (by omega) ⟨on_refl _ _, fun a ha => absurd ha (Nat.not_lt_zero _), fun a ha => absurd ha (Nat.not_lt_zero _), fun j _ hj => a1 j hj⟩ (fun i z hi hz => by
    obtain ⟨zo, z0, z1, zz⟩ := hz
    have zT := tM_fs (by decide) hT (on_trans o0 (on_mono fsX_W (on_trans o1 zo)))
    obtain ⟨l1, l2⟩ := tM_live zT
    have t29 := (zT.2.2.2.2.2.1 i hi)
    refine ⟨up_A (up_A z (ky 0 56) (upd (st_A z (ky 0 56)) i (nI (cf X0 0 0 i)))) (ky 0 56) (upd (upd (st_A z (ky 0 56)) i (nI (cf X0 0 0 i))) (6 + i) (nI (tf T 2 i))), ?_, on_trans zo (on_trans (on_A _ _ _ ⟨56, by decide, rfl⟩) (on_A _ _ _ ⟨56, by decide, rfl⟩)), fun a ha => ?_, fun a ha => ?_, fun j j1 j2 => ?_⟩
    · have J : ∀ y : Int32, y = nI (cf X0 0 0 i) → f_X6_beginsWith_J69 z x1 x2 (nI i) y (nI i) = some (.inl (nI (i + 1), up_A (up_A z (ky 0 56) (upd (st_A z (ky 0 56)) i (nI (cf X0 0 0 i)))) (ky 0 56) (upd (upd (st_A z (ky 0 56)) i (nI (cf X0 0 0 i))) (6 + i) (nI (tf T 2 i))))) := by
        intro y hy
        have e6 : (6 : Int32) + nI i = nI (6 + i) := nI_add 6 i
        unfold f_X6_beginsWith_J69
        rw [hy, chk_t (ib_nI (by omega) (by decide)), nI_clamp (by omega), lt_e, gI_A, zT.2.2.1, i6s, chk_t (ib_nI (by omega) (by decide)), e6, chk_t (ib_nI (by omega) (by decide)), nI_clamp (by omega), nI_clamp (by omega), lt_e, gAs, gAn _ _ (ky_ne (by decide) (by decide) (by decide)), t29.1, ← nI_succ]
      unfold f_X6_beginsWith_L28
      rw [chk_t l1, l2, zT.2.2.2.1.2.2.1, if_neg (show ¬ nI (tn T 2) ≤ nI i from nI_ge hi (by omega))]
      have hri := hr i hi
      by_cases c : nI i = x1
      · rw [if_pos c] at hri
        rw [if_pos c]
        exact J x2 hri
      · rw [if_neg c] at hri
        rw [if_neg c, zT.2.2.1, i6s, chk_t (ib_nI (by omega) (by decide)), nI_clamp (by omega), t29.2]
        exact J _ hri
    · rw [gAs, upd_e, if_neg (by omega), upd_e]
      by_cases c : a = i
      · rw [if_pos c, c]
      · rw [if_neg c]
        exact z0 a (by omega)
    · rw [gAs, upd_e]
      by_cases c : 6 + a = 6 + i
      · rw [if_pos c, show a = i by omega]
      · rw [if_neg c, upd_n (by omega)]
        exact z1 a (by omega)
    · rw [gAs, upd_n (by omega), upd_n (by omega)]
      exact zz j j1 j2) (fun z hz => by
    obtain ⟨zo, z0, z1, zz⟩ := hz
    have zT := tM_fs (by decide) hT (on_trans o0 (on_mono fsX_W (on_trans o1 zo)))
    obtain ⟨l1, l2⟩ := tM_live zT
    unfold f_X6_beginsWith_L28
    rw [chk_t l1, l2, zT.2.2.2.1.2.2.1, if_pos (show nI (tn T 2) ≤ nI (tn T 2) from nI_le (Nat.le_refl _) (by omega))])
  have o02 := on_trans o0 (on_mono fsX_W (on_trans o1 o2))
  obtain ⟨S3, w3, o3, k0, kh, kz, kb⟩ := loop_P (step := f_X6_beginsWith_L101) S2 8 (fun z => z) (fun i z => on (kM fsX) S2 z ∧ (∀ j, j < 12 → st_A z (ky 0 56) j = st_A S2 (ky 0 56) j) ∧ (∀ m, m < i → st_A z (ky 0 56) (12 + m) = st_A S (ky 0 32) (8 * s + m)) ∧ (∀ j, 20 ≤ j → j < 36 → st_A z (ky 0 56) j = 0) ∧ ∀ m, m < i → st_A z (ky 0 58) m = -1) (by decide) ⟨on_refl _ _, fun j _ => rfl, fun a ha => absurd ha (Nat.not_lt_zero _), fun j j1 j2 => qz j (by omega) j2, fun a ha => absurd ha (Nat.not_lt_zero _)⟩ (fun i z hi hz => by
    obtain ⟨zo, z0, z1, zz, zb⟩ := hz
    have zT := tM_fs (by decide) hT (on_trans o02 (on_mono fsX_W zo))
    have e32 : st_A z (ky 0 32) = st_A S (ky 0 32) := ((on_trans o02 (on_mono fsX_W zo)) _ (kM_n (by decide) (by decide) (by decide))).2.1
    have e12 : (12 : Int32) + nI i = nI (12 + i) := nI_add 12 i
    have f1 : ∀ v w x, st_A (up_A (up_A (up_A z (ky 0 56) v) (ky 0 58) w) (ky 0 59) x) (ky 0 56) = v := fun v w x => by
      rw [gAn _ _ (ky_ne (by decide) (by decide) (by decide)), gAn _ _ (ky_ne (by decide) (by decide) (by decide)), gAs]
    refine ⟨up_A (up_A (up_A z (ky 0 56) (upd (st_A z (ky 0 56)) (12 + i) (st_A z (ky 0 32) (8 * s + i)))) (ky 0 58) (upd (st_A z (ky 0 58)) i (-1))) (ky 0 59) (upd (st_A z (ky 0 59)) i (-2)), ?_, on_trans zo (on_trans (on_A _ _ _ ⟨56, by decide, rfl⟩) (on_trans (on_A _ _ _ ⟨58, by decide, rfl⟩) (on_A _ _ _ ⟨59, by decide, rfl⟩))), fun a ha => ?_, fun m hm => ?_, fun j j1 j2 => ?_, fun m hm => ?_⟩
    · unfold f_X6_beginsWith_L101
      rw [if_neg (show ¬ (8 : Int32) ≤ nI i from nI_ge (b := 8) hi (by decide)), zT.2.2.1, i8s, chk_t (ib_nI (by omega) (by decide)), e12, chk_t (ib_nI (by omega) (by decide)), nI_clamp (by omega), nI_clamp (by omega), lt_e, chk_t (ib_nI (by omega) (by decide)), nI_clamp (by omega), lt_e, chk_t (ib_nI (by omega) (by decide)), lt_e, gAn _ _ (ky_ne (by decide) (by decide) (by decide)), gAn _ _ (ky_ne (by decide) (by decide) (by decide)), gAn _ _ (ky_ne (by decide) (by decide) (by decide)), ← nI_succ]
    · rw [f1, upd_n (by omega)]
      exact z0 a ha
    · rw [f1, upd_e]
      by_cases c : 12 + m = 12 + i
      · rw [if_pos c, e32, show m = i by omega]
      · rw [if_neg c]
        exact z1 m (by omega)
    · rw [f1, upd_n (by omega)]
      exact zz j j1 j2
    · rw [gAn _ _ (ky_ne (by decide) (by decide) (by decide)), gAs, upd_e]
      by_cases c : m = i
      · rw [if_pos c]
      · rw [if_neg c]
        exact zb m (by omega)) (fun z hz => by
    unfold f_X6_beginsWith_L101
    rw [if_pos (show (8 : Int32) ≤ nI 8 from nI_le (Nat.le_refl 8) (by decide))])
  have o03 := on_trans o02 (on_mono fsX_W o3)
  have T3 := tM_fs (by decide) hT o03
  have I3 : st_I S3 (ky 0 57) = nI 0 := by
    have e3 : st_I S3 (ky 0 57) = st_I S0 (ky 0 57) := ((on_trans o1 (on_trans o2 o3)) _ (kM_n (by decide) (by decide) (by decide))).1
    rw [e3, hI0]
    rfl
  have o4 := on_I (K := kM fsW) S3 (ky 0 60) (nI (tn T 5)) ⟨60, by decide, rfl⟩
  obtain ⟨l1, l2⟩ := tM_live T3
  have C4 : cMp (fun t _ => t < cn X0) 56 57 58 59 (up_I S3 (ky 0 60) (nI (tn T 5))) T X0 := by
    refine ⟨hc, by rw [gIn _ _ (ky_ne (by decide) (by decide) (by decide)), I3, hn], fun t ht => ?_, fun m hm => ?_⟩
    · have t0 : t = 0 := by omega
      subst t0
      rw [gA_I]
      refine ⟨fun a ha => ⟨?_, ?_⟩, fun m hm => ⟨?_, ?_, fun q => absurd q (by omega)⟩⟩
      · rw [Nat.mul_zero, Nat.zero_add, k0 a (by omega), q0 a ha]
      · rw [Nat.mul_zero, Nat.zero_add, k0 _ (by omega), q1 a ha, h1 a ha]
      · rw [Nat.mul_zero, Nat.zero_add, kh m (by omega), (hT.2.2.2.2.2.2.1 m hm).1, h2 m hm]
      · rw [Nat.mul_zero, Nat.zero_add, kz _ (by omega) (by omega), hw m]
        rfl
    · rw [gA_I, gA_I, kb m (by omega), hk m]
      exact ⟨rfl, fun q => absurd rfl q⟩
  obtain ⟨S5, w5, T5, C5, o5⟩ := M_lat (tM_fs (by decide) T3 o4) C4
  refine ⟨S5, ?_, T5, C5, ?_, on_trans (on_mono fsW_B (on_trans o03 o4)) (on_mono fsC_B o5)⟩
  · unfold f_X6_beginsWith
    rw [lt_e, hS0]
    change (iter _ FU (nI 0, S0)).bind _ = _
    rw [w1, bnd, w2, bnd, w3, bnd, chk_t l1, l2, lt_e, T3.2.2.2.1.2.2.2.2.2, w5, bnd]
  · rw [(o5 _ (kM_n (by decide) (by decide) (by decide))).1, gIs]
