/-! QUESTIONS: soonest, seen, will be. -/
/-- the first minute, the first mirror: the class's -/
theorem C_firstOf (p : Nat → Bool) {n : Nat} (hn : n ≤ 8) : f_X5_firstOf (nI (bs n p)) = some (match s_fst p n with
    | none => -1
    | some m => nI m) := by
  have hlt : bs n p < 256 := Nat.lt_of_lt_of_le (bs_lt _ _) (Nat.pow_le_pow_right (by decide) hn)
  have g := up_find (step := f_X5_firstOf_L2 (nI (bs n p))) (fun i => nI i) (fun i => (bs n p).testBit i) (fun i => nI i) (-1) 32 (by decide) (fun i hi _ => by
    unfold f_X5_firstOf_L2
    rw [if_neg (show ¬ (32 : Int32) ≤ nI i from nI_ge (b := 32) hi (by decide)), has_nI (by omega) (by omega), bnd, ← nI_succ]
    cases (bs n p).testBit i
    · rfl
    · rw [if_neg (by decide)]
      rfl) (fun _ => by
    unfold f_X5_firstOf_L2
    rw [if_pos (show (32 : Int32) ≤ nI 32 from nI_le (Nat.le_refl 32) (by decide))])
  have e1 : s_fst (fun i => (bs n p).testBit i) 32 = s_fst p n := by
    have e2 := s_fst_ext (p := fun i => (bs n p).testBit i) (n := n) (fun j hj => by
      show (bs n p).testBit j = false
      rw [bs_bit]
      have : ¬ j < n := by omega
      simp [this]) (32 - n)
    rw [show n + (32 - n) = 32 by omega] at e2
    rw [e2]
    exact s_fst_cg _ (fun i hi => by rw [bs_bit]; simp [hi])
  unfold f_X5_firstOf
  change iter _ FU (nI 0) = _
  rw [g, e1]
  cases s_fst p n <;> rfl
/-- what both answer: at minute now + j by the first mirror -/
def s_fm (p : Nat → Nat → Bool) (n now k : Nat) (w : Int32) : Int32 := match s_fst (fun j => (s_fst (fun m => p m (now + j)) n).isSome) k with
  | none => -2
  | some j => if w = 0 then nI (now + j) else match s_fst (fun m => p m (now + j)) n with
    | none => -1
    | some m => nI m
theorem C_firstT {step : Int32 → Option (Int32 ⊕ ((Int32 × Int32) ⊕ (Int32 × St)))} (p : Nat → Nat → Bool) {n : Nat} (hn : n ≤ 8) (now k : Nat) (hk : k < 30000) (w : Int32) (S : St) (hs : ∀ j, j < k → step (nI (now + j)) = if nI (bs n (fun m => p m (now + j))) = 0 then some (.inl (nI (now + j) + 1)) else some (.inr (.inl (nI (now + j), nI (bs n (fun m => p m (now + j))))))) (hz : step (nI (now + k)) = some (.inr (.inr (-2, S)))) : ((iter step FU (nI now)).bind fun z => match z with | .inl z => (fun (u15 : Int32 × Int32) => (fun (e11 : Int32) (e12 : Int32) => if w = 0 then (some (e11, S)) else ((f_X5_firstOf   e12).bind (fun (q14 : Int32) => some (q14, S)))) u15.1 u15.2) z | .inr v16 => some v16) = some (s_fm p n now k w, S) := by
  have g := up_find (step := step) (fun j => nI (now + j)) (fun j => (s_fst (fun m => p m (now + j)) n).isSome) (fun j => (.inl (nI (now + j), nI (bs n (fun m => p m (now + j)))) : (Int32 × Int32) ⊕ (Int32 × St))) (.inr (-2, S)) k (by omega) (fun j hj _ => by
    have hlt : bs n (fun m => p m (now + j)) < 256 := Nat.lt_of_lt_of_le (bs_lt _ _) (Nat.pow_le_pow_right (by decide) hn)
    have hb := bs_nz (fun m => p m (now + j)) n
    rw [hs j hj, ← nI_succ]
    cases e : s_fst (fun m => p m (now + j)) n with
    | none =>
      rw [if_pos (show nI (bs n (fun m => p m (now + j))) = (0 : Int32) by rw [hb.mpr e]; rfl)]
      rfl
    | some m =>
      rw [if_neg (nI_nz (by
        rcases Nat.eq_zero_or_pos (bs n (fun m => p m (now + j))) with q | q
        · rw [hb.mp q] at e; cases e
        · exact q) (by omega))]
      rfl) (fun _ => hz)
  change iter step FU (nI now) = _ at g
  rw [g, bnd]
  unfold s_fm
  cases s_fst (fun j => (s_fst (fun m => p m (now + j)) n).isSome) k with
  | none => rfl
  | some j =>
    show (if w = 0 then some (nI (now + j), S) else (f_X5_firstOf (nI (bs n (fun m => p m (now + j))))).bind (fun (q14 : Int32) => some (q14, S))) = some (if w = 0 then nI (now + j) else _, S)
    by_cases c : w = 0
    · rw [if_pos c, if_pos c]
    · rw [if_neg c, if_neg c, C_firstOf _ hn, bnd]
theorem M_firstT {step : Int32 → Option (Int32 ⊕ ((Int32 × Int32) ⊕ (Int32 × St)))} {inner : Int32 → Int32 → Option (Int32 ⊕ (Unit ⊕ (Int32 × St)))} (p : Nat → Nat → Bool) {n : Nat} (hn : n ≤ 8) (now k : Nat) (hk : k < 30000) (w : Int32) (S : St) (hs : ∀ j, j < k → step (nI (now + j)) = (iter (inner (nI (now + j))) FU (0 : Int32)).bind fun z => match z with | .inl z => (fun _ => some (.inl (nI (now + j) + 1))) z | .inr v14 => some (.inr (.inr v14))) (hi : ∀ j m, j < k → m < n → inner (nI (now + j)) (nI m) = if p m (now + j) then some (.inr (.inr ((if w = 0 then nI (now + j) else nI m), S))) else some (.inl (nI (m + 1)))) (he : ∀ j, j < k → inner (nI (now + j)) (nI n) = some (.inr (.inl ()))) (hz : step (nI (now + k)) = some (.inr (.inr (-2, S)))) : ((iter step FU (nI now)).bind fun z => match z with | .inl z => (fun (u18 : Int32 × Int32) => (fun (e15 : Int32) (e16 : Int32) => if w = 0 then (some (e15, S)) else (some (e16, S))) u18.1 u18.2) z | .inr v19 => some v19) = some (s_fm p n now k w, S) := by
  have hin : ∀ j, j < k → iter (inner (nI (now + j))) FU (0 : Int32) = some (match s_fst (fun m => p m (now + j)) n with
      | none => .inl ()
      | some m => .inr ((if w = 0 then nI (now + j) else nI m), S)) := by
    intro j hj
    exact up_find (step := inner (nI (now + j))) (fun i => nI i) (fun m => p m (now + j)) (fun m => (.inr ((if w = 0 then nI (now + j) else nI m), S) : Unit ⊕ (Int32 × St))) (.inl ()) n (by omega) (fun m hm _ => by
      rw [hi j m hj hm]
      cases p m (now + j) <;> rfl) (fun _ => he j hj)
  have g := up_find (step := step) (fun j => nI (now + j)) (fun j => (s_fst (fun m => p m (now + j)) n).isSome) (fun j => (.inr (match s_fst (fun m => p m (now + j)) n with
      | none => (-2, S)
      | some m => ((if w = 0 then nI (now + j) else nI m), S)) : (Int32 × Int32) ⊕ (Int32 × St))) (.inr (-2, S)) k (by omega) (fun j hj _ => by
    rw [hs j hj, hin j hj, bnd, ← nI_succ]
    cases s_fst (fun m => p m (now + j)) n <;> rfl) (fun _ => hz)
  change iter step FU (nI now) = _ at g
  rw [g, bnd]
  unfold s_fm
  cases e : s_fst (fun j => (s_fst (fun m => p m (now + j)) n).isSome) k with
  | none => rfl
  | some j =>
    have hj := (s_fst_lt e).2
    cases e2 : s_fst (fun m => p m (now + j)) n with
    | none => rw [e2] at hj; cases hj
    | some m => simp only [e2]
section QI
variable {kt s : Nat} {A : AB} {S M M' : St} {T : TX} {X : CT}
theorem Q_soonest (hA : RA A) (hC : RC kt A S) (hM : RM s A M) (x y z : Int32) : ans S M (f_X5_soonest S x y z) (f_X6_soonest M x y z) := by
  have b0 := hC.1.1.1
  have b3 := hC.1.1.2.2.2.1
  have hn := hC.2.1.1.1
  unfold f_X5_soonest f_X6_soonest
  rcases vld x (n := tn (aT A) 0) (by omega) with ⟨r, hr, rfl⟩ | hx
  · rw [C_rooI hC hr, M_rooI hM hr, bnd, bnd, if_neg ne10, if_neg ne10]
    rcases vld y (n := cn (aX A) + 1) (by omega) with ⟨u, hu, rfl⟩ | hy
    · rw [C_pasI hC hu, M_pasI hM hu, bnd, bnd, if_neg ne10, if_neg ne10]
      rcases vld z (n := 2) (by decide) with ⟨w, hw, rfl⟩ | hz
      · rw [C_wIl (n := 2) (m := 2) rfl hw (by decide), M_wIl (n := 2) (m := 1) (by decide) hw (by decide), bnd, bnd, if_neg ne10, if_neg ne10]
        obtain ⟨S', v1, rc, c1⟩ := C_foreE hC
        obtain ⟨M', v2, rm, t2, c2⟩ := M_foreE hM
        obtain ⟨k1, k2⟩ := tM_live t2
        have hE := xE_n hC
        rw [v1, v2, bnd, bnd, rc.2.1.2.2.2.1, rm.2.1.2.1]
        have l1 := C_firstT (step := f_X5_soonest_L42 S' (nI r) (nI u) (nI w)) (s_sr (xE A) r u) b3 (cn (aX A)) (300 - cn (aX A)) (by omega) (nI w) S' (fun j hj => by
          unfold f_X5_soonest_L42
          rw [if_neg (show ¬ (299 : Int32) < nI (cn (aX A) + j) from nI_nlt (a := 299) (by omega) (by decide)), C_showersOf rc c1 (by omega) (by omega) (by omega), bnd]) (by
          unfold f_X5_soonest_L42
          rw [if_pos (show (299 : Int32) < nI (cn (aX A) + (300 - cn (aX A))) from nI_lt (a := 299) (by omega) (by omega))])
        have l2 := M_firstT (step := f_X6_soonest_L37 M' (nI r) (nI u) (nI w)) (inner := fun t => f_X6_soonest_L48 M' (nI r) (nI u) (nI w) t) (s_sr (xE A) r u) b3 (cn (aX A)) (300 - cn (aX A)) (by omega) (nI w) M' (fun j hj => by
          unfold f_X6_soonest_L37
          rw [if_neg (show ¬ (299 : Int32) < nI (cn (aX A) + j) from nI_nlt (a := 299) (by omega) (by decide))]
          rfl) (fun j m hj hm => by
          show f_X6_soonest_L48 M' (nI r) (nI u) (nI w) (nI (cn (aX A) + j)) (nI m) = _
          unfold f_X6_soonest_L48
          rw [chk_t k1, k2, t2.2.2.2.1.2.2.2.1, if_neg (show ¬ nI (tn (aT A) 3) ≤ nI m from nI_ge hm (by omega)), M_showsRoom t2 c2 hm (by omega) (by omega) (by omega), bnd, ← nI_succ]
          cases s_sr (xE A) r u m (cn (aX A) + j)
          · rfl
          · rw [if_neg (show ¬ (if true = true then (1 : Int32) else 0) = 0 from ne10)]
            by_cases c : nI w = 0
            · rw [if_pos c, if_pos c]
              rfl
            · rw [if_neg c, if_neg c]
              rfl) (fun j hj => by
          show f_X6_soonest_L48 M' (nI r) (nI u) (nI w) (nI (cn (aX A) + j)) (nI (tn (aT A) 3)) = _
          unfold f_X6_soonest_L48
          rw [chk_t k1, k2, t2.2.2.2.1.2.2.2.1, if_pos (show nI (tn (aT A) 3) ≤ nI (tn (aT A) 3) from nI_le (Nat.le_refl _) (by omega))]) (by
          unfold f_X6_soonest_L37
          rw [if_pos (show (299 : Int32) < nI (cn (aX A) + (300 - cn (aX A))) from nI_lt (a := 299) (by omega) (by omega))])
        exact ans_ss hA rc rm _ l1 l2
      · rw [C_wOl (n := 2) (m := 2) rfl hz, M_wOl (n := 2) (m := 1) (by decide) (by decide) hz, bnd, bnd, if_pos rfl, if_pos rfl]
        exact ans_ss hA hC hM (-1) rfl rfl
    · rw [C_pasO hC hy, M_pasO hM hy, bnd, bnd, if_pos rfl, if_pos rfl]
      exact ans_ss hA hC hM (-1) rfl rfl
  · rw [C_rooO hC hx, M_rooO hM hx, bnd, bnd, if_pos rfl, if_pos rfl]
    exact ans_ss hA hC hM (-1) rfl rfl
theorem min_nI {a b : Nat} (ha : a < 2 ^ 31) (hb : b < 2 ^ 31) : i_min (nI a) (nI b) = nI (min a b) := by
  show (if nI b < nI a then nI b else nI a) = _
  by_cases c : b < a
  · rw [if_pos (nI_lt c ha), Nat.min_eq_right (by omega)]
  · rw [if_neg (nI_nlt (by omega) hb), Nat.min_eq_left (by omega)]
theorem lng_i {n : Nat} (h : n < 300) : f_X6_isLong (nI n) = some 1 := by
  unfold f_X6_isLong
  rw [M_wIl (n := 300) (m := 299) (by decide) h (by decide), bnd, chk_t isb1]
theorem lng_o {x : Int32} (h : x < 0 ∨ nI 300 ≤ x) : f_X6_isLong x = some 0 := by
  unfold f_X6_isLong
  rw [M_wOl (n := 300) (m := 299) (by decide) (by decide) h, bnd, chk_t isb0]
theorem Q_willBe (hA : RA A) (hC : RC kt A S) (hM : RM s A M) (x y : Int32) : ans S M (f_X5_willBe S x y) (f_X6_willBe M x y) := by
  have b2 := hC.1.1.2.2.1
  have hn := hC.2.1.1.1
  unfold f_X5_willBe f_X6_willBe
  rcases vld x (n := tn (aT A) 2) (by omega) with ⟨a, ha, rfl⟩ | hx
  · rw [C_manI hC ha, M_manI hM ha, bnd, bnd, if_neg ne10, if_neg ne10]
    rcases vld y (n := 300) (by decide) with ⟨n, hy, rfl⟩ | hy
    · rw [C_wIl (n := 300) (m := 300) rfl hy (by decide), lng_i hy, bnd, bnd, if_neg ne10, if_neg ne10]
      have e1 : i_min (nI (cn (aX A)) + nI n) (299 : Int32) = nI (min (cn (aX A) + n) 299) := by
        rw [nI_add]
        exact min_nI (b := 299) (by omega) (by decide)
      obtain ⟨S', v1, rc, c1⟩ := C_fore hC (e := min (cn (aX A) + n) 299) (by omega)
      obtain ⟨M1, M2, v2, i2, w2, rm, t2, c2⟩ := M_fore hM (e := cn (aX A) + n) (by omega)
      have hcn := x_run_n (aT A) (nI (tn (aT A) 5)) (aX A) (min (cn (aX A) + n) 299 - cn (aX A))
      have hcn' : cn (x_run (aT A) (nI (tn (aT A) 5)) (aX A) (min (cn (aX A) + n) 299 - cn (aX A))) = min (cn (aX A) + n) 299 := by omega
      rw [hC.2.1.2.2.2.1, e1, lt_e, v1, bnd, v2, bnd, i2, nI_add, w2, bnd]
      have g := C_room rc.1 c1 ha (t := min (cn (aX A) + n) 299) (by omega)
      have row := ((c2.2.2.1 _ (Nat.le_refl _)).1 a ha).1
      rw [g, bnd, c2.2.1, i0', hcn', chk_t (ib_nI (by omega) (by decide)), nI_clamp (by omega)]
      rw [hcn'] at row
      exact ans_ss hA rc rm _ rfl (by rw [row])
    · rw [C_wOl (n := 300) (m := 300) rfl hy, lng_o hy, bnd, bnd, if_pos rfl, if_pos rfl]
      exact ans_ss hA hC hM (-1) rfl rfl
  · rw [C_manO hC hx, M_manO hM hx, bnd, bnd, if_pos rfl, if_pos rfl]
    exact ans_ss hA hC hM (-1) rfl rfl
def s_sum (f : Nat → Nat) : Nat → Nat
  | 0 => 0
  | n + 1 => s_sum f n + f n
theorem s_sum_le {f : Nat → Nat} {b : Nat} (h : ∀ i, f i ≤ b) : ∀ n, s_sum f n ≤ b * n := by
  intro n
  induction n with
  | zero => exact Nat.le_refl _
  | succ n ih =>
    have := h n
    rw [s_sum, Nat.mul_succ]
    omega
theorem Q_seen (hA : RA A) (hC : RC kt A S) (hM : RM s A M) (x y : Int32) : ans S M (f_X5_seen S x y) (f_X6_seen M x y) := by
  have b2 := hC.1.1.2.2.1
  have b3 := hC.1.1.2.2.2.1
  have hn := hC.2.1.1.1
  unfold f_X5_seen f_X6_seen
  rcases vld x (n := tn (aT A) 2) (by omega) with ⟨a, ha, rfl⟩ | hx
  · rw [C_manI hC ha, M_manI hM ha, bnd, bnd, if_neg ne10, if_neg ne10]
    rcases vld y (n := 300) (by decide) with ⟨n, hy, rfl⟩ | hy
    · rw [C_wIl (n := 300) (m := 300) rfl hy (by decide), lng_i hy, bnd, bnd, if_neg ne10, if_neg ne10]
      have e1 : i_min (nI (cn (aX A)) + nI n) (299 : Int32) = nI (min (cn (aX A) + n) 299) := by
        rw [nI_add]
        exact min_nI (b := 299) (by omega) (by decide)
      obtain ⟨S', v1, rc, c1⟩ := C_fore hC (e := min (cn (aX A) + n) 299) (by omega)
      obtain ⟨M1, M2, v2, i2, w2, rm, t2, c2⟩ := M_fore hM (e := cn (aX A) + n) (by omega)
      have hcn := x_run_n (aT A) (nI (tn (aT A) 5)) (aX A) (min (cn (aX A) + n) 299 - cn (aX A))
      have hcn' : cn (x_run (aT A) (nI (tn (aT A) 5)) (aX A) (min (cn (aX A) + n) 299 - cn (aX A))) = min (cn (aX A) + n) 299 := by omega
      rw [hC.2.1.2.2.2.1, e1, lt_e, v1, bnd, v2, bnd, i2, nI_add, w2, bnd, rc.2.1.2.2.2.1, rm.2.1.2.1]
      generalize hY : x_run (aT A) (nI (tn (aT A) 5)) (aX A) (min (cn (aX A) + n) 299 - cn (aX A)) = Y at c1 c2 hcn'
      generalize hK : min (cn (aX A) + n) 299 = e at hcn' 
      have he : cn (aX A) ≤ e := by omega
      have he2 : e ≤ 299 := by omega
      let f : Nat → Nat := fun j => s_cnt (fun m => s_sm (aT A) Y a m (cn (aX A) + j)) (tn (aT A) 3)
      have hf : ∀ j, f j ≤ 8 := fun j => Nat.le_trans (s_cnt_le _ _) b3
      have l1 := iter_FU (step := f_X5_seen_L53 S' (nI a) (nI e)) (fun k => (nI (s_sum f k), nI (cn (aX A) + k))) (e - cn (aX A) + 1) (by omega) (r := (nI (s_sum f (e - cn (aX A) + 1)), S')) (fun k hk => by
        have hlt : bs (tn (aT A) 3) (fun m => s_sm (aT A) Y a m (cn (aX A) + k)) < 256 := Nat.lt_of_lt_of_le (bs_lt _ _) (Nat.pow_le_pow_right (by decide) b3)
        unfold f_X5_seen_L53
        rw [if_neg (show ¬ nI e < nI (cn (aX A) + k) from nI_nlt (by omega) (by omega)), C_mirrorsWith rc c1 ha (by omega), bnd, bitC _ hlt, bnd, pop_bs _ b3, nI_add, ← nI_succ]
        rfl) (by
        unfold f_X5_seen_L53
        rw [if_pos (show nI e < nI (cn (aX A) + (e - cn (aX A) + 1)) from nI_lt (by omega) (by omega))])
      obtain ⟨k1, k2⟩ := tM_live t2
      have l2 := iter_FU (step := f_X6_seen_L39 M2 (nI a)) (fun k => (nI (s_sum f k), nI (cn (aX A) + k))) (e - cn (aX A) + 1) (by omega) (r := (nI (s_sum f (e - cn (aX A) + 1)), M2)) (fun k hk => by
        unfold f_X6_seen_L39
        rw [c2.2.1, hcn', if_neg (show ¬ nI e < nI (cn (aX A) + k) from nI_nlt (by omega) (by omega))]
        have g := iter_FU (step := f_X6_seen_L51 M2 (nI a) (nI (cn (aX A) + k))) (fun i => (nI (s_sum f k + s_cnt (fun m => s_sm (aT A) Y a m (cn (aX A) + k)) i), nI i)) (tn (aT A) 3) (by omega) (r := nI (s_sum f k + s_cnt (fun m => s_sm (aT A) Y a m (cn (aX A) + k)) (tn (aT A) 3))) (fun i hi => by
          unfold f_X6_seen_L51
          rw [chk_t k1, k2, t2.2.2.2.1.2.2.2.1, if_neg (show ¬ nI (tn (aT A) 3) ≤ nI i from nI_ge hi (by omega)), M_isSeenIn t2 c2 hi (by omega) ha, bnd, s_cnt]
          cases s_sm (aT A) Y a i (cn (aX A) + k)
          · rw [← nI_succ]
            rfl
          · rw [← nI_succ, ← nI_succ]
            rfl) (by
          unfold f_X6_seen_L51
          rw [chk_t k1, k2, t2.2.2.2.1.2.2.2.1, if_pos (show nI (tn (aT A) 3) ≤ nI (tn (aT A) 3) from nI_le (Nat.le_refl _) (by omega))])
        change (iter _ FU (nI (s_sum f k + 0), nI 0)).bind _ = _
        rw [show iter (f_X6_seen_L51 M2 (nI a) (nI (cn (aX A) + k))) FU (nI (s_sum f k + 0), nI 0) = _ from g, bnd, ← nI_succ]
        rfl) (by
        unfold f_X6_seen_L39
        rw [c2.2.1, hcn', if_pos (show nI e < nI (cn (aX A) + (e - cn (aX A) + 1)) from nI_lt (by omega) (by omega))])
      exact ans_ss hA rc rm _ l1 l2
    · rw [C_wOl (n := 300) (m := 300) rfl hy, lng_o hy, bnd, bnd, if_pos rfl, if_pos rfl]
      exact ans_ss hA hC hM (-1) rfl rfl
  · rw [C_manO hC hx, M_manO hM hx, bnd, bnd, if_pos rfl, if_pos rfl]
    exact ans_ss hA hC hM (-1) rfl rfl
end QI
