/-! QUESTIONS: what would be. -/
theorem bs_or (p q : Nat → Bool) (n : Nat) : bs n p ||| bs n q = bs n (fun j => p j || q j) := by
  apply Nat.eq_of_testBit_eq
  intro j
  rw [Nat.testBit_or, bs_bit, bs_bit, bs_bit]
  cases decide (j < n) <;> simp
theorem bs_and (p q : Nat → Bool) (n : Nat) : bs n p &&& bs n q = bs n (fun j => p j && q j) := by
  apply Nat.eq_of_testBit_eq
  intro j
  rw [Nat.testBit_and, bs_bit, bs_bit, bs_bit]
  cases decide (j < n) <;> simp
theorem nI_aN {a b : Nat} (ha : a < 2 ^ 31) (hb : b < 2 ^ 31) : nI a &&& nI b = nI (a &&& b) := by
  apply Int32.toBitVec_inj.mp
  apply BitVec.eq_of_toNat_eq
  rw [Int32.toBitVec_and, BitVec.toNat_and, pk_tn (by omega), pk_tn (by omega), pk_tn (Nat.lt_of_le_of_lt Nat.and_le_left (by omega))]
theorem bs_cg {p q : Nat → Bool} : ∀ n, (∀ j, j < n → p j = q j) → bs n p = bs n q := by
  intro n
  induction n with
  | zero => intro _; rfl
  | succ n ih =>
    intro h
    rw [bs, bs, ih (fun j hj => h j (by omega)), h n (by omega)]
theorem bs_z {p : Nat → Bool} : ∀ n, (∀ j, j < n → p j = false) → bs n p = 0 := by
  intro n
  induction n with
  | zero => intro _; rfl
  | succ n ih =>
    intro h
    rw [bs, ih (fun j hj => h j (by omega)), h n (by omega)]
    rfl
theorem bs_nz (p : Nat → Bool) (n : Nat) : bs n p = 0 ↔ s_fst p n = none := by
  constructor
  · intro h
    cases e : s_fst p n with
    | none => rfl
    | some i =>
      have hi := s_fst_lt e
      have := bs_bit p n i
      rw [h] at this
      simp [hi.1, hi.2] at this
  · intro h
    exact bs_z n (s_fst_none h)
theorem s_fst_ext {p : Nat → Bool} {n : Nat} (h : ∀ j, n ≤ j → p j = false) : ∀ k, s_fst p (n + k) = s_fst p n := by
  intro k
  induction k with
  | zero => rfl
  | succ k ih =>
    show s_fst p (n + k + 1) = _
    rw [s_fst, ih, h (n + k) (by omega)]
    cases s_fst p n <;> rfl
theorem pop_bs (p : Nat → Bool) {n : Nat} (hn : n ≤ 8) : pop (bs n p) = s_cnt p n := by
  have key : ∀ m, m ≤ 8 → (List.range m).countP (fun i => (bs n p).testBit i) = s_cnt (fun i => decide (i < n) && p i) m := by
    intro m
    induction m with
    | zero => intro _; rfl
    | succ m ih =>
      intro hm
      rw [List.range_succ, List.countP_append, ih (by omega), s_cnt, List.countP_singleton, bs_bit]
  unfold pop
  rw [key 8 (Nat.le_refl _)]
  have e := s_cnt_split (fun i => decide (i < n) && p i) n (8 - n)
  rw [show n + (8 - n) = 8 by omega] at e
  rw [e, s_cnt_z (fun j => decide (n + j < n) && p (n + j)) _ (fun j _ => by
    have : ¬ n + j < n := by omega
    simp [this]), Nat.add_zero]
  exact s_cnt_cg _ (fun j hj => by simp [hj])
theorem or_b2 : ∀ i < 8, ∀ a < 2 ^ i, nI (a + 2 ^ i) ||| nI (2 ^ i) = nI (a + 2 ^ i) := by decide +kernel
def anT (p : Nat → Nat → Bool) (now k m : Nat) : Bool := (s_fst (fun j => p m (now + j)) k).isSome
theorem anT_s (p : Nat → Nat → Bool) (now k m : Nat) : anT p now (k + 1) m = (anT p now k m || p m (now + k)) := by
  unfold anT
  cases e : s_fst (fun j => p m (now + j)) k with
  | some i => rw [s_fst_stay e]; rfl
  | none =>
    rw [s_fst_succ e]
    cases p m (now + k) <;> rfl
/-- the reference's inner loop over minutes, one mirror -/
theorem M_orT {step : Int32 × Int32 → Option ((Int32 × Int32) ⊕ Int32)} (p : Nat → Nat → Bool) {m : Nat} (hm : m < 8) {a : Nat} (ha : a < 2 ^ m) (now k : Nat) (hk : k < 30000) (hs : ∀ (j : Nat) (u : Int32), j < k → step (u, nI (now + j)) = if p m (now + j) then some (.inl (u ||| nI (2 ^ m), nI (now + j + 1))) else some (.inl (u, nI (now + j + 1)))) (hz : ∀ u, step (u, nI (now + k)) = some (.inr u)) : iter step FU (nI a, nI now) = some (nI (a + if anT p now k m then 2 ^ m else 0)) := by
  refine iter_FU (step := step) (fun j => (nI (a + if anT p now j m then 2 ^ m else 0), nI (now + j))) k (by omega) (fun j hj => ?_) (hz _)
  rw [hs j _ hj, anT_s]
  cases e1 : anT p now j m
  · cases e2 : p m (now + j)
    · rfl
    · show some (Sum.inl (nI a ||| nI (2 ^ m), _)) = _
      rw [or_b m hm a ha]
      rfl
  · cases e2 : p m (now + j)
    · rfl
    · show some (Sum.inl (nI (a + 2 ^ m) ||| nI (2 ^ m), _)) = _
      rw [or_b2 m hm a ha]
      rfl
section QH
variable {kt s : Nat} {A : AB} {S M M' : St} {T : TX} {X : CT}
theorem kF_S {kt : Nat} (q : Nat) (h : kF 11 q) : kS kt q := Or.inl h
theorem kC_S {kt : Nat} (q : Nat) (h : kC 11 kt q) : kS kt q := by
  rcases h with ⟨f, h1, h2, h3⟩ | h
  · exact Or.inl ⟨f, h1, h3⟩
  · exact Or.inr (Or.inl h)
theorem cl_11 : cl_C 11 = 0 := rfl
theorem C_fore (hC : RC kt A S) {e : Nat} (he : e ≤ 299) : ∃ S', f_X5_forecast S (nI e) = some S' ∧ RC kt A S' ∧ cC 11 kt S' (aT A) (x_run (aT A) (nI (tn (aT A) 5)) (aX A) (e - cn (aX A))) := by
  obtain ⟨S1, w1, c1, o1⟩ := C_copyOf (k := 11) (k1 := 10) (by decide) cl_11 hC.1 hC.2.1
  have r1 := RC_on hC (on_mono kF_S o1)
  obtain ⟨S2, w2, t2, c2, o2⟩ := C_goTo r1.1 c1 he
  refine ⟨S2, ?_, RC_on r1 (on_mono kC_S o2), c2⟩
  unfold f_X5_forecast
  rw [w1, bnd, w2, bnd]
theorem M_fore (hM : RM s A M) {e : Nat} (he : e < 2 ^ 31) : ∃ M1 M2, f_X6_copies M = some M1 ∧ st_I M1 (ky 0 53) = nI (cn (aX A)) ∧ f_X6_goesTill M1 (nI e) = some M2 ∧ RM s A M2 ∧ tM s M2 (aT A) ∧ cM 56 57 58 59 M2 (aT A) (x_run (aT A) (nI (tn (aT A) 5)) (aX A) (min e 299 - cn (aX A))) := by
  obtain ⟨M1, v, t1, c1, i1, hM1, o1⟩ := M_cop hM
  obtain ⟨M2, w2, t2, c2, o2⟩ := M_goesTill t1 c1 i1 he
  exact ⟨M1, M2, v, hM1.2.1.2.1, w2, RM_on hM1 (on_mono fsC_Q o2), t2, c2⟩
/-- the court at minute 299 -/
abbrev xE (A : AB) : CT := x_run (aT A) (nI (tn (aT A) 5)) (aX A) (299 - cn (aX A))
theorem xE_n (hC : RC kt A S) : cn (xE A) = 299 := by
  have := hC.2.1.1.1
  rw [x_run_n]
  omega
theorem C_foreE (hC : RC kt A S) : ∃ S', f_X5_forecast S (299 : Int32) = some S' ∧ RC kt A S' ∧ cC 11 kt S' (aT A) (xE A) := C_fore hC (e := 299) (Nat.le_refl _)
theorem M_foreE (hM : RM s A M) : ∃ M2, f_X6_fillsAll M = some M2 ∧ RM s A M2 ∧ tM s M2 (aT A) ∧ cM 56 57 58 59 M2 (aT A) (xE A) := by
  obtain ⟨M1, M2, v, i, w, r, t, c⟩ := M_fore hM (e := 299) (by decide)
  refine ⟨M2, ?_, r, t, c⟩
  unfold f_X6_fillsAll
  rw [v, bnd]
  change (f_X6_goesTill M1 (nI 299)).bind _ = _
  rw [w, bnd]
/-- mirror m shows room r at minute u, at minute t -/
def s_sr (X : CT) (r u m t : Nat) : Bool := decide (s_show X m t = some u) && decide (cf X 2 u m = r)
theorem oI_eq {o : Option Nat} {u : Nat} (ho : ∀ v, o = some v → v < 2 ^ 31) (hu : u < 2 ^ 31) : oI o = nI u ↔ o = some u := by
  cases o with
  | none =>
    constructor
    · intro q
      exact absurd (show nI u < 0 by rw [← q]; decide) (nI_pos hu)
    · intro q; cases q
  | some v =>
    constructor
    · intro q
      rw [(nI_eq (ho v rfl) hu).mp q]
    · intro q
      cases q
      rfl
theorem C_showersOf (hC : RC kt A S) {Y : CT} (c : cC 11 kt S (aT A) Y) {r u t : Nat} (hr : r < 2 ^ 31) (hu : u ≤ cn Y) (ht : t ≤ cn Y) : f_X5_showersOf S (nI r) (nI u) (nI t) = some (nI (bs (tn (aT A) 3) (fun m => s_sr Y r u m t))) := by
  have b3 := hC.1.1.2.2.2.1
  have b0 := hC.1.1.1
  have hn := c.1.1
  unfold f_X5_showersOf
  refine iter_FU (step := f_X5_showersOf_L6 S (nI r) (nI u) (nI t)) (fun i => (nI (bs i (fun m => s_sr Y r u m t)), nI i)) (tn (aT A) 3) (by omega) (fun i hi => ?_) ?_
  · have h1 := ((c.1.2.1 u hu).2 i hi).1
    have hb := bs_lt (fun m => s_sr Y r u m t) i
    unfold f_X5_showersOf_L6
    rw [chk_t (RC_T hC), hC.2.2.1.1, hC.1.2.2.1 3 (by decide), if_neg (show ¬ nI (tn (aT A) 3) ≤ nI i from nI_ge hi (by omega)), C_showing hC.1 c hi ht trivial, bnd, bs]
    have hoe := oI_eq (o := s_show Y i t) (u := u) (fun v e => by have := s_show_le c.1 hi e; omega) (by omega)
    by_cases k : s_show Y i t = some u
    · rw [if_pos (hoe.mpr k), C_hang hC.1 c hi hu, bnd]
      by_cases l : cf Y 2 u i = r
      · have hp : s_sr Y r u i t = true := by unfold s_sr; simp [k, l]
        rw [if_pos (by rw [l]), if_pos hp, shl_b i (by omega), or_b i (by omega) _ hb, lt_e, ← nI_succ]
      · have hp : ¬ s_sr Y r u i t = true := by unfold s_sr; simp [l]
        rw [if_neg (fun q => l ((nI_eq (by omega) hr).mp q)), if_neg hp, Nat.add_zero, ← nI_succ]
    · have hp : ¬ s_sr Y r u i t = true := by unfold s_sr; simp [k]
      rw [if_neg (fun q => k (hoe.mp q)), if_neg hp, Nat.add_zero, ← nI_succ]
  · unfold f_X5_showersOf_L6
    rw [chk_t (RC_T hC), hC.2.2.1.1, hC.1.2.2.1 3 (by decide), if_pos (show nI (tn (aT A) 3) ≤ nI (tn (aT A) 3) from nI_le (Nat.le_refl _) (by omega))]
theorem M_showsRoom (hT : tM s M T) (h : cM 56 57 58 59 M T X) {m t r u : Nat} (hm : m < tn T 3) (ht : t ≤ cn X) (hr : r < 2 ^ 31) (hu : u ≤ cn X) : f_X6_showsRoom M (nI m) (nI t) (nI r) (nI u) = some (if s_sr X r u m t then 1 else 0) := by
  have b0 := hT.1.1
  have hn := h.1.1
  have h1 := ((h.1.2.1 u hu).2 m hm).1
  have hoe := oI_eq (o := s_show X m t) (u := u) (fun v e => by have := s_show_le h.1 hm e; omega) (by omega)
  unfold f_X6_showsRoom
  rw [M_shows hT h hm ht trivial, bnd]
  by_cases k : s_show X m t = some u
  · rw [if_pos (hoe.mpr k), M_hung hT h hm hu, bnd]
    by_cases l : cf X 2 u m = r
    · have hp : s_sr X r u m t = true := by unfold s_sr; simp [k, l]
      rw [if_pos (by rw [l]), if_pos hp]
    · have hp : ¬ s_sr X r u m t = true := by unfold s_sr; simp [l]
      rw [if_neg (fun q => l ((nI_eq (by omega) hr).mp q)), if_neg hp]
  · have hp : ¬ s_sr X r u m t = true := by unfold s_sr; simp [k]
    rw [if_neg (fun q => k (hoe.mp q)), if_neg hp]
theorem Q_still (hA : RA A) (hC : RC kt A S) (hM : RM s A M) (x y : Int32) : ans S M (f_X5_still S x y) (f_X6_still M x y) := by
  have b0 := hC.1.1.1
  have b3 := hC.1.1.2.2.2.1
  have hn := hC.2.1.1.1
  unfold f_X5_still f_X6_still
  rcases vld x (n := tn (aT A) 0) (by omega) with ⟨r, hr, rfl⟩ | hx
  · rw [C_rooI hC hr, M_rooI hM hr, bnd, bnd, if_neg ne10, if_neg ne10]
    rcases vld y (n := cn (aX A) + 1) (by omega) with ⟨u, hu, rfl⟩ | hy
    · rw [C_pasI hC hu, M_pasI hM hu, bnd, bnd, if_neg ne10, if_neg ne10]
      obtain ⟨S', v1, rc, c1⟩ := C_foreE hC
      obtain ⟨M', v2, rm, t2, c2⟩ := M_foreE hM
      have hE := xE_n hC
      rw [v1, v2, bnd, bnd, rc.2.1.2.2.2.1]
      have l1 := iter_FU (step := f_X5_still_L36 S' (nI r) (nI u)) (fun k => (nI (bs (tn (aT A) 3) (anT (s_sr (xE A) r u) (cn (aX A)) k)), nI (cn (aX A) + k))) (300 - cn (aX A)) (by omega) (r := (nI (bs (tn (aT A) 3) (anT (s_sr (xE A) r u) (cn (aX A)) (300 - cn (aX A)))), S')) (fun k hk => by
        unfold f_X5_still_L36
        rw [if_neg (show ¬ (299 : Int32) < nI (cn (aX A) + k) from nI_nlt (a := 299) (by omega) (by decide)), C_showersOf rc c1 (by omega) (by omega) (by omega), bnd, nI_oN, bs_or, ← nI_succ]
        have e : (fun j => anT (s_sr (xE A) r u) (cn (aX A)) k j || s_sr (xE A) r u j (cn (aX A) + k)) = anT (s_sr (xE A) r u) (cn (aX A)) (k + 1) := by
          funext j
          rw [anT_s]
        rw [e]
        rfl) (by
        unfold f_X5_still_L36
        rw [if_pos (show (299 : Int32) < nI (cn (aX A) + (300 - cn (aX A))) from nI_lt (a := 299) (by omega) (by omega))])
      obtain ⟨k1, k2⟩ := tM_live t2
      have l2 := iter_FU (step := f_X6_still_L27 M' (nI r) (nI u)) (fun i => (nI (bs i (anT (s_sr (xE A) r u) (cn (aX A)) (300 - cn (aX A)))), nI i)) (tn (aT A) 3) (by omega) (r := (nI (bs (tn (aT A) 3) (anT (s_sr (xE A) r u) (cn (aX A)) (300 - cn (aX A)))), M')) (fun i hi => by
        have hb := bs_lt (anT (s_sr (xE A) r u) (cn (aX A)) (300 - cn (aX A))) i
        unfold f_X6_still_L27
        rw [chk_t k1, k2, t2.2.2.2.1.2.2.2.1, if_neg (show ¬ nI (tn (aT A) 3) ≤ nI i from nI_ge hi (by omega)), rm.2.1.2.1]
        have g := M_orT (step := f_X6_still_L47 M' (nI r) (nI u) (nI i)) (s_sr (xE A) r u) (m := i) (by omega) hb (cn (aX A)) (300 - cn (aX A)) (by omega) (fun j w hj => by
          unfold f_X6_still_L47
          rw [if_neg (show ¬ (299 : Int32) < nI (cn (aX A) + j) from nI_nlt (a := 299) (by omega) (by decide)), M_showsRoom t2 c2 hi (by omega) (by omega) (by omega), bnd, ← nI_succ]
          cases s_sr (xE A) r u i (cn (aX A) + j)
          · rfl
          · rw [if_neg (by decide), shl_b i (by omega), lt_e]
            rfl) (fun w => by
          unfold f_X6_still_L47
          rw [if_pos (show (299 : Int32) < nI (cn (aX A) + (300 - cn (aX A))) from nI_lt (a := 299) (by omega) (by omega))])
        rw [g, bnd, ← nI_succ, bs]) (by
        unfold f_X6_still_L27
        rw [chk_t k1, k2, t2.2.2.2.1.2.2.2.1, if_pos (show nI (tn (aT A) 3) ≤ nI (tn (aT A) 3) from nI_le (Nat.le_refl _) (by omega))])
      have z0 : bs (tn (aT A) 3) (anT (s_sr (xE A) r u) (cn (aX A)) 0) = 0 := bs_z _ (fun _ _ => rfl)
      rw [z0, Nat.add_zero] at l1
      exact ans_ss hA rc rm _ l1 l2
    · rw [C_pasO hC hy, M_pasO hM hy, bnd, bnd, if_pos rfl, if_pos rfl]
      exact ans_ss hA hC hM (-1) rfl rfl
  · rw [C_rooO hC hx, M_rooO hM hx, bnd, bnd, if_pos rfl, if_pos rfl]
    exact ans_ss hA hC hM (-1) rfl rfl
/-- mirror m shows man a at minute t -/
def s_sm (T : TX) (X : CT) (a m t : Nat) : Bool := (s_shm T X m t).testBit a
theorem C_mirrorsWith (hC : RC kt A S) {Y : CT} (c : cC 11 kt S (aT A) Y) {a t : Nat} (ha : a < tn (aT A) 2) (ht : t ≤ cn Y) : f_X5_mirrorsWith S (nI a) (nI t) = some (nI (bs (tn (aT A) 3) (fun m => s_sm (aT A) Y a m t))) := by
  have b3 := hC.1.1.2.2.2.1
  have b2 := hC.1.1.2.2.1
  have hn := c.1.1
  unfold f_X5_mirrorsWith
  refine iter_FU (step := f_X5_mirrorsWith_L5 S (nI a) (nI t)) (fun i => (nI (bs i (fun m => s_sm (aT A) Y a m t)), nI i)) (tn (aT A) 3) (by omega) (fun i hi => ?_) ?_
  · have hb := bs_lt (fun m => s_sm (aT A) Y a m t) i
    have h2 := s_shm_lt hC.1.1 Y i t
    unfold f_X5_mirrorsWith_L5
    rw [chk_t (RC_T hC), hC.2.2.1.1, hC.1.2.2.1 3 (by decide), if_neg (show ¬ nI (tn (aT A) 3) ≤ nI i from nI_ge hi (by omega)), C_menShown hC.1 c hi ht trivial, bnd, has_nI (by omega) (by omega), bnd, bs]
    by_cases k : (s_shm (aT A) Y i t).testBit a = true
    · rw [if_pos k, if_neg ne10, if_pos (show s_sm (aT A) Y a i t = true from k), shl_b i (by omega), or_b i (by omega) _ hb, lt_e, ← nI_succ]
    · rw [if_neg k, if_pos rfl, if_neg (show ¬ s_sm (aT A) Y a i t = true from k), Nat.add_zero, ← nI_succ]
  · unfold f_X5_mirrorsWith_L5
    rw [chk_t (RC_T hC), hC.2.2.1.1, hC.1.2.2.1 3 (by decide), if_pos (show nI (tn (aT A) 3) ≤ nI (tn (aT A) 3) from nI_le (Nat.le_refl _) (by omega))]
theorem M_isSeenIn (hT : tM s M T) (h : cM 56 57 58 59 M T X) {m t a : Nat} (hm : m < tn T 3) (ht : t ≤ cn X) (ha : a < tn T 2) : f_X6_isSeenIn M (nI m) (nI t) (nI a) = some (if s_sm T X a m t then 1 else 0) := by
  have b2 := hT.1.2.2.1
  have h2 := s_shm_lt hT.1 X m t
  unfold f_X6_isSeenIn
  rw [M_shows hT h hm ht trivial, bnd, M_menShown hT h hm ht, bnd, bitM2 _ h2 a (by omega)]
  unfold s_sm
  by_cases k : (s_shm T X m t).testBit a = true
  · rw [if_pos k, if_pos rfl]
  · rw [if_neg k, if_neg (by decide)]
theorem Q_turned (hA : RA A) (hC : RC kt A S) (hM : RM s A M) (x y : Int32) : ans S M (f_X5_turned S x y) (f_X6_turned M x y) := by
  have b2 := hC.1.1.2.2.1
  have b3 := hC.1.1.2.2.2.1
  have hn := hC.2.1.1.1
  unfold f_X5_turned f_X6_turned
  rcases vld x (n := tn (aT A) 2) (by omega) with ⟨a, ha, rfl⟩ | hx
  · rw [C_manI hC ha, M_manI hM ha, bnd, bnd, if_neg ne10, if_neg ne10]
    rcases vld y (n := 2) (by decide) with ⟨w, hw, rfl⟩ | hy
    · rw [C_wIl (n := 2) (m := 2) rfl hw (by decide), M_wIl (n := 2) (m := 1) (by decide) hw (by decide), bnd, bnd, if_neg ne10, if_neg ne10]
      obtain ⟨S', v1, rc, c1⟩ := C_foreE hC
      obtain ⟨M', v2, rm, t2, c2⟩ := M_foreE hM
      have hE := xE_n hC
      rw [v1, v2, bnd, bnd, rc.2.1.2.2.2.1]
      have l1 := iter_FU (step := f_X5_turned_L36 S' (nI a) (nI w)) (fun k => (nI (bs (tn (aT A) 3) (anT (s_sm (aT A) (xE A) a) (cn (aX A)) k)), nI (cn (aX A) + k))) (300 - cn (aX A)) (by omega) (r := nI (bs (tn (aT A) 3) (anT (s_sm (aT A) (xE A) a) (cn (aX A)) (300 - cn (aX A))))) (fun k hk => by
        unfold f_X5_turned_L36
        rw [if_neg (show ¬ (299 : Int32) < nI (cn (aX A) + k) from nI_nlt (a := 299) (by omega) (by decide)), C_mirrorsWith rc c1 ha (by omega), bnd, nI_oN, bs_or, ← nI_succ]
        have e : (fun j => anT (s_sm (aT A) (xE A) a) (cn (aX A)) k j || s_sm (aT A) (xE A) a j (cn (aX A) + k)) = anT (s_sm (aT A) (xE A) a) (cn (aX A)) (k + 1) := by
          funext j
          rw [anT_s]
        rw [e]
        rfl) (by
        unfold f_X5_turned_L36
        rw [if_pos (show (299 : Int32) < nI (cn (aX A) + (300 - cn (aX A))) from nI_lt (a := 299) (by omega) (by omega))])
      obtain ⟨k1, k2⟩ := tM_live t2
      have l2 := iter_FU (step := f_X6_turned_L28 M' (nI a) (nI w)) (fun i => (nI (bs i (anT (s_sm (aT A) (xE A) a) (cn (aX A)) (300 - cn (aX A)))), nI i)) (tn (aT A) 3) (by omega) (r := nI (bs (tn (aT A) 3) (anT (s_sm (aT A) (xE A) a) (cn (aX A)) (300 - cn (aX A))))) (fun i hi => by
        have hb := bs_lt (anT (s_sm (aT A) (xE A) a) (cn (aX A)) (300 - cn (aX A))) i
        unfold f_X6_turned_L28
        rw [chk_t k1, k2, t2.2.2.2.1.2.2.2.1, if_neg (show ¬ nI (tn (aT A) 3) ≤ nI i from nI_ge hi (by omega)), rm.2.1.2.1]
        have g := M_orT (step := f_X6_turned_L48 M' (nI a) (nI w) (nI i)) (s_sm (aT A) (xE A) a) (m := i) (by omega) hb (cn (aX A)) (300 - cn (aX A)) (by omega) (fun j w' hj => by
          unfold f_X6_turned_L48
          rw [if_neg (show ¬ (299 : Int32) < nI (cn (aX A) + j) from nI_nlt (a := 299) (by omega) (by decide)), M_isSeenIn t2 c2 hi (by omega) ha, bnd, ← nI_succ]
          cases s_sm (aT A) (xE A) a i (cn (aX A) + j)
          · rfl
          · rw [if_neg (by decide), shl_b i (by omega), lt_e]
            rfl) (fun w' => by
          unfold f_X6_turned_L48
          rw [if_pos (show (299 : Int32) < nI (cn (aX A) + (300 - cn (aX A))) from nI_lt (a := 299) (by omega) (by omega))])
        rw [g, bnd, ← nI_succ, bs]) (by
        unfold f_X6_turned_L28
        rw [chk_t k1, k2, t2.2.2.2.1.2.2.2.1, if_pos (show nI (tn (aT A) 3) ≤ nI (tn (aT A) 3) from nI_le (Nat.le_refl _) (by omega))])
      have z0 : bs (tn (aT A) 3) (anT (s_sm (aT A) (xE A) a) (cn (aX A)) 0) = 0 := bs_z _ (fun _ _ => rfl)
      have hlt : bs (tn (aT A) 3) (anT (s_sm (aT A) (xE A) a) (cn (aX A)) (300 - cn (aX A))) < 256 := Nat.lt_of_lt_of_le (bs_lt _ _) (Nat.pow_le_pow_right (by decide) b3)
      rw [z0, Nat.add_zero] at l1
      change iter _ FU (nI 0, nI 0) = _ at l2
      change ans S M ((iter _ FU (nI 0, nI (cn (aX A)))).bind _) ((iter _ FU (nI 0, nI 0)).bind _)
      rw [l1, l2, bnd, bnd]
      rcases (show w = 0 ∨ w = 1 by omega) with rfl | rfl
      · rw [if_pos (show nI 0 = (0 : Int32) from rfl), if_pos (show nI 0 = (0 : Int32) from rfl), bitC _ hlt, bitM _ hlt, bnd, bnd]
        exact ans_ss hA rc rm _ rfl rfl
      · rw [if_neg (show ¬ nI 1 = (0 : Int32) by decide), if_neg (show ¬ nI 1 = (0 : Int32) by decide)]
        exact ans_ss hA rc rm _ rfl rfl
    · rw [C_wOl (n := 2) (m := 2) rfl hy, M_wOl (n := 2) (m := 1) (by decide) (by decide) hy, bnd, bnd, if_pos rfl, if_pos rfl]
      exact ans_ss hA hC hM (-1) rfl rfl
  · rw [C_manO hC hx, M_manO hM hx, bnd, bnd, if_pos rfl, if_pos rfl]
    exact ans_ss hA hC hM (-1) rfl rfl
end QH
