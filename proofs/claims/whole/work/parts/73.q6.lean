/-! QUESTIONS: rank for, jolt. -/
theorem up_findS {ρ : Type} {step : Int32 × St → Option ((Int32 × St) ⊕ ρ)} (P : St → Prop) (p : Nat → Bool) (R : Int32 → St → ρ) (d : Int32) (n : Nat) (hn : n < 40000) (S : St) (h0 : P S) (hs : ∀ i z, i < n → P z → ∃ z', P z' ∧ step (nI i, z) = some (if p i then .inr (R (nI i) z') else .inl (nI (i + 1), z'))) (hz : ∀ z, P z → step (nI n, z) = some (.inr (R d z))) : ∃ z, P z ∧ iter step FU ((0 : Int32), S) = some (R (match s_fst p n with
    | none => d
    | some i => nI i) z) := by
  have hi := iter_invF (step := step) (x := ((0 : Int32), S)) (fun i x => x.1 = nI i ∧ P x.2 ∧ s_fst p i = none) (fun w => ∃ z, P z ∧ w = R (match s_fst p n with
    | none => d
    | some i => nI i) z) n hn ⟨rfl, h0, rfl⟩ ?_ ?_
  · obtain ⟨w, hw, z, hp, rfl⟩ := hi
    exact ⟨z, hp, hw⟩
  · rintro i ⟨j, z⟩ hlt ⟨rfl, hp, he⟩
    obtain ⟨z', hp', hst⟩ := hs i z hlt hp
    show (∃ y, step (nI i, z) = some (.inl y) ∧ _) ∨ ∃ w, step (nI i, z) = some (.inr w) ∧ _
    rw [hst]
    by_cases c : p i = true
    · right
      refine ⟨R (nI i) z', by rw [if_pos c], z', hp', ?_⟩
      have h1 : s_fst p (i + 1) = some i := by rw [s_fst_succ he, if_pos c]
      have h2 : ∀ k, s_fst p (i + 1 + k) = some i := by
        intro k
        induction k with
        | zero => exact h1
        | succ k ih => exact s_fst_stay ih
      have := h2 (n - (i + 1))
      rw [show i + 1 + (n - (i + 1)) = n by omega] at this
      rw [this]
    · left
      exact ⟨(nI (i + 1), z'), by rw [if_neg c], rfl, hp', by rw [s_fst_succ he, if_neg c]⟩
  · rintro ⟨j, z⟩ ⟨rfl, hp, he⟩
    exact ⟨R d z, hz z hp, z, hp, by rw [he]⟩
theorem s_late_cg2 (T : TX) (X Y : CT) (hn : cn X = cn Y) (h0 : ∀ i, cf X 0 (cn X) i = cf Y 0 (cn Y) i) (h2 : ∀ i, cf X 2 (cn X) i = cf Y 2 (cn Y) i) (m rk : Nat) : s_late T X m rk = s_late T Y m rk := by
  have e : s_men T X (cf X 2 (cn X) m) (cn X) = s_men T Y (cf Y 2 (cn Y) m) (cn Y) := by
    unfold s_men
    congr 1
    funext a
    rw [h0 a, h2 m]
  unfold s_late
  rw [e, h2 m, hn]
theorem M_set1 {S : St} {T : TX} {X : CT} (hT : tb T) (h : cM 56 57 58 59 S T X) {i v : Nat} (hi : i < tn T 2) (hv : v ≤ 20) : cM 56 57 58 59 (up_A S (ky 0 56) (upd (st_A S (ky 0 56)) (36 * cn X + 6 + i) (nI v))) T (x_set X 1 i v) := by
  have h6 := hT.2.2.1
  have h8 := hT.2.2.2.1
  have ne : ∀ f, f < 100 → f ≠ 56 → st_A (up_A S (ky 0 56) (upd (st_A S (ky 0 56)) (36 * cn X + 6 + i) (nI v))) (ky 0 f) = st_A S (ky 0 f) := fun f hf hn => gAn _ _ (ky_ne (by omega) (by decide) (by omega))
  refine ⟨cb_set h.1 (Or.inr (Or.inl ⟨rfl, hv⟩)), h.2.1, fun t ht => ⟨fun a ha => ⟨?_, ?_⟩, fun m hm => ⟨?_, ?_, fun q => ?_⟩⟩, fun m hm => ?_⟩
  · rw [gAs, upd_n (by omega), cf_set_o (by decide)]
    exact ((h.2.2.1 t ht).1 a ha).1
  · rw [gAs, upd_e, cf_set_e]
    by_cases c : t = cn X ∧ a = i
    · rw [if_pos c, if_pos (by rw [c.1, c.2])]
    · rw [if_neg c, if_neg (fun q => c (by omega))]
      exact ((h.2.2.1 t ht).1 a ha).2
  · rw [gAs, upd_n (by omega), cf_set_o (by decide)]
    exact ((h.2.2.1 t ht).2 m hm).1
  · rw [gAs, upd_n (by omega)]
    exact ((h.2.2.1 t ht).2 m hm).2.1
  · rw [gAs, upd_n (by omega), cf_set_o (by decide)]
    exact ((h.2.2.1 t ht).2 m hm).2.2 trivial
  · rw [ne 58 (by decide) (by decide), ne 59 (by decide) (by decide)]
    exact h.2.2.2 m hm
section QF
variable {kt s : Nat} {A : AB} {S M M' : St} {T : TX} {X : CT}
theorem kL_S {kt : Nat} (q : Nat) (h : kL kt q) : kS kt q := Or.inr (Or.inl h)
theorem fsL_Q (q : Nat) (h : kM fsL q) : kM fsQ q := by
  obtain ⟨f, hf, e⟩ := h
  exact ⟨f, (by decide : ∀ f ∈ fsL, f ∈ fsQ) f hf, e⟩
theorem ans_ss (hA : RA A) {S' : St} (hC : RC kt A S') (hM : RM s A M') {f g : Option (Int32 × St)} (v : Int32) (hf : f = some (v, S')) (hg : g = some (v, M')) : ans S M f g := ⟨v, S', M', hf, hg, A, kt, s, hA, hC, hM⟩
def s_rf (T : TX) (X : CT) (m u : Nat) (rk : Nat) : Bool := decide (nI (cn X) - nI (s_late T X m rk) = nI u)
theorem Q_rankFor (hA : RA A) (hC : RC kt A S) (hM : RM s A M) (x y : Int32) : ans S M (f_X5_rankFor S x y) (f_X6_rankFor M x y) := by
  have b3 := hC.1.1.2.2.2.1
  have b2 := hC.1.1.2.2.1
  have hn := hC.2.1.1.1
  unfold f_X5_rankFor f_X6_rankFor
  rcases vld x (n := tn (aT A) 3) (by omega) with ⟨m, hm, rfl⟩ | hx
  · rw [C_mirI hC hm, M_mirI hM hm, bnd, bnd, if_neg ne10, if_neg ne10]
    rcases vld y (n := cn (aX A) + 1) (by omega) with ⟨u, hu, rfl⟩ | hy
    · rw [C_pasI hC hu, M_pasI hM hu, bnd, bnd, if_neg ne10, if_neg ne10]
      obtain ⟨M1, v, t1, c1, i1, hM1, o1⟩ := M_cop hM
      have hb := bkM_none hC.2.1.1 hm
      rw [v, bnd, hC.2.1.2.2.2.1, C_broken hC.1 hC.2.1 hm (Nat.le_refl _), bnd, chk_t (ib_nI (by omega) (by decide)), nI_clamp (by omega), (c1.2.2.2 m hm).1]
      by_cases c : s_brk (aX A) m (cn (aX A)) = true
      · rw [if_pos c, if_neg ne10, if_neg (fun e => hb.mp e c)]
        exact ans_ss hA hC hM1 (-2) rfl rfl
      · rw [if_neg c, if_pos rfl, if_pos (hb.mpr c), C_turned hC.1 hC.2.1 hm (Nat.le_refl _), bnd, c1.2.1, M_turned t1 c1 hm (Nat.le_refl _), bnd]
        by_cases d : cw (aX A) (cn (aX A)) m = true
        · rw [if_pos d, if_neg ne10, if_neg ne10]
          exact ans_ss hA hC hM1 (-2) rfl rfl
        · rw [if_neg d, if_pos rfl, if_pos rfl, C_turned hC.1 hC.2.1 hm (by omega), bnd, M_turned t1 c1 hm (by omega), bnd]
          by_cases e : cw (aX A) u m = true
          · rw [if_pos e, if_neg ne10, if_neg ne10]
            exact ans_ss hA hC hM1 (-2) rfl rfl
          · rw [if_neg e, if_pos rfl, if_pos rfl]
            have ho := (hC.1.1.2.2.2.2.2.2.2.2 m hm).2
            obtain ⟨S', ⟨q1, q2, q3⟩, l1⟩ := up_findS (step := f_X5_rankFor_L68 (nI m) (nI u) (nI (cn (aX A)))) (fun z => tC kt z (aT A) ∧ cC 10 kt z (aT A) (aX A) ∧ on (kL kt) S z) (s_rf (aT A) (aX A) m u) (fun v z => (v, z)) (-2) 21 (by decide) S ⟨hC.1, hC.2.1, on_refl _ _⟩ (fun i z hi hz => by
              obtain ⟨zT, zC, zo⟩ := hz
              obtain ⟨f, g, hw⟩ := C_lateWith zT zC hm (rk := i)
              have oL := on_law kt z f g
              refine ⟨_, ⟨tC_kC (k := 10) rfl zT (on_mono (fun q hq => Or.inr hq) oL), cC_kL zT zC oL, on_trans zo oL⟩, ?_⟩
              unfold f_X5_rankFor_L68
              rw [if_neg (show ¬ (20 : Int32) < nI i from nI_nlt (a := 20) (b := i) (by omega) (by decide)), hw, bnd]
              unfold s_rf
              by_cases k : nI (cn (aX A)) - nI (s_late (aT A) (aX A) m i) = nI u
              · rw [if_pos k, if_pos (decide_eq_true k)]
              · rw [if_neg k, if_neg (fun w => k (of_decide_eq_true w)), ← nI_succ]) (fun z hz => by
              unfold f_X5_rankFor_L68
              rw [if_pos (show (20 : Int32) < nI 21 from nI_lt (a := 20) (by decide) (by decide))])
            obtain ⟨M2, ⟨q4, q5, q6⟩, l2⟩ := up_findS (step := f_X6_rankFor_L58 (nI m) (nI u)) (fun z => tM s z (aT A) ∧ on (kM fsC) M1 z ∧ ∃ Y, cM 56 57 58 59 z (aT A) Y ∧ cn Y = cn (aX A) ∧ ∀ f t i, f ≠ 1 → cf Y f t i = cf (aX A) f t i) (s_rf (aT A) (aX A) m u) (fun v z => (v, z)) (-2) 21 (by decide) M1 ⟨t1, on_refl _ _, aX A, c1, rfl, fun _ _ _ _ => rfl⟩ (fun i z hi hz => by
              obtain ⟨zT, zo, Y, zC, yn, yf⟩ := hz
              have hs2 := zT.2.1
              have yn' := yn
              have own := (zT.2.2.2.2.2.2.1 m hm).2
              have oA := on_A (K := kM fsC) z (ky 0 56) (upd (st_A z (ky 0 56)) (36 * cn Y + 6 + tf (aT A) 5 m) (nI i)) ⟨56, by decide, rfl⟩
              have C2 := M_set1 zT.1 zC ho (v := i) (by omega)
              have T2 := tM_fsC zT oA
              obtain ⟨f, g, x, hw⟩ := M_late T2 C2 hm (rk := i)
              have hsl : s_late (aT A) (x_set Y 1 (tf (aT A) 5 m) i) m i = s_late (aT A) (aX A) m i := s_late_cg2 (aT A) (x_set Y 1 (tf (aT A) 5 m) i) (aX A) yn (fun j => by
                rw [cf_set_o (by decide)]
                show cf Y 0 (cn Y) j = _
                rw [yn, yf 0 _ _ (by decide)]) (fun j => by
                rw [cf_set_o (by decide)]
                show cf Y 2 (cn Y) j = _
                rw [yn, yf 2 _ _ (by decide)]) m i
              rw [hsl] at hw
              have oL := on_V (up_A z (ky 0 56) (upd (st_A z (ky 0 56)) (36 * cn Y + 6 + tf (aT A) 5 m) (nI i))) f g x
              refine ⟨up_V (up_A z (ky 0 56) (upd (st_A z (ky 0 56)) (36 * cn Y + 6 + tf (aT A) 5 m) (nI i))) f g x, ⟨tM_fsC T2 (on_mono fsL_C oL), on_trans zo (on_trans oA (on_mono fsL_C oL)), x_set Y 1 (tf (aT A) 5 m) i, cM_fsL C2 oL, yn, fun f t j hf => by rw [cf_set_o hf]; exact yf f t j hf⟩, ?_⟩
              unfold f_X6_rankFor_L58
              rw [if_neg (show ¬ (20 : Int32) < nI i from nI_nlt (a := 20) (b := i) (by omega) (by decide)), zT.2.2.1, i8, chk_t (ib_nI (by omega) (by decide)), nI_clamp (by omega), own, zC.2.1, i6', chk_t (ib_nI (by omega) (by decide)), nI_clamp (by omega), lt_e, hw, bnd, gI_A, zC.2.1, yn]
              unfold s_rf
              by_cases k : nI (cn (aX A)) - nI (s_late (aT A) (aX A) m i) = nI u
              · rw [if_pos k, if_pos (decide_eq_true k)]
              · rw [if_neg k, if_neg (fun w => k (of_decide_eq_true w)), ← nI_succ]) (fun z hz => by
              unfold f_X6_rankFor_L58
              rw [if_pos (show (20 : Int32) < nI 21 from nI_lt (a := 20) (by decide) (by decide))])
            exact ans_ss hA (RC_on hC (on_mono kL_S q3)) (RM_on hM1 (on_mono fsC_Q q5)) _ l1 l2
    · rw [C_pasO hC hy, M_pasO hM hy, bnd, bnd, if_pos rfl, if_pos rfl]
      exact ans_ss hA hC hM (-1) rfl rfl
  · rw [C_mirO hC hx, M_mirO hM hx, bnd, bnd, if_pos rfl, if_pos rfl]
    exact ans_ss hA hC hM (-1) rfl rfl
/-! jolt: how much later by each mirror; the most, the later ones, the earlier ones -/
def j_u (T : TX) (X : CT) (rk m : Nat) : Int32 := nI (s_late T X m rk) - nI (cf X 3 (cn X) m)
def j_in (T : TX) (X : CT) (a m : Nat) : Bool := decide (tf T 5 m = a) && !s_brk X m (cn X)
def j_st (T : TX) (X : CT) (a rk : Nat) : Nat → Option Int32 × Int32 × Int32
  | 0 => (none, 0, 0)
  | m + 1 => if j_in T X a m then (some (match (j_st T X a rk m).1 with
      | none => j_u T X rk m
      | some v => if v < j_u T X rk m then j_u T X rk m else v), (if j_u T X rk m ≤ 0 then (j_st T X a rk m).2.1 else (j_st T X a rk m).2.1 + j_u T X rk m), if j_u T X rk m ≤ 0 then (j_st T X a rk m).2.2 - j_u T X rk m else (j_st T X a rk m).2.2) else j_st T X a rk m
theorem j_u_b {T : TX} {X : CT} (h : cb T X) {m : Nat} (hm : m < tn T 3) (rk : Nat) : -240 ≤ (j_u T X rk m).toInt ∧ (j_u T X rk m).toInt ≤ 240 := by
  have h1 := s_late_le T X m rk
  have h2 := ((h.2.1 _ (Nat.le_refl (cn X))).2 m hm).2
  have e : (j_u T X rk m).toInt = (s_late T X m rk : Int) - cf X 3 (cn X) m := pk_sub_toInt (by omega) (by omega)
  rw [e]
  omega
theorem j_st_b {T : TX} {X : CT} (h : cb T X) (a rk : Nat) : ∀ m, m ≤ tn T 3 → ∀ v, (j_st T X a rk m).1 = some v → -240 ≤ v.toInt ∧ v.toInt ≤ 240 := by
  intro m
  induction m with
  | zero => intro _ v e; cases e
  | succ m ih =>
    intro hm v e
    have hu := j_u_b h (m := m) (by omega) rk
    rw [j_st] at e
    split at e
    · change some (match (j_st T X a rk m).1 with
        | none => j_u T X rk m
        | some v => if v < j_u T X rk m then j_u T X rk m else v) = some v at e
      cases hs : (j_st T X a rk m).1 with
      | none =>
        rw [hs] at e
        cases e
        exact hu
      | some w =>
        rw [hs] at e
        have hw := ih (by omega) w hs
        change some (if w < j_u T X rk m then j_u T X rk m else w) = some v at e
        split at e
        · cases e
          exact hu
        · cases e
          exact hw
    · exact ih (by omega) v e
theorem z_int : (0 : Int32).toInt = 0 := rfl
theorem j_pos {x u : Int32} (h : -240 ≤ u.toInt ∧ u.toInt ≤ 240) : x + i_max u 0 = (if u ≤ 0 then x else x + u) ∧ x + i_max (-u) 0 = (if u ≤ 0 then x - u else x) := by
  have hz := z_int
  have hneg : (-u).toInt = -u.toInt := by
    rw [Int32.toInt_neg]
    exact Int.bmod_eq_of_le (by omega) (by omega)
  by_cases c : u ≤ 0
  · have c' := Int32.le_iff_toInt_le.mp c
    rw [hz] at c'
    rw [if_pos c, if_pos c]
    have h2 : ¬ (-u) < 0 := fun q => by
      have := Int32.lt_iff_toInt_lt.mp q
      rw [hneg, hz] at this
      omega
    have h3 : i_max u 0 = 0 := by
      show (if u < 0 then 0 else u) = 0
      by_cases d : u < 0
      · rw [if_pos d]
      · rw [if_neg d]
        apply Int32.toInt_inj.mp
        have : ¬ u.toInt < 0 := fun q => d (Int32.lt_iff_toInt_lt.mpr (by rw [hz]; exact q))
        rw [hz]
        omega
    have h4 : i_max (-u) 0 = -u := if_neg h2
    rw [h3, h4, Int32.add_zero, Int32.sub_eq_add_neg]
    exact ⟨rfl, rfl⟩
  · rw [if_neg c, if_neg c]
    have c' : 0 < u.toInt := by
      rcases Int.lt_or_le 0 u.toInt with q | q
      · exact q
      · exact absurd (Int32.le_iff_toInt_le.mpr (by rw [hz]; exact q)) c
    have h3 : i_max u 0 = u := if_neg (fun q => by
      have := Int32.lt_iff_toInt_lt.mp q
      rw [hz] at this
      omega)
    have h4 : i_max (-u) 0 = 0 := if_pos (Int32.lt_iff_toInt_lt.mpr (by rw [hneg, hz]; omega))
    rw [h3, h4, Int32.add_zero]
    exact ⟨rfl, rfl⟩
def mo (d : Int32) : Option Int32 → Int32
  | none => d
  | some v => v
theorem j_most {d : Int32} (hd : d.toInt = -1000) (o : Option Int32) {u : Int32} (h : -240 ≤ u.toInt ∧ u.toInt ≤ 240) : i_max (mo d o) u = mo d (some (match o with
    | none => u
    | some v => if v < u then u else v)) := by
  cases o with
  | none =>
    show (if d < u then u else d) = u
    rw [if_pos (Int32.lt_iff_toInt_lt.mpr (by omega))]
  | some v => rfl
theorem j_some {α : Type} (o : Option Int32) (u : Int32) (G : Int32 → Int32 → α) : (if (if o.isSome then (1 : Int32) else 0) = 0 then G 1 u else if u ≤ mo 0 o then G 1 (mo 0 o) else G 1 u) = G 1 (mo 0 (some (match o with
    | none => u
    | some v => if v < u then u else v))) := by
  cases o with
  | none => exact if_pos rfl
  | some v =>
    rw [if_neg (show ¬ (if (some v).isSome = true then (1 : Int32) else 0) = 0 from ne10)]
    show (if u ≤ v then G 1 v else G 1 u) = G 1 (if v < u then u else v)
    by_cases c : v < u
    · rw [if_pos c, if_neg (Int32.not_le.mpr c)]
    · rw [if_neg c, if_pos (Int32.not_lt.mp c)]
theorem rk_eq (y : Int32) : f_X5_isRank y = (f_X5_within y (nI 21)).bind some := by
  unfold f_X5_isRank f_X5_within
  by_cases c : y < 0
  · rw [if_pos c, if_pos c]; rfl
  · rw [if_neg c, if_neg c]
    obtain ⟨j, hj, rfl⟩ := nI_of c
    by_cases d : j ≤ 20
    · rw [if_neg (show ¬ nI 21 ≤ nI j from nI_ge (by omega) (by decide)), if_neg (show ¬ (20 : Int32) < nI j from nI_nlt (a := 20) (b := j) d (by decide))]
      rfl
    · rw [if_pos (show nI 21 ≤ nI j from nI_le (by omega) hj), if_pos (show (20 : Int32) < nI j from nI_lt (a := 20) (by omega) hj)]
      rfl
theorem rk_i {r : Nat} (h : r < 21) : f_X5_isRank (nI r) = some 1 := by rw [rk_eq, C_wi h (by decide)]; rfl
theorem rk_o {y : Int32} (h : y < 0 ∨ nI 21 ≤ y) : f_X5_isRank y = some 0 := by rw [rk_eq, C_wo h]; rfl
theorem m1000 : (-1000 : Int32).toInt = -1000 := by decide
theorem C_jolt (hC : RC kt A S) {a r : Nat} (ha : a < tn (aT A) 2) (x : Int32) : ∃ S', iter (f_X5_jolt_L50 (nI a) (nI r) x (nI (cn (aX A)))) FU ((-1000 : Int32), (0 : Int32), (0 : Int32), (0 : Int32), S) = some (mo (-1000) (j_st (aT A) (aX A) a r (tn (aT A) 3)).1, (j_st (aT A) (aX A) a r (tn (aT A) 3)).2.1, (j_st (aT A) (aX A) a r (tn (aT A) 3)).2.2, S') ∧ RC kt A S' := by
  have b3 := hC.1.1.2.2.2.1
  have b2 := hC.1.1.2.2.1
  have hn := hC.2.1.1.1
  have hi := iter_invF (step := f_X5_jolt_L50 (nI a) (nI r) x (nI (cn (aX A)))) (x := ((-1000 : Int32), (0 : Int32), (0 : Int32), (0 : Int32), S)) (fun i z => z.1 = mo (-1000) (j_st (aT A) (aX A) a r i).1 ∧ z.2.1 = (j_st (aT A) (aX A) a r i).2.1 ∧ z.2.2.1 = (j_st (aT A) (aX A) a r i).2.2 ∧ z.2.2.2.1 = nI i ∧ RC kt A z.2.2.2.2) (fun w => ∃ S', w = (mo (-1000) (j_st (aT A) (aX A) a r (tn (aT A) 3)).1, (j_st (aT A) (aX A) a r (tn (aT A) 3)).2.1, (j_st (aT A) (aX A) a r (tn (aT A) 3)).2.2, S') ∧ RC kt A S') (tn (aT A) 3) (by omega) ⟨rfl, rfl, rfl, rfl, hC⟩ ?_ ?_
  · obtain ⟨w, hw, S', rfl, hr⟩ := hi
    exact ⟨S', hw, hr⟩
  · rintro i ⟨z1, z2, z3, z4, z⟩ hlt ⟨e1, e2, e3, e4, hz⟩
    change z1 = _ at e1
    change z2 = _ at e2
    change z3 = _ at e3
    change z4 = _ at e4
    change RC kt A z at hz
    subst e1 e2 e3 e4
    left
    have ho := (hC.1.1.2.2.2.2.2.2.2.2 i hlt).2
    show ∃ y, f_X5_jolt_L50 (nI a) (nI r) x (nI (cn (aX A))) (mo (-1000) (j_st (aT A) (aX A) a r i).1, (j_st (aT A) (aX A) a r i).2.1, (j_st (aT A) (aX A) a r i).2.2, nI i, z) = _ ∧ _
    unfold f_X5_jolt_L50
    rw [chk_t (RC_T hz), hz.2.2.1.1, hz.1.2.2.1 3 (by decide), if_neg (show ¬ nI (tn (aT A) 3) ≤ nI i from nI_ge hlt (by omega)), chk_t hz.1.2.1, C_owner hz.1 hlt, bnd]
    rw [j_st]
    by_cases c : tf (aT A) 5 i = a
    · rw [if_pos (by rw [c]), C_broken hz.1 hz.2.1 hlt (Nat.le_refl _), bnd]
      by_cases d : s_brk (aX A) i (cn (aX A)) = true
      · have hj : ¬ j_in (aT A) (aX A) a i = true := by simp [j_in, d]
        rw [if_pos d, if_neg ne10, if_neg hj, ← nI_succ]
        exact ⟨_, rfl, rfl, rfl, rfl, rfl, hz⟩
      · have hj : j_in (aT A) (aX A) a i = true := by simp [j_in, d, c]
        rw [if_neg d, if_pos rfl, if_pos hj]
        obtain ⟨f, g, hw⟩ := C_lateWith hz.1 hz.2.1 hlt (rk := r)
        have oL := on_law kt z f g
        have hz2 := RC_on hz (on_mono kL_S oL)
        have hu := j_u_b hC.2.1.1 hlt r
        rw [hw, bnd, C_late hz2.1 hz2.2.1 hlt (Nat.le_refl _) trivial, bnd, lt_e, lt_e, ← nI_succ]
        refine ⟨_, rfl, ?_, ?_, ?_, rfl, hz2⟩
        · exact j_most m1000 _ hu
        · exact (j_pos hu).1
        · exact (j_pos hu).2
    · have hj : ¬ j_in (aT A) (aX A) a i = true := by simp [j_in, c]
      rw [if_neg (fun q => c ((nI_eq (by omega) (by omega)).mp q)), if_neg hj, ← nI_succ]
      exact ⟨_, rfl, rfl, rfl, rfl, rfl, hz⟩
  · rintro ⟨z1, z2, z3, z4, z⟩ ⟨e1, e2, e3, e4, hz⟩
    change z1 = _ at e1
    change z2 = _ at e2
    change z3 = _ at e3
    change z4 = _ at e4
    change RC kt A z at hz
    subst e1 e2 e3 e4
    refine ⟨_, ?_, z, rfl, hz⟩
    unfold f_X5_jolt_L50
    rw [chk_t (RC_T hz), hz.2.2.1.1, hz.1.2.2.1 3 (by decide), if_pos (show nI (tn (aT A) 3) ≤ nI (tn (aT A) 3) from nI_le (Nat.le_refl _) (by omega))]
theorem M_jolt {M1 : St} (hM1 : RM s A M1) (t1 : tM s M1 (aT A)) (c1 : cM 56 57 58 59 M1 (aT A) (aX A)) {a r : Nat} (ha : a < tn (aT A) 2) (x : Int32) : ∃ M', iter (f_X6_jolt_L50 (nI a) (nI r) x) FU ((0 : Int32), (0 : Int32), (0 : Int32), (0 : Int32), (0 : Int32), M1) = some (mo 0 (j_st (aT A) (aX A) a r (tn (aT A) 3)).1, (j_st (aT A) (aX A) a r (tn (aT A) 3)).2.1, (j_st (aT A) (aX A) a r (tn (aT A) 3)).2.2, M') ∧ RM s A M' := by
  have b3 := t1.1.2.2.2.1
  have b2 := t1.1.2.2.1
  have hn := c1.1.1
  have hi := iter_invF (step := f_X6_jolt_L50 (nI a) (nI r) x) (x := ((0 : Int32), (0 : Int32), (0 : Int32), (0 : Int32), (0 : Int32), M1)) (fun i z => z.1 = (if (j_st (aT A) (aX A) a r i).1.isSome then (1 : Int32) else 0) ∧ z.2.1 = mo 0 (j_st (aT A) (aX A) a r i).1 ∧ z.2.2.1 = (j_st (aT A) (aX A) a r i).2.1 ∧ z.2.2.2.1 = (j_st (aT A) (aX A) a r i).2.2 ∧ z.2.2.2.2.1 = nI i ∧ tM s z.2.2.2.2.2 (aT A) ∧ cM 56 57 58 59 z.2.2.2.2.2 (aT A) (aX A) ∧ RM s A z.2.2.2.2.2) (fun w => ∃ M', w = (mo 0 (j_st (aT A) (aX A) a r (tn (aT A) 3)).1, (j_st (aT A) (aX A) a r (tn (aT A) 3)).2.1, (j_st (aT A) (aX A) a r (tn (aT A) 3)).2.2, M') ∧ RM s A M') (tn (aT A) 3) (by omega) ⟨rfl, rfl, rfl, rfl, rfl, t1, c1, hM1⟩ ?_ ?_
  · obtain ⟨w, hw, S', rfl, hr⟩ := hi
    exact ⟨S', hw, hr⟩
  · rintro i ⟨z0, z1, z2, z3, z4, z⟩ hlt ⟨e0, e1, e2, e3, e4, zT, zC, hz⟩
    change z0 = _ at e0
    change z1 = _ at e1
    change z2 = _ at e2
    change z3 = _ at e3
    change z4 = _ at e4
    change tM s z (aT A) at zT
    change cM 56 57 58 59 z (aT A) (aX A) at zC
    change RM s A z at hz
    subst e0 e1 e2 e3 e4
    left
    have hs2 := zT.2.1
    obtain ⟨l1, l2⟩ := tM_live zT
    have own := (zT.2.2.2.2.2.2.1 i hlt).2
    have ho := (zT.1.2.2.2.2.2.2.2.2 i hlt).2
    have hb := bkM_none zC.1 hlt
    show ∃ y, f_X6_jolt_L50 (nI a) (nI r) x ((if (j_st (aT A) (aX A) a r i).1.isSome then (1 : Int32) else 0), mo 0 (j_st (aT A) (aX A) a r i).1, (j_st (aT A) (aX A) a r i).2.1, (j_st (aT A) (aX A) a r i).2.2, nI i, z) = _ ∧ _
    unfold f_X6_jolt_L50
    rw [chk_t l1, l2, zT.2.2.2.1.2.2.2.1, if_neg (show ¬ nI (tn (aT A) 3) ≤ nI i from nI_ge hlt (by omega)), zT.2.2.1, i8, chk_t (ib_nI (by omega) (by decide)), nI_clamp (by omega), own]
    rw [j_st]
    by_cases c : tf (aT A) 5 i = a
    · rw [if_pos (by rw [c]), chk_t (ib_nI (by omega) (by decide)), nI_clamp (by omega), (zC.2.2.2 i hlt).1]
      by_cases d : s_brk (aX A) i (cn (aX A)) = true
      · have hj : ¬ j_in (aT A) (aX A) a i = true := by simp [j_in, d]
        rw [if_neg (fun e => hb.mp e d), if_neg hj, ← nI_succ]
        exact ⟨_, rfl, rfl, rfl, rfl, rfl, rfl, zT, zC, hz⟩
      · have hj : j_in (aT A) (aX A) a i = true := by simp [j_in, d, c]
        rw [if_pos (hb.mpr d), if_pos hj]
        obtain ⟨f, g, v, hw⟩ := M_late zT zC hlt (rk := r)
        have oL := on_V z f g v
        have hz2 := RM_on hz (on_mono fsL_Q oL)
        have zT2 := tM_fsC zT (on_mono fsL_C oL)
        have zC2 := cM_fsL zC oL
        have e28 : (36 : Int32) * nI (cn (aX A)) + 28 + nI i = nI (36 * cn (aX A) + 28 + i) := i36 (cn (aX A)) 28 i
        rw [hw, bnd, zC2.2.1, e28, chk_t (ib_nI (by omega) (by decide)), nI_clamp (by omega), ((zC2.2.2.1 _ (Nat.le_refl _)).2 i hlt).2.2 trivial, lt_e]
        have hJ : ∀ w : Int32, f_X6_jolt_J141 (up_V z f g v) (nI a) (nI r) x w (j_st (aT A) (aX A) a r i).2.1 (j_st (aT A) (aX A) a r i).2.2 (nI i) (j_u (aT A) (aX A) r i) = some (.inl (1, w, (if j_u (aT A) (aX A) r i ≤ 0 then (j_st (aT A) (aX A) a r i).2.1 else (j_st (aT A) (aX A) a r i).2.1 + j_u (aT A) (aX A) r i), (if j_u (aT A) (aX A) r i ≤ 0 then (j_st (aT A) (aX A) a r i).2.2 - j_u (aT A) (aX A) r i else (j_st (aT A) (aX A) a r i).2.2), nI (i + 1), up_V z f g v)) := by
          intro w
          unfold f_X6_jolt_J141
          rw [← nI_succ]
          by_cases k : j_u (aT A) (aX A) r i ≤ 0
          · rw [if_pos k, if_pos k, if_pos k]
          · rw [if_neg k, if_neg k, if_neg k]
        have hG := j_some (j_st (aT A) (aX A) a r i).1 (j_u (aT A) (aX A) r i) (fun (_ : Int32) w => f_X6_jolt_J141 (up_V z f g v) (nI a) (nI r) x w (j_st (aT A) (aX A) a r i).2.1 (j_st (aT A) (aX A) a r i).2.2 (nI i) (j_u (aT A) (aX A) r i))
        refine ⟨_, hG.trans (hJ _), rfl, rfl, rfl, rfl, rfl, zT2, zC2, hz2⟩
    · have hj : ¬ j_in (aT A) (aX A) a i = true := by simp [j_in, c]
      rw [if_neg (fun q => c ((nI_eq (by omega) (by omega)).mp q)), if_neg hj, ← nI_succ]
      exact ⟨_, rfl, rfl, rfl, rfl, rfl, rfl, zT, zC, hz⟩
  · rintro ⟨z0, z1, z2, z3, z4, z⟩ ⟨e0, e1, e2, e3, e4, zT, zC, hz⟩
    change z0 = _ at e0
    change z1 = _ at e1
    change z2 = _ at e2
    change z3 = _ at e3
    change z4 = _ at e4
    change tM s z (aT A) at zT
    change RM s A z at hz
    subst e0 e1 e2 e3 e4
    obtain ⟨l1, l2⟩ := tM_live zT
    refine ⟨_, ?_, z, rfl, hz⟩
    unfold f_X6_jolt_L50
    rw [chk_t l1, l2, zT.2.2.2.1.2.2.2.1, if_pos (show nI (tn (aT A) 3) ≤ nI (tn (aT A) 3) from nI_le (Nat.le_refl _) (by omega))]
theorem Q_jolt (hA : RA A) (hC : RC kt A S) (hM : RM s A M) (x y z : Int32) : ans S M (f_X5_jolt S x y z) (f_X6_jolt M x y z) := by
  have b2 := hC.1.1.2.2.1
  unfold f_X5_jolt f_X6_jolt
  rcases vld x (n := tn (aT A) 2) (by omega) with ⟨a, ha, rfl⟩ | hx
  · rw [C_manI hC ha, M_manI hM ha, bnd, bnd, if_neg ne10, if_neg ne10]
    rcases vld y (n := 21) (by decide) with ⟨r, hr, rfl⟩ | hy
    · rw [rk_i hr, M_wIl (n := 21) (m := 20) (by decide) hr (by decide), bnd, bnd, if_neg ne10, if_neg ne10]
      rcases vld z (n := 3) (by decide) with ⟨w, hw, rfl⟩ | hz
      · rw [C_wIl (n := 3) (m := 3) rfl hw (by decide), M_wIl (n := 3) (m := 2) (by decide) hw (by decide), bnd, bnd, if_neg ne10, if_neg ne10]
        obtain ⟨M1, v, t1, c1, i1, hM1, o1⟩ := M_cop hM
        obtain ⟨S', k1, rc⟩ := C_jolt hC ha (r := r) (nI w)
        obtain ⟨M', k2, rm⟩ := M_jolt hM1 t1 c1 ha (r := r) (nI w)
        have hb := j_st_b hC.2.1.1 a r (tn (aT A) 3) (Nat.le_refl _)
        rw [hC.2.1.2.2.2.1, k1, v, bnd, bnd, k2, bnd]
        have hmost : (if mo (-1000) (j_st (aT A) (aX A) a r (tn (aT A) 3)).1 = -1000 then f_X5_jolt_J165 S' (nI w) (j_st (aT A) (aX A) a r (tn (aT A) 3)).2.1 (j_st (aT A) (aX A) a r (tn (aT A) 3)).2.2 0 else f_X5_jolt_J165 S' (nI w) (j_st (aT A) (aX A) a r (tn (aT A) 3)).2.1 (j_st (aT A) (aX A) a r (tn (aT A) 3)).2.2 (mo (-1000) (j_st (aT A) (aX A) a r (tn (aT A) 3)).1)) = f_X5_jolt_J165 S' (nI w) (j_st (aT A) (aX A) a r (tn (aT A) 3)).2.1 (j_st (aT A) (aX A) a r (tn (aT A) 3)).2.2 (mo 0 (j_st (aT A) (aX A) a r (tn (aT A) 3)).1) := by
          cases e : (j_st (aT A) (aX A) a r (tn (aT A) 3)).1 with
          | none => exact if_pos rfl
          | some v =>
            have := hb v e
            exact if_neg (fun (q : v = -1000) => by rw [q, m1000] at this; omega)
        change ans S M (if mo (-1000) (j_st (aT A) (aX A) a r (tn (aT A) 3)).1 = -1000 then f_X5_jolt_J165 S' (nI w) (j_st (aT A) (aX A) a r (tn (aT A) 3)).2.1 (j_st (aT A) (aX A) a r (tn (aT A) 3)).2.2 0 else f_X5_jolt_J165 S' (nI w) (j_st (aT A) (aX A) a r (tn (aT A) 3)).2.1 (j_st (aT A) (aX A) a r (tn (aT A) 3)).2.2 (mo (-1000) (j_st (aT A) (aX A) a r (tn (aT A) 3)).1)) _
        rw [hmost]
        unfold f_X5_jolt_J165
        rcases (show w = 0 ∨ w = 1 ∨ w = 2 by omega) with rfl | rfl | rfl
        · exact ans_ss hA rc rm _ (if_pos (show nI 0 = (0 : Int32) from rfl)) (if_pos (show nI 0 = (0 : Int32) from rfl))
        · exact ans_ss hA rc rm _ ((if_neg (show ¬ nI 1 = (0 : Int32) by decide)).trans (if_pos (show nI 1 = (1 : Int32) from rfl))) ((if_neg (show ¬ nI 1 = (0 : Int32) by decide)).trans (if_pos (show nI 1 = (1 : Int32) from rfl)))
        · exact ans_ss hA rc rm _ ((if_neg (show ¬ nI 2 = (0 : Int32) by decide)).trans (if_neg (show ¬ nI 2 = (1 : Int32) by decide))) ((if_neg (show ¬ nI 2 = (0 : Int32) by decide)).trans (if_neg (show ¬ nI 2 = (1 : Int32) by decide)))
      · rw [C_wOl (n := 3) (m := 3) rfl hz, M_wOl (n := 3) (m := 2) (by decide) (by decide) hz, bnd, bnd, if_pos rfl, if_pos rfl]
        exact ans_ss hA hC hM (-1000) rfl rfl
    · rw [rk_o hy, M_wOl (n := 21) (m := 20) (by decide) (by decide) hy, bnd, bnd, if_pos rfl, if_pos rfl]
      exact ans_ss hA hC hM (-1000) rfl rfl
  · rw [C_manO hC hx, M_manO hM hx, bnd, bnd, if_pos rfl, if_pos rfl]
    exact ans_ss hA hC hM (-1000) rfl rfl
end QF
