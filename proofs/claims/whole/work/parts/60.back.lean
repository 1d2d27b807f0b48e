/-! UNDONE: the class's. -/
theorem nkP {c f : Nat} (hc : c ≠ 6) (hf : f < 100) : ¬ kP (ky c f) := by
  intro q
  rcases q with e | e | e
  · exact hc ((ky_iff hf (by decide)).mp e).1
  · exact hc ((ky_iff hf (by decide)).mp e).1
  · exact hc ((ky_iff hf (by decide)).mp e).1
theorem tC_P {kt : Nat} {S S' : St} {T : TX} (hT : tC kt S T) (o : on kP S S') : tC kt S' T := tC_on hT o (fun f hf => nkP (by rcases hT.2.1 with rfl | rfl <;> decide) (by omega)) (fun f hf => nkP (by rcases hT.2.1 with rfl | rfl <;> decide) (by omega))
theorem cC_P {p : Nat → Nat → Prop} {k kt : Nat} {S S' : St} {T : TX} {X : CT} (h : cCp p k kt S T X) (o : on kP S S') : cCp p k kt S' T X := cC_on h o (fun f hf => nkP (by
  have := h.2.1
  rintro rfl
  cases this) (by omega))
theorem C_goBack {k kt b : Nat} {S : St} {T : TX} {X Y : CT} (hT : tC kt S T) (h : cC k kt S T X) (hY : cb T Y) (hl : okL T Y) (hp : pre T Y X) (hb : b + 30 ≤ 600) (he : hE_C (st_A S (ky 6 0)) b T Y) : ∃ S', f_X0_goBackTo k (ky 6 0) S (nI b) = some S' ∧ tC kt S' T ∧ cC k kt S' T Y ∧ on (kC k kt) S S' := by
  have hk := h.2.1
  have h1 := h.1.1
  have hy := hY.1
  have h6 := hT.1.2.2.1
  have h8 := hT.1.2.2.2.1
  have LK : wk_n wd_C (ky 6 0) = 600 := lnC (show cl_C 6 = 2 from rfl) (by decide) rfl
  have L2 : wk_n wd_C (ky k 2) = 1800 := lnC hk (by decide) rfl
  have L3 : wk_n wd_C (ky k 3) = 1800 := lnC hk (by decide) rfl
  have L4 : wk_n wd_C (ky k 4) = 2400 := lnC hk (by decide) rfl
  have L6 : wk_n wd_C (ky k 6) = 300 := lnC hk (by decide) rfl
  have L7 : wk_n wd_C (ky k 7) = 8 := lnC hk (by decide) rfl
  have hk6 : k ≠ 6 := by
    rintro rfl
    cases hk
  have nk : ∀ f, f < 9 → ¬ ky 6 0 = ky k f := fun f hf => ky_ne (by omega) (by omega) (fun q => hk6 q.1.symm)
  have nn : ∀ a b, a < 9 → b < 9 → a ≠ b → ¬ ky k a = ky k b := fun a b ha hb hab => ky_ne (by omega) (by omega) (fun q => hab q.2)
  have e1 : nI b + (1 : Int32) = nI (b + 1) := nI_1 b
  have e2 : nI b + (2 : Int32) = nI (b + 2) := nI_add b 2
  have e8 : nI (b + 2) + (6 : Int32) = nI (b + 8) := nI_add (b + 2) 6
  have e14 : nI (b + 2) + (12 : Int32) = nI (b + 14) := nI_add (b + 2) 12
  have e22 : nI (b + 14) + (8 : Int32) = nI (b + 22) := nI_add (b + 14) 8
  have m6 : nI (cn Y) * (6 : Int32) = nI (cn Y * 6) := pk_mul _ 6
  have m8 : nI (cn Y) * (8 : Int32) = nI (cn Y * 8) := pk_mul _ 8
  have inK : ∀ f, f < 9 → 1 ≤ f → kC k kt (ky k f) := fun f h1 h2 => Or.inl ⟨f, h1, h2, rfl⟩
  have o1 := on_I S (ky k 1) (nI (cn Y)) (inK 1 (by decide) (by decide))
  have A1 : st_A (up_I S (ky k 1) (nI (cn Y))) = st_A S := rfl
  have P1 : st_P (up_I S (ky k 1) (nI (cn Y))) = st_P S := rfl
  have I1 : st_I (up_I S (ky k 1) (nI (cn Y))) (ky k 1) = nI (cn Y) := gIs ..
  generalize hS1 : up_I S (ky k 1) (nI (cn Y)) = S1 at o1 A1 P1 I1
  -- one copy
  have cpy : ∀ (Z : St) (f N sp dp n : Nat), 1 ≤ f → f < 9 → wk_n wd_C (ky k f) = N → N < 2 ^ 31 → sp + n ≤ 600 → dp + n ≤ N → ∃ Z', f_X5_copy (ky 6 0) (ky k f) Z (nI sp) (nI dp) (nI n) = some Z' ∧ on (kC k kt) Z Z' ∧ st_I Z' = st_I Z ∧ st_P Z' = st_P Z ∧ (∀ q, ¬ q = ky k f → st_A Z' q = st_A Z q) ∧ (∀ j, dp ≤ j → j < dp + n → st_A Z' (ky k f) j = st_A Z (ky 6 0) (sp + (j - dp))) ∧ ∀ j, j < dp ∨ dp + n ≤ j → st_A Z' (ky k f) j = st_A Z (ky k f) j := by
    intro Z f N sp dp n f1 f9 hl hN hs hd
    refine ⟨_, copy_2 LK hl (by decide) hN hs hd, on_A _ _ _ (inK f f9 f1), rfl, rfl, fun q hq => gAn _ _ hq, fun j j1 j2 => ?_, fun j j1 => ?_⟩
    · rw [gAs, pk_cpy_in j1 j2]
    · rw [gAs, pk_cpy_out j1]
  have w2 := put_nI (S := S1) (v := st_A S1 (ky 6 0) (b + 1)) L6 (i := cn Y) (by omega) (by decide)
  have o2 := on_A S1 (ky k 6) (upd (st_A S1 (ky k 6)) (cn Y) (st_A S1 (ky 6 0) (b + 1))) (inK 6 (by decide) (by decide))
  have I2 : st_I (up_A S1 (ky k 6) (upd (st_A S1 (ky k 6)) (cn Y) (st_A S1 (ky 6 0) (b + 1)))) = st_I S1 := rfl
  have P2 : st_P (up_A S1 (ky k 6) (upd (st_A S1 (ky k 6)) (cn Y) (st_A S1 (ky 6 0) (b + 1)))) = st_P S1 := rfl
  have n2 : ∀ q, ¬ q = ky k 6 → st_A (up_A S1 (ky k 6) (upd (st_A S1 (ky k 6)) (cn Y) (st_A S1 (ky 6 0) (b + 1)))) q = st_A S1 q := fun q hq => gAn _ _ hq
  have r2 : st_A (up_A S1 (ky k 6) (upd (st_A S1 (ky k 6)) (cn Y) (st_A S1 (ky 6 0) (b + 1)))) (ky k 6) = upd (st_A S1 (ky k 6)) (cn Y) (st_A S1 (ky 6 0) (b + 1)) := gAs ..
  generalize up_A S1 (ky k 6) (upd (st_A S1 (ky k 6)) (cn Y) (st_A S1 (ky 6 0) (b + 1))) = S2 at w2 o2 I2 P2 n2 r2
  obtain ⟨S3, w3, o3, I3, P3, n3, i3, u3⟩ := cpy S2 2 1800 (b + 2) (cn Y * 6) 6 (by decide) (by decide) L2 (by decide) (by omega) (by omega)
  obtain ⟨S4, w4, o4, I4, P4, n4, i4, u4⟩ := cpy S3 3 1800 (b + 8) (cn Y * 6) 6 (by decide) (by decide) L3 (by decide) (by omega) (by omega)
  obtain ⟨S5, w5, o5, I5, P5, n5, i5, u5⟩ := cpy S4 4 2400 (b + 14) (cn Y * 8) 8 (by decide) (by decide) L4 (by decide) (by omega) (by omega)
  obtain ⟨S6, w6, o6, I6, P6, n6, i6, u6⟩ := cpy S5 7 8 (b + 22) 0 8 (by decide) (by decide) L7 (by decide) (by omega) (by omega)
  have oA := on_trans o1 (on_trans o2 (on_trans o3 (on_trans o4 (on_trans o5 o6))))
  have K2 : st_A S2 (ky 6 0) = st_A S (ky 6 0) := by rw [n2 _ (nk 6 (by decide)), A1]
  have K3 : st_A S3 (ky 6 0) = st_A S (ky 6 0) := by rw [n3 _ (nk 2 (by decide)), K2]
  have K4 : st_A S4 (ky 6 0) = st_A S (ky 6 0) := by rw [n4 _ (nk 3 (by decide)), K3]
  have K5 : st_A S5 (ky 6 0) = st_A S (ky 6 0) := by rw [n5 _ (nk 4 (by decide)), K4]
  have C6 : cCp (fun t _ => t < cn Y) k kt S6 T Y := by
    refine ⟨hY, hk, by rw [P6, P5, P4, P3, P2, P1, h.2.2.1], by rw [I6, I5, I4, I3, I2, I1], fun t ht => ?_, fun m hm => ?_⟩
    · have f2 : st_A S6 (ky k 2) = st_A S3 (ky k 2) := by rw [n6 _ (nn 2 7 (by decide) (by decide) (by decide)), n5 _ (nn 2 4 (by decide) (by decide) (by decide)), n4 _ (nn 2 3 (by decide) (by decide) (by decide))]
      have f3 : st_A S6 (ky k 3) = st_A S4 (ky k 3) := by rw [n6 _ (nn 3 7 (by decide) (by decide) (by decide)), n5 _ (nn 3 4 (by decide) (by decide) (by decide))]
      have f4 : st_A S6 (ky k 4) = st_A S5 (ky k 4) := by rw [n6 _ (nn 4 7 (by decide) (by decide) (by decide))]
      have f5 : st_A S6 (ky k 5) = st_A S (ky k 5) := by rw [n6 _ (nn 5 7 (by decide) (by decide) (by decide)), n5 _ (nn 5 4 (by decide) (by decide) (by decide)), n4 _ (nn 5 3 (by decide) (by decide) (by decide)), n3 _ (nn 5 2 (by decide) (by decide) (by decide)), n2 _ (nn 5 6 (by decide) (by decide) (by decide)), A1]
      have f6 : st_A S6 (ky k 6) = st_A S2 (ky k 6) := by rw [n6 _ (nn 6 7 (by decide) (by decide) (by decide)), n5 _ (nn 6 4 (by decide) (by decide) (by decide)), n4 _ (nn 6 3 (by decide) (by decide) (by decide)), n3 _ (nn 6 2 (by decide) (by decide) (by decide))]
      rw [f2, f3, f4, f5, f6]
      by_cases c : t = cn Y
      · subst c
        refine ⟨fun a ha => ⟨?_, ?_⟩, fun m hm => ⟨?_, fun q => absurd q (Nat.lt_irrefl _)⟩, ?_⟩
        · rw [i3 _ (by omega) (by omega), K2, show b + 2 + (cn Y * 6 + a - cn Y * 6) = b + 2 + a by omega]
          exact (he.2.2.1 a ha).1
        · rw [i4 _ (by omega) (by omega), K3, show b + 8 + (cn Y * 6 + a - cn Y * 6) = b + 8 + a by omega]
          exact (he.2.2.1 a ha).2
        · rw [i5 _ (by omega) (by omega), K4, show b + 14 + (cn Y * 8 + m - cn Y * 8) = b + 14 + m by omega]
          exact (he.2.2.2 m hm).1
        · rw [r2, upd_s, A1]
          exact he.2.1
      · have ht2 : t < cn Y := by omega
        have g := h.2.2.2.2.1 t (by have := hp.1; omega)
        have q := hp.2.1 t ht2
        refine ⟨fun a ha => ⟨?_, ?_⟩, fun m hm => ⟨?_, fun _ => ?_⟩, ?_⟩
        · rw [u3 _ (by omega), n2 _ (nn 2 6 (by decide) (by decide) (by decide)), A1, (g.1 a ha).1, (q.1 a ha).1]
        · rw [u4 _ (by omega), n3 _ (nn 3 2 (by decide) (by decide) (by decide)), n2 _ (nn 3 6 (by decide) (by decide) (by decide)), A1, (g.1 a ha).2, (q.1 a ha).2]
        · rw [u5 _ (by omega), n4 _ (nn 4 3 (by decide) (by decide) (by decide)), n3 _ (nn 4 2 (by decide) (by decide) (by decide)), n2 _ (nn 4 6 (by decide) (by decide) (by decide)), A1, (g.2.1 m hm).1, (q.2 m hm).1]
        · rw [(g.2.1 m hm).2 trivial, (q.2 m hm).2.1]
        · rw [r2, upd_n c, A1, g.2.2]
          have e : ∀ n, n ≤ tn T 3 → bs n (cw X t) = bs n (cw Y t) := by
            intro n
            induction n with
            | zero => intro _; rfl
            | succ n ih =>
              intro hn
              rw [bs, bs, ih (by omega), (q.2 n (by omega)).2.2]
          rw [e _ (Nat.le_refl _)]
    · have f8 : st_A S6 (ky k 8) = st_A S (ky k 8) := by rw [n6 _ (nn 8 7 (by decide) (by decide) (by decide)), n5 _ (nn 8 4 (by decide) (by decide) (by decide)), n4 _ (nn 8 3 (by decide) (by decide) (by decide)), n3 _ (nn 8 2 (by decide) (by decide) (by decide)), n2 _ (nn 8 6 (by decide) (by decide) (by decide)), A1]
      rw [i6 m (by omega) (by omega), K5, f8, show b + 22 + (m - 0) = b + 22 + m by omega, (he.2.2.2 m hm).2]
      refine ⟨rfl, fun q => ?_⟩
      have z := hp.2.2 m hm q
      rw [← z.2]
      exact (h.2.2.2.2.2 m hm).2 (by rw [z.1]; exact q)
  obtain ⟨S7, w7, T7, C7, o7⟩ := C_setLates (tC_kC hk hT oA) C6 hl
  refine ⟨S7, ?_, T7, C7, on_trans oA o7⟩
  unfold f_X0_goBackTo
  rw [at_nI LK (by omega) (by decide), bnd, he.1, lt_e, hS1, e1, at_nI LK (by omega) (by decide), bnd, I1, w2, bnd, I2, I1, m6, e2]
  change (f_X5_copy (ky 6 0) (ky k 2) S2 (nI (b + 2)) (nI (cn Y * 6)) (nI 6)).bind _ = _
  rw [w3, bnd, I3, I2, I1, m6, e8]
  change (f_X5_copy (ky 6 0) (ky k 3) S3 (nI (b + 8)) (nI (cn Y * 6)) (nI 6)).bind _ = _
  rw [w4, bnd, I4, I3, I2, I1, m8, e14]
  change (f_X5_copy (ky 6 0) (ky k 4) S4 (nI (b + 14)) (nI (cn Y * 8)) (nI 8)).bind _ = _
  rw [w5, bnd, e22]
  change (f_X5_copy (ky 6 0) (ky k 7) S5 (nI (b + 22)) (nI 0) (nI 8)).bind _ = _
  rw [w6, bnd, w7, bnd]
/-- a chain of what was, now X -/
def hX (u : Nat) (H : Nat → CT) (T : TX) (X : CT) : Prop := (∀ j, j < u → cb T (H j) ∧ okL T (H j)) ∧ (∀ j, j + 1 < u → pre T (H j) (H (j + 1))) ∧ (0 < u → pre T (H (u - 1)) X)
theorem hX_add {u : Nat} {H : Nat → CT} {T : TX} {X X' : CT} (hu : u ≤ 20) (h : hX u H T X) (hc : cb T X) (hl : okL T X) (hp : pre T X X') : hX (h_u u) (h_add u H X) T X' := by
  unfold h_u h_add
  by_cases c : u = 20
  · rw [if_pos c, if_pos c]
    subst c
    refine ⟨fun j hj => ?_, fun j hj => ?_, fun _ => ?_⟩
    · show cb T (if j = 19 then X else H (j + 1)) ∧ okL T (if j = 19 then X else H (j + 1))
      split
      · exact ⟨hc, hl⟩
      · exact h.1 (j + 1) (by omega)
    · show pre T (if j = 19 then X else H (j + 1)) (if j + 1 = 19 then X else H (j + 1 + 1))
      rw [if_neg (by omega)]
      split
      · rename_i e
        have q := h.2.2 (by decide)
        rw [e]
        exact q
      · exact h.2.1 (j + 1) (by omega)
    · exact hp
  · rw [if_neg c, if_neg c]
    refine ⟨fun j hj => ?_, fun j hj => ?_, fun _ => ?_⟩
    · show cb T (if j = u then X else H j) ∧ okL T (if j = u then X else H j)
      split
      · exact ⟨hc, hl⟩
      · exact h.1 j (by omega)
    · show pre T (if j = u then X else H j) (if j + 1 = u then X else H (j + 1))
      rw [if_neg (by omega)]
      split
      · rename_i e
        have q := h.2.2 (by omega)
        rw [show u - 1 = j by omega] at q
        exact q
      · exact h.2.1 j (by omega)
    · show pre T (if u + 1 - 1 = u then X else H (u + 1 - 1)) X'
      rw [if_pos (by omega)]
      exact hp
theorem hX_back {u : Nat} {H : Nat → CT} {T : TX} {X : CT} (h : hX (u + 1) H T X) : hX u H T (H u) := ⟨fun j hj => h.1 j (by omega), fun j hj => h.2.1 j (by omega), fun hu => by
  have q := h.2.1 (u - 1) (by omega)
  rw [show u - 1 + 1 = u by omega] at q
  exact q⟩
theorem C_takeBack0 {k u : Nat} {H : Nat → CT} {S : St} {T : TX} (hh : hC u H S T) (hu : u = 0) : f_X2_takeBack k S = some (0, S) := by
  obtain ⟨_, fi, hf, e1, e2, hr⟩ := hh
  unfold f_X2_takeBack
  rw [e2, hu, if_pos (show nI 0 = (0 : Int32) from rfl)]
theorem C_takeBack {k kt u : Nat} {H : Nat → CT} {S : St} {T : TX} {X : CT} (hT : tC kt S T) (h : cC k kt S T X) (hh : hC (u + 1) H S T) (hx : hX (u + 1) H T X) : ∃ S', f_X2_takeBack k S = some (1, S') ∧ tC kt S' T ∧ cC k kt S' T (H u) ∧ hC u H S' T ∧ on (fun q => kP q ∨ kC k kt q) S S' := by
  obtain ⟨hu, fi, hf, e1, e2, hr⟩ := hh
  have hk := h.2.1
  have e20 : (20 : Int32) ≠ 0 := by decide
  have o1 : on kP S (up_I S (ky 6 2) (nI u)) := on_I _ _ _ (Or.inr (Or.inr rfl))
  have hA : st_A (up_I S (ky 6 2) (nI u)) = st_A S := rfl
  have i1 : st_I (up_I S (ky 6 2) (nI u)) (ky 6 1) = nI fi := by rw [gIn _ _ (ky_ne (by decide) (by decide) (by decide)), e1]
  have i2 : st_I (up_I S (ky 6 2) (nI u)) (ky 6 2) = nI u := gIs ..
  have ed : nI (u + 1) - (1 : Int32) = nI u := nI_pred u
  have em : nI ((fi + u) % 20) * (30 : Int32) = nI ((fi + u) % 20 * 30) := pk_mul _ 30
  generalize hS1 : up_I S (ky 6 2) (nI u) = S1 at o1 hA i1 i2
  have q := hx.1 u (by omega)
  have he := hr u (by omega)
  rw [← hA] at he
  obtain ⟨S2, w, T2, C2, o2⟩ := C_goBack (tC_P hT o1) (cC_P h o1) q.1 q.2 (hx.2.2 (by omega)) (b := (fi + u) % 20 * 30) (by omega) he
  have n6 : ∀ f, f < 3 → ¬ kC k kt (ky 6 f) := by
    intro f hf3 q
    have h2 := hT.2.1
    rcases q with ⟨g, g1, g2, e⟩ | e | e
    · have := (ky_iff (by omega) (by omega)).mp e
      rw [← this.1] at hk
      cases hk
    · have := (ky_iff (by omega) (by omega)).mp e
      omega
    · have := (ky_iff (by omega) (by omega)).mp e
      omega
  refine ⟨S2, ?_, T2, C2, ⟨by omega, fi, hf, ?_, ?_, fun j hj => ?_⟩, on_trans (on_mono (fun _ => Or.inl) o1) (on_mono (fun _ => Or.inr) o2)⟩
  · unfold f_X2_takeBack
    rw [e2, if_neg (nI_nz (by omega) (by omega)), ed, lt_e, hS1, chk_t e20, i1, i2, nI_add, mod20 _ (by omega), em, w, bnd]
  · rw [(o2 _ (n6 1 (by decide))).1, i1]
  · rw [(o2 _ (n6 2 (by decide))).1, i2]
  · rw [(o2 _ (n6 0 (by decide))).2.1, hA]
    exact hr j (by omega)
