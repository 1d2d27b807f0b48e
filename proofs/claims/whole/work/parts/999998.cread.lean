/-! THE CLASS READS. -/
theorem on_Pp {K : Nat → Prop} (S : St) (k : Nat) (x : Nat) (hk : K k) : on K S (up_P S k x) := fun q hq => ⟨rfl, rfl, rfl, rfl, gPn _ _ (fun e : q = k => hq (by rw [e]; exact hk))⟩
/-- all that a read may write ahead of a new text -/
def kRd (kt : Nat) : Nat → Prop := fun q => kSc q ∨ kTx (5 - kt) q ∨ q = ky 0 1 ∨ q = ky 0 2
theorem kRd_n {kt c f : Nat} (hkt : isTx kt) (hf : f < 100) (h1 : c = 1 → f = 0) (h2 : c ≠ 5 - kt) (h3 : c ≠ 7 - kt) (h0 : c = 0 → f ≠ 1 ∧ f ≠ 2) : ¬ kRd kt (ky c f) := by
  rintro (⟨g, g1, g2, e⟩ | (⟨g, g1, e⟩ | ⟨g, g1, e⟩) | e | e)
  · have := (ky_iff hf (by omega)).mp e
    have := h1 this.1
    omega
  · exact h2 ((ky_iff hf (by omega)).mp e).1
  · have := ((ky_iff hf (by omega)).mp e).1
    rcases hkt with rfl | rfl <;> omega
  · have := (ky_iff hf (by decide)).mp e
    have := h0 this.1
    omega
  · have := (ky_iff hf (by decide)).mp e
    have := h0 this.1
    omega
section CR
variable {kt : Nat} {A : AB} {S : St}
theorem RC_fl (hC : RC kt A S) {S' : St} (o : on (kRd kt) S S') (h1 : st_I S' (ky 0 1) = 0) {p : Int32} (h2 : st_I S' (ky 0 2) = p) : RC kt (aFl A p) S' := by
  obtain ⟨c1, c2, c3, c4, c5, c6, c7, c8, c9⟩ := hC
  have hkt : isTx kt := c1.2.1
  have n : ∀ c f, f < 100 → c ≠ 1 → c ≠ 5 - kt → c ≠ 7 - kt → (c = 0 → f ≠ 1 ∧ f ≠ 2) → ¬ kRd kt (ky c f) := fun c f hf h1 h2 h3 h0 => kRd_n hkt hf (fun e => absurd e h1) h2 h3 h0
  have hk : ∀ c, c = 0 ∨ 6 ≤ c → c ≠ 1 ∧ c ≠ 5 - kt ∧ c ≠ 7 - kt := fun c hc => by rcases hkt with rfl | rfl <;> omega
  have n6 : ∀ c f, 6 ≤ c → f < 100 → ¬ kRd kt (ky c f) := fun c f hc hf => n c f hf (hk c (Or.inr hc)).1 (hk c (Or.inr hc)).2.1 (hk c (Or.inr hc)).2.2 (fun e => by omega)
  have n0 : ∀ f, f < 100 → f ≠ 1 ∧ f ≠ 2 → ¬ kRd kt (ky 0 f) := fun f hf h => n 0 f hf (by decide) (hk 0 (Or.inl rfl)).2.1 (hk 0 (Or.inl rfl)).2.2 (fun _ => h)
  refine ⟨tC_on c1 o (fun f hf => n kt f (by omega) (by rcases hkt with rfl | rfl <;> decide) (by rcases hkt with rfl | rfl <;> decide) (by rcases hkt with rfl | rfl <;> decide) (fun e => by rcases hkt with rfl | rfl <;> cases e)) (fun f hf => n (kt + 2) f (by omega) (by rcases hkt with rfl | rfl <;> decide) (by rcases hkt with rfl | rfl <;> decide) (by rcases hkt with rfl | rfl <;> decide) (fun e => by rcases hkt with rfl | rfl <;> cases e)), cC_on c2 o (fun f hf => n6 10 f (by decide) (by omega)), ?_, hC_on c4 o (fun f hf => n6 6 f (by decide) (by omega)), slotC_on c5 o (n0 10 (by decide) (by decide)) (fun j f hj hf => n6 (12 + j) f (by omega) (by omega)), tellC_on c6 o (n0 11 (by decide) (by decide)) (n0 12 (by decide) (by decide)), ⟨h1, fun j hj => absurd hj (Nat.not_lt_zero _)⟩, h2, ?_⟩
  · rw [(o _ (n0 4 (by decide) (by decide))).2.2.2.2, (o _ (n0 5 (by decide) (by decide))).2.2.2.2]
    exact c3
  · rw [(o _ (kRd_n hkt (by decide) (fun _ => rfl) (by rcases hkt with rfl | rfl <;> decide) (by rcases hkt with rfl | rfl <;> decide) (fun e => by cases e))).2.2.2.1]
    exact c9
theorem isT_sp {kt : Nat} (h : isTx kt) : isTx (5 - kt) := by
  rcases h with rfl | rfl
  · exact Or.inr rfl
  · exact Or.inl rfl
/-- the spare text becomes the text -/
theorem C_takeSpare (hC : RC kt A S) {S4 : St} {T : TX} (o : on (kRd kt) S S4) (hT : tC (5 - kt) S4 T) (h1 : st_I S4 (ky 0 1) = 0) (h2 : st_I S4 (ky 0 2) = -1) : ∃ S', f_X5_takeSpare S4 = some S' ∧ RC (5 - kt) (aRd A T) S' := by
  obtain ⟨c1, c2, c3, c4, c5, c6, c7, c8, c9⟩ := hC
  have hkt : isTx kt := c1.2.1
  have hsp := isT_sp hkt
  have hk : ∀ c, c = 0 ∨ 6 ≤ c → c ≠ 1 ∧ c ≠ 5 - kt ∧ c ≠ 7 - kt := fun c hc => by rcases hkt with rfl | rfl <;> omega
  have n6 : ∀ c f, 6 ≤ c → f < 100 → ¬ kRd kt (ky c f) := fun c f hc hf => kRd_n hkt hf (fun e => absurd e (hk c (Or.inr hc)).1) (hk c (Or.inr hc)).2.1 (hk c (Or.inr hc)).2.2 (fun e => by omega)
  have n0 : ∀ f, f < 100 → f ≠ 1 ∧ f ≠ 2 → ¬ kRd kt (ky 0 f) := fun f hf h => kRd_n hkt hf (fun e => by cases e) (hk 0 (Or.inl rfl)).2.1 (hk 0 (Or.inl rfl)).2.2 (fun _ => h)
  have p4 : st_P S4 (ky 0 4) = kt := (o _ (n0 4 (by decide) (by decide))).2.2.2.2.trans c3.1
  have p5 : st_P S4 (ky 0 5) = 5 - kt := (o _ (n0 5 (by decide) (by decide))).2.2.2.2.trans c3.2
  have oP : on (fun q => q = ky 0 4 ∨ q = ky 0 5) S4 (up_P (up_P S4 (ky 0 4) (5 - kt)) (ky 0 5) kt) := on_trans (on_Pp _ _ _ (Or.inl rfl)) (on_Pp _ _ _ (Or.inr rfl))
  have nP : ∀ c f, f < 100 → (c = 0 → f ≠ 4 ∧ f ≠ 5) → ¬ (ky c f = ky 0 4 ∨ ky c f = ky 0 5) := by
    rintro c f hf h (e | e)
    · have := (ky_iff hf (by decide)).mp e
      have := h this.1
      omega
    · have := (ky_iff hf (by decide)).mp e
      have := h this.1
      omega
  have hT7 : tC (5 - kt) (up_P (up_P S4 (ky 0 4) (5 - kt)) (ky 0 5) kt) T := tC_on hT oP (fun f hf => nP _ _ (by omega) (fun e => by rcases hkt with rfl | rfl <;> cases e)) (fun f hf => nP _ _ (by omega) (fun e => by rcases hkt with rfl | rfl <;> cases e))
  have q4 : st_P (up_P (up_P S4 (ky 0 4) (5 - kt)) (ky 0 5) kt) (ky 0 4) = 5 - kt := (gPn _ _ (ky_ne (by decide) (by decide) (by decide))).trans (gPs ..)
  have q5 : st_P (up_P (up_P S4 (ky 0 4) (5 - kt)) (ky 0 5) kt) (ky 0 5) = kt := gPs ..
  generalize hS7 : up_P (up_P S4 (ky 0 4) (5 - kt)) (ky 0 5) kt = S7 at *
  obtain ⟨S8, e8, T8, C8, o8⟩ := C_begin (k := 10) rfl hT7
  have n8 : ∀ c f, f < 100 → c ≠ 10 → (c = 7 - kt → f < 5) → ¬ kB 10 (5 - kt) (ky c f) := by
    rintro c f hf h10 h (⟨g, hg, e⟩ | e | e)
    · exact h10 ((ky_iff hf (by omega)).mp e).1
    · have q := (ky_iff hf (by decide)).mp e
      have := h (by rcases hkt with rfl | rfl <;> omega)
      omega
    · have q := (ky_iff hf (by decide)).mp e
      have := h (by rcases hkt with rfl | rfl <;> omega)
      omega
  have o11 : on (fun q => q = ky 6 2 ∨ q = ky 0 10 ∨ q = ky 0 12) S8 (up_I (up_I (up_I S8 (ky 6 2) (0 : Int32)) (ky 0 10) (0 : Int32)) (ky 0 12) (0 : Int32)) := on_trans (on_trans (on_I _ _ _ (Or.inl rfl)) (on_I _ _ _ (Or.inr (Or.inl rfl)))) (on_I _ _ _ (Or.inr (Or.inr rfl)))
  have n11 : ∀ c f, f < 100 → (c = 6 → f ≠ 2) → (c = 0 → f ≠ 10 ∧ f ≠ 12) → ¬ (ky c f = ky 6 2 ∨ ky c f = ky 0 10 ∨ ky c f = ky 0 12) := by
    rintro c f hf h6 h0 (e | e | e)
    · have q := (ky_iff hf (by decide)).mp e
      exact h6 q.1 q.2
    · have q := (ky_iff hf (by decide)).mp e
      have := h0 q.1
      omega
    · have q := (ky_iff hf (by decide)).mp e
      have := h0 q.1
      omega
  have i62 : st_I (up_I (up_I (up_I S8 (ky 6 2) (0 : Int32)) (ky 0 10) (0 : Int32)) (ky 0 12) (0 : Int32)) (ky 6 2) = 0 := rfl
  have i10 : st_I (up_I (up_I (up_I S8 (ky 6 2) (0 : Int32)) (ky 0 10) (0 : Int32)) (ky 0 12) (0 : Int32)) (ky 0 10) = 0 := rfl
  have i12 : st_I (up_I (up_I (up_I S8 (ky 6 2) (0 : Int32)) (ky 0 10) (0 : Int32)) (ky 0 12) (0 : Int32)) (ky 0 12) = 0 := rfl
  generalize hS11 : up_I (up_I (up_I S8 (ky 6 2) (0 : Int32)) (ky 0 10) (0 : Int32)) (ky 0 12) (0 : Int32) = S11 at *
  -- a key that none of them writes
  have kept : ∀ c f, f < 100 → c ≠ 10 → (c = 7 - kt → f < 5) → (c = 6 → f ≠ 2) → (c = 0 → f ≠ 10 ∧ f ≠ 12 ∧ f ≠ 4 ∧ f ≠ 5) → st_I S11 (ky c f) = st_I S4 (ky c f) ∧ st_A S11 (ky c f) = st_A S4 (ky c f) ∧ st_L S11 (ky c f) = st_L S4 (ky c f) := fun c f hf h10 h7 h6 h0 => by
    have a := o11 _ (n11 c f hf h6 (fun e => ⟨(h0 e).1, (h0 e).2.1⟩))
    have b := o8 _ (n8 c f hf h10 h7)
    have d := oP _ (nP c f hf (fun e => ⟨(h0 e).2.2.1, (h0 e).2.2.2⟩))
    exact ⟨a.1.trans (b.1.trans d.1), a.2.1.trans (b.2.1.trans d.2.1), a.2.2.2.1.trans (b.2.2.2.1.trans d.2.2.2.1)⟩
  have h75 : 7 - kt ≠ 0 ∧ 7 - kt ≠ 1 ∧ 7 - kt ≠ 6 := by rcases hkt with rfl | rfl <;> decide
  refine ⟨S11, ?_, tC_on T8 o11 (fun f hf => n11 _ _ (by omega) (fun e => by rcases hkt with rfl | rfl <;> cases e) (fun e => by rcases hkt with rfl | rfl <;> cases e)) (fun f hf => n11 _ _ (by omega) (fun e => by rcases hkt with rfl | rfl <;> cases e) (fun e => by rcases hkt with rfl | rfl <;> cases e)), cC_on C8 o11 (fun f hf => n11 _ _ (by omega) (fun e => by cases e) (fun e => by cases e)), ⟨?_, ?_⟩, ?_, ⟨?_, (fun j _ Y hY => by cases hY)⟩, ⟨i12, fun j hj => absurd hj (Nat.not_lt_zero _)⟩, ⟨?_, fun j hj => absurd hj (Nat.not_lt_zero _)⟩, ?_, ?_⟩
  · have hT4 : isT kt := hkt
    have hT5 : isT (5 - kt) := hsp
    unfold f_X5_takeSpare
    rw [p4, p5, chk_t hT4, chk_t hT5, lt_e, lt_e, hS7, q4, chk_t hT5, e8, bnd]
    unfold f_X2_clear
    rw [lt_e, bnd, lt_e, lt_e, hS11]
  · rw [(o11 _ (n11 0 4 (by decide) (fun e => by cases e) (fun _ => by decide))).2.2.2.2, (o8 _ (n8 0 4 (by decide) (by decide) (fun e => absurd e.symm h75.1))).2.2.2.2]
    exact q4
  · rw [(o11 _ (n11 0 5 (by decide) (fun e => by cases e) (fun _ => by decide))).2.2.2.2, (o8 _ (n8 0 5 (by decide) (by decide) (fun e => absurd e.symm h75.1))).2.2.2.2, q5]
    rcases hkt with rfl | rfl <;> rfl
  · obtain ⟨_, fi, f1, f2, _⟩ := c4
    refine ⟨Nat.zero_le _, fi, f1, ?_, i62, fun j hj => absurd hj (Nat.not_lt_zero _)⟩
    rw [(kept 6 1 (by decide) (by decide) (fun e => absurd e.symm h75.2.2) (fun _ => by decide) (fun e => by cases e)).1, (o _ (n6 6 1 (by decide) (by decide))).1]
    exact f2
  · show st_I S11 (ky 0 10) = nI (bs 3 (fun j => ((fun _ => none : Nat → Option CT) j).isSome))
    rw [i10]
    rfl
  · rw [(kept 0 1 (by decide) (by decide) (fun e => absurd e.symm h75.1) (fun e => by cases e) (fun _ => by decide)).1]
    exact h1
  · rw [(kept 0 2 (by decide) (by decide) (fun e => absurd e.symm h75.1) (fun e => by cases e) (fun _ => by decide)).1]
    exact h2
  · rw [(kept 1 0 (by decide) (by decide) (fun e => absurd e.symm h75.2.1) (fun e => by cases e) (fun e => by cases e)).2.2, (o _ (kRd_n hkt (by decide) (fun _ => rfl) (by rcases hkt with rfl | rfl <;> decide) (by rcases hkt with rfl | rfl <;> decide) (fun e => by cases e))).2.2.2.1]
    exact c9
theorem C_scanned (hA : RA A) (hC : RC kt A S) : ∃ S1, f_X3_scan (ky 0 0) S (st_I S (ky 0 1)) = some (nI (rn (tkK (aB A) (an A)) 0 q00).1, S1) ∧ scanR (aB A) (an A) S S1 (rn (tkK (aB A) (an A)) 0 q00) := by
  have h7 := hC.2.2.2.2.2.2.1
  rw [h7.1]
  exact C_scan ⟨hA.2.2.2.2.2.1, hA.2.2.2.2.2.2, h7.2⟩ hC.2.2.2.2.2.2.2.2
/-- a fault of the first sort -/
theorem C_readF (hA : RA A) (hC : RC kt A S) {c : Nat × Nat} (hc : rn (tkK (aB A) (an A)) 0 q00 = c) (h : c.1 = 1 ∨ c.1 = 2) : ∃ S', f_X5_read S = some (nI c.1, S') ∧ RC kt (aFl A (nI (ps (aB A) (an A) c.2))) S' := by
  obtain ⟨S1, e1, o1, h5, _⟩ := C_scanned hA hC
  rw [hc] at e1 h5
  rw [if_neg (by omega)] at h5
  have nz : ¬ nI c.1 = (0 : Int32) := nI_nz (by omega) (by omega)
  refine ⟨up_I (up_I S1 (ky 0 2) (nI (ps (aB A) (an A) c.2))) (ky 0 1) (0 : Int32), ?_, RC_fl hC (on_trans (on_mono (fun q h => Or.inl h) o1) (on_trans (on_I _ _ _ (Or.inr (Or.inr (Or.inr rfl)))) (on_I _ _ _ (Or.inr (Or.inr (Or.inl rfl)))))) (gIs ..) ((gIn _ _ (ky_ne (by decide) (by decide) (by decide))).trans (gIs ..))⟩
  unfold f_X5_read
  rw [e1, bnd]
  show lt_v (up_I S1 (ky 0 2) (st_I S1 (ky 1 5))) _ = _
  rw [h5, lt_e, lt_e, if_neg nz]
  unfold f_X5_read_J59
  rw [if_neg nz]
/-- a text of the right form -/
theorem C_readT (hA : RA A) (hC : RC kt A S) {l : TL} {N : Nat} (hl : TRc (tkK (aB A) (an A)) (tkL (aB A) (an A)) (tkV (aB A) (an A)) N l 0 P0) (hc : rn (tkK (aB A) (an A)) 0 q00 = (0, N)) : (∃ a S', TRf (tkK (aB A) (an A)) (tkL (aB A) (an A)) (tkV (aB A) (an A)) l 0 P0 = some a ∧ f_X5_read S = some (nI a.1, S') ∧ RC kt (aFl A (nI (ps (aB A) (an A) a.2))) S') ∨ (TRf (tkK (aB A) (an A)) (tkL (aB A) (an A)) (tkV (aB A) (an A)) l 0 P0 = none ∧ ∃ S', f_X5_read S = some ((0 : Int32), S') ∧ RC (5 - kt) (aRd A (TXo (TRp (tkK (aB A) (an A)) (tkL (aB A) (an A)) (tkV (aB A) (an A)) l 0 P0))) S') := by
  obtain ⟨S1, e1, o1, h5, h4⟩ := C_scanned hA hC
  rw [hc] at e1 h5 h4
  obtain ⟨g1, g2, g3, g4⟩ := h4 rfl
  have hkt : isTx kt := hC.1.2.1
  have hsp := isT_sp hkt
  have h5' : st_I S1 (ky 1 5) = -1 := h5
  have T1 : TKC (aB A) (an A) N S1 := ⟨g1, g3, hA.2.2.2.2.2.2, fun u hu => (g4 u hu).2⟩
  have oS3 : on (fun q => q = ky 0 1 ∨ q = ky 0 2) S1 (up_I (up_I S1 (ky 0 2) (-1 : Int32)) (ky 0 1) (0 : Int32)) := on_trans (on_I _ _ _ (Or.inr rfl)) (on_I _ _ _ (Or.inl rfl))
  have T3 : TKC (aB A) (an A) N (up_I (up_I S1 (ky 0 2) (-1 : Int32)) (ky 0 1) (0 : Int32)) := TKC_on (fun f hf => by
    rintro (e | e)
    · have := (ky_iff hf (by decide)).mp e
      omega
    · have := (ky_iff hf (by decide)).mp e
      omega) oS3 T1
  have i31 : st_I (up_I (up_I S1 (ky 0 2) (-1 : Int32)) (ky 0 1) (0 : Int32)) (ky 0 1) = 0 := gIs ..
  generalize hS3 : up_I (up_I S1 (ky 0 2) (-1 : Int32)) (ky 0 1) (0 : Int32) = S3 at *
  have o3 : on (kRd kt) S S3 := on_trans (on_mono (fun q h => Or.inl h) o1) (on_mono (fun q h => h.elim (fun e => Or.inr (Or.inr (Or.inl e))) (fun e => Or.inr (Or.inr (Or.inr e)))) oS3)
  have hk0 : (0 : Nat) ≠ 5 - kt ∧ (0 : Nat) ≠ 7 - kt := by rcases hkt with rfl | rfl <;> decide
  have nR : ∀ f, f < 100 → f ≠ 1 ∧ f ≠ 2 → ¬ kRd kt (ky 0 f) := fun f hf h => kRd_n hkt hf (fun e => by cases e) hk0.1 hk0.2 (fun _ => h)
  obtain ⟨S4, v, e4, o4, q4⟩ := C_build hsp hl T3
  have o34 : on (kRd kt) S3 S4 := on_mono (fun q h => Or.inr (Or.inl h)) o4
  have oS4 : on (kRd kt) S S4 := on_trans o3 o34
  have p3 : st_P S3 (ky 0 5) = 5 - kt := (o3 _ (nR 5 (by decide) (by decide))).2.2.2.2.trans hC.2.2.1.2
  have p4 : st_P S4 (ky 0 5) = 5 - kt := (oS4 _ (nR 5 (by decide) (by decide))).2.2.2.2.trans hC.2.2.1.2
  have n01 : ¬ kTx (5 - kt) (ky 0 1) := by
    rintro (⟨g, g1, e⟩ | ⟨g, g1, e⟩)
    · have := ((ky_iff (by decide) (by omega)).mp e).1
      omega
    · have := ((ky_iff (by decide) (by omega)).mp e).1
      omega
  have i41 : st_I S4 (ky 0 1) = 0 := (o4 _ n01).1.trans i31
  have hT5 : isT (5 - kt) := hsp
  have start : f_X5_read S = f_X5_read_J59 (up_I S4 (ky 0 2) (st_I S4 (ky (5 - kt) 18))) v := by
    unfold f_X5_read
    rw [e1, bnd]
    show lt_v (up_I S1 (ky 0 2) (st_I S1 (ky 1 5))) (fun S2 => lt_v (up_I S2 (ky 0 1) (0 : Int32)) (fun S3 => if nI 0 = (0 : Int32) then _ else _)) = _
    rw [h5', lt_e, lt_e, if_pos (show nI 0 = (0 : Int32) from rfl), hS3, p3, chk_t hT5, e4, bnd, p4, chk_t hT5, lt_e]
  have o5 : ∀ x : Int32, on (kRd kt) S (up_I S4 (ky 0 2) x) := fun x => on_trans oS4 (on_I _ _ _ (Or.inr (Or.inr (Or.inr rfl))))
  have i51 : ∀ x : Int32, st_I (up_I S4 (ky 0 2) x) (ky 0 1) = 0 := fun x => (gIn _ _ (ky_ne (by decide) (by decide) (by decide))).trans i41
  cases hf : TRf (tkK (aB A) (an A)) (tkL (aB A) (an A)) (tkV (aB A) (an A)) l 0 P0 with
  | some a =>
    rw [hf] at q4
    obtain ⟨rfl, w1, w2, w3⟩ : v = nI a.1 ∧ cwst (aB A) (an A) (5 - kt) S4 (some a) := q4
    refine Or.inl ⟨a, up_I S4 (ky 0 2) (nI (ps (aB A) (an A) a.2)), rfl, ?_, RC_fl hC (o5 _) (i51 _) (gIs ..)⟩
    rw [start, w3]
    unfold f_X5_read_J59
    rw [if_neg (nI_nz (by omega) (by omega))]
  | none =>
    rw [hf] at q4
    obtain ⟨rfl, ⟨w1, w2⟩, o', w3, w4⟩ : v = 0 ∧ cwst (aB A) (an A) (5 - kt) S4 none ∧ ∃ o', CB (5 - kt) S4 (TRp (tkK (aB A) (an A)) (tkL (aB A) (an A)) (tkV (aB A) (an A)) l 0 P0) (dfC ++ o') ∧ (dfC ++ o').length ≤ 404 := q4
    have g := TR_good hl hf gP0.2.2 gP0.1 gP0.2.1
    have T4 := tC_o hsp g.1 g.2.2 w3 w4
    have T5 : tC (5 - kt) (up_I S4 (ky 0 2) (-1 : Int32)) (TXo (TRp (tkK (aB A) (an A)) (tkL (aB A) (an A)) (tkV (aB A) (an A)) l 0 P0)) := tC_on (K := fun q => q = ky 0 2) T4 (on_I _ _ _ rfl) (fun f hf e => by
      have := ((ky_iff (by omega) (by decide)).mp e).1
      omega) (fun f hf e => by
      have := ((ky_iff (by omega) (by decide)).mp e).1
      omega)
    obtain ⟨S', e6, r6⟩ := C_takeSpare hC (o5 _) T5 (i51 _) (gIs ..)
    refine Or.inr ⟨rfl, S', ?_, r6⟩
    rw [start, w2]
    unfold f_X5_read_J59
    rw [if_pos rfl, e6, bnd]
end CR
section QR
variable {kt s : Nat} {A : AB} {S M : St}
theorem Q_read (hA : RA A) (hC : RC kt A S) (hM : RM s A M) : ans S M (f_X5_read S) (f_X6_read M) := by
  rcases M_read hA hM with ⟨c, hc, h, M', e1, r1⟩ | ⟨l, N, hl, hc, ⟨a, M', hf, e1, r1⟩ | ⟨hf, M', e1, r1⟩⟩
  · obtain ⟨S', e2, r2⟩ := C_readF hA hC hc h
    exact ⟨_, S', M', e2, e1, _, kt, s, RA_fl hA _, r2, r1⟩
  · rcases C_readT hA hC hl hc with ⟨b, S', hf2, e2, r2⟩ | ⟨hf2, _⟩
    · rw [hf] at hf2
      have : a = b := Option.some.inj hf2
      subst this
      exact ⟨_, S', M', e2, e1, _, kt, s, RA_fl hA _, r2, r1⟩
    · rw [hf] at hf2
      cases hf2
  · rcases C_readT hA hC hl hc with ⟨b, S', hf2, _⟩ | ⟨_, S', e2, r2⟩
    · rw [hf] at hf2
      cases hf2
    · exact ⟨_, S', M', e2, e1, _, 5 - kt, 1 - s, RA_rd A _, r2, r1⟩
end QR
