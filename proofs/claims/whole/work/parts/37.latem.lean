/-! LATENESS: the reference's. What a law writes besides: variables, pile, the broken flag. -/
def up_V (S : St) (f g : Nat → Int32) (x : Int32) : St := up_I (up_A (up_A S (ky 0 49) f) (ky 0 50) g) (ky 0 51) x
theorem aV {S : St} {f g : Nat → Int32} {x : Int32} {q : Nat} (h : q < 100) (h1 : q ≠ 49) (h2 : q ≠ 50) : st_A (up_V S f g x) (ky 0 q) = st_A S (ky 0 q) := by
  unfold up_V
  rw [gA_I, gA_A, if_neg (ky_ne h (by decide) (by omega)), gA_A, if_neg (ky_ne h (by decide) (by omega))]
theorem iV {S : St} {f g : Nat → Int32} {x : Int32} {q : Nat} (h : q < 100) (h1 : q ≠ 51) : st_I (up_V S f g x) (ky 0 q) = st_I S (ky 0 q) := by
  unfold up_V
  rw [gI_I, if_neg (ky_ne h (by decide) (by omega)), gI_A, gI_A]
theorem chkV (S : St) (f : Nat → Int32) (i : Nat) (v : Int32) {α : Type} (A : St → Option α) (hi : i < 6) : chk (ib (nI i) 6) (lt_v (up_A (up_A S (ky 0 49) f) (ky 0 49) (upd (st_A (up_A S (ky 0 49) f) (ky 0 49)) (nI i).toNatClampNeg v)) A) = A (up_A S (ky 0 49) (upd f i v)) := by
  rw [chk_t (ib_nI hi (by decide)), nI_clamp (by omega), upA_upA, gA_A, if_pos rfl]
  rfl
theorem M_late {p : Nat → Nat → Prop} {s : Nat} {S : St} {T : TX} {X : CT} (hT : tM s S T) (h : cMp p 56 57 58 59 S T X) {m rk : Nat} (hm : m < tn T 3) : ∃ f g x, f_X6_lateBy S (nI m) (nI rk) = some (nI (s_late T X m rk), up_V S f g x) := by
  have h1 := h.1.1
  have h2 := hT.1.2.2.2.1
  have h8 := hT.1.1
  have ht := Nat.le_refl (cn X)
  have hg := ((h.1.2.1 (cn X) ht).2 m hm).1
  have hms := s_men_lt hT.1 X (cf X 2 (cn X) m) (cn X)
  -- the states on the way keep text and court
  have keep : ∀ f : Nat → Int32, tM s (up_A S (ky 0 49) f) T ∧ cMp p 56 57 58 59 (up_A S (ky 0 49) f) T X := by
    intro f
    have e : ∀ q, q < 100 → q ≠ 49 → st_A (up_A S (ky 0 49) f) (ky 0 q) = st_A S (ky 0 q) := fun q hq hne => by rw [gA_A, if_neg (ky_ne hq (by decide) (by omega))]
    refine ⟨⟨hT.1, hT.2.1, hT.2.2.1, ?_, ?_, ?_, ?_, fun a ha => ?_, ?_, hT.2.2.2.2.2.2.2.2.2⟩, ⟨h.1, h.2.1, ?_, ?_⟩⟩
    · rw [e 24 (by decide) (by decide), e 25 (by decide) (by decide), e 28 (by decide) (by decide), e 31 (by decide) (by decide), e 34 (by decide) (by decide), e 35 (by decide) (by decide)]
      exact hT.2.2.2.1
    · rw [e 26 (by decide) (by decide), e 27 (by decide) (by decide)]
      exact hT.2.2.2.2.1
    · rw [e 29 (by decide) (by decide), e 30 (by decide) (by decide)]
      exact hT.2.2.2.2.2.1
    · rw [e 32 (by decide) (by decide), e 33 (by decide) (by decide)]
      exact hT.2.2.2.2.2.2.1
    · intro S' hS hI
      exact hT.2.2.2.2.2.2.2.1 a ha S' (fun q hq => (hS q hq).trans (e q ((by decide : ∀ q ∈ ([36, 37, 39, 40, 41, 42, 43, 45, 46] : List Nat), q < 100) q hq) ((by decide : ∀ q ∈ ([36, 37, 39, 40, 41, 42, 43, 45, 46] : List Nat), q ≠ 49) q hq))) hI
    · intro S' hS hI
      exact hT.2.2.2.2.2.2.2.2.1 S' (fun q hq => (hS q hq).trans (e q ((by decide : ∀ q ∈ ([36, 37, 39, 40, 41, 42, 43, 45, 46] : List Nat), q < 100) q hq) ((by decide : ∀ q ∈ ([36, 37, 39, 40, 41, 42, 43, 45, 46] : List Nat), q ≠ 49) q hq))) hI
    · rw [e 56 (by decide) (by decide)]
      exact h.2.2.1
    · rw [e 58 (by decide) (by decide), e 59 (by decide) (by decide)]
      exact h.2.2.2
  unfold f_X6_lateBy
  rw [h.2.1, show (36 : Int32) = nI 36 from rfl, show (12 : Int32) = nI 12 from rfl, i36, chk_t (ib_nI (by omega) (by decide)), nI_clamp (by omega), ((h.2.2.1 (cn X) ht).2 m hm).1]
  unfold lt_v
  dsimp only
  rw [show (0 : Int32).toNatClampNeg = 0 from nI_clamp (n := 0) (by omega), chk_t (show ib (0 : Int32) 6 from ib_nI (i := 0) (by decide) (by decide))]
  rw [show (1 : Int32) = nI 1 from rfl, show (2 : Int32) = nI 2 from rfl, show (3 : Int32) = nI 3 from rfl]
  rw [chk_t (ib_nI (i := 1) (by decide) (by decide)), nI_clamp (by omega), upA_upA, gA_A, if_pos rfl, chk_t (ib_nI (i := 2) (by decide) (by decide)), nI_clamp (by omega), upA_upA, gA_A, if_pos rfl, chk_t (ib_nI (i := 3) (by decide) (by decide)), nI_clamp (by omega), upA_upA, gA_A, if_pos rfl]
  rw [M_ways (keep _).1 (by omega)]
  simp only [Option.bind_some]
  rw [show (4 : Int32) = nI 4 from rfl, chk_t (ib_nI (i := 4) (by decide) (by decide)), nI_clamp (by omega), upA_upA, gA_A, if_pos rfl]
  rw [gI_A, h.2.1, M_menIn (keep _).1 (keep _).2 (by omega) ht]
  simp only [Option.bind_some]
  rw [bitM _ (by omega)]
  simp only [Option.bind_some]
  rw [show (5 : Int32) = nI 5 from rfl, chk_t (ib_nI (i := 5) (by decide) (by decide)), nI_clamp (by omega), upA_upA, gA_A, if_pos rfl]
  generalize hF : upd (upd (upd (upd (upd (upd (st_A S (ky 0 49)) 0 (nI (cn X))) 1 (nI (cf X 2 (cn X) m))) 2 (nI rk)) 3 (nI m)) 4 (nI (s_ways T (cf X 2 (cn X) m)))) 5 (nI (pop (s_men T X (cf X 2 (cn X) m) (cn X)))) = F
  have hv : ∀ i, i < 6 → F i = vv (nI (cn X)) (nI (cf X 2 (cn X) m)) (nI rk) (nI m) (nI (s_ways T (cf X 2 (cn X) m))) (nI (pop (s_men T X (cf X 2 (cn X) m) (cn X)))) i := fun i hi => by
    rw [← hF]
    unfold vv
    simp only [upd_e]
    rcases (show i = 0 ∨ i = 1 ∨ i = 2 ∨ i = 3 ∨ i = 4 ∨ i = 5 by omega) with rfl | rfl | rfl | rfl | rfl | rfl <;> rfl
  obtain ⟨f, x, hl⟩ := (keep F).1.2.2.2.2.2.2.2.2.1 (up_A S (ky 0 49) F) (fun q hq => rfl) rfl
  rw [if_pos rfl, gA_A, if_pos rfl, hv 2 (by decide)] at hl
  refine ⟨F, f, x, ?_⟩
  show (f_X6_tells (up_A S (ky 0 49) F) (nI 6) (nI rk)).bind _ = _
  rw [show nI rk = vv (nI (cn X)) (nI (cf X 2 (cn X) m)) (nI rk) (nI m) (nI (s_ways T (cf X 2 (cn X) m))) (nI (pop (s_men T X (cf X 2 (cn X) m) (cn X)))) 2 from rfl, hl]
  simp only [Option.bind_some]
  rw [clM _ (fun z => some (z, up_I (up_A (up_A S (ky 0 49) F) (ky 0 50) f) (ky 0 51) x)), hT.2.2.2.2.2.2.2.2.2 6 (by decide) F _ hv]
  rfl
