/-! LATENESS: the reference's. What a law writes besides: variables, pile, the broken flag. -/
def up_V (S : St) (f g : Nat → Int32) (x : Int32) : St := up_I (up_A (up_A S (ky 0 49) f) (ky 0 50) g) (ky 0 51) x
theorem aV {S : St} {f g : Nat → Int32} {x : Int32} {q : Nat} (h : q < 100) (h1 : q ≠ 49) (h2 : q ≠ 50) : st_A (up_V S f g x) (ky 0 q) = st_A S (ky 0 q) := by
  unfold up_V
  rw [gA_I, gA_A, if_neg (ky_ne h (by decide) (by omega)), gA_A, if_neg (ky_ne h (by decide) (by omega))]
theorem iV {S : St} {f g : Nat → Int32} {x : Int32} {q : Nat} (h : q < 100) (h1 : q ≠ 51) : st_I (up_V S f g x) (ky 0 q) = st_I S (ky 0 q) := by
  unfold up_V
  rw [gI_I, if_neg (ky_ne h (by decide) (by omega)), gI_A, gI_A]
theorem chkV0 (S : St) (i : Int32) (j : Nat) (e : i = nI j) (hj : j < 6) (v : Int32) {α : Type} (A : St → Option α) : chk (ib i 6) (lt_v (up_A S (ky 0 49) (upd (st_A S (ky 0 49)) i.toNatClampNeg v)) A) = A (up_A S (ky 0 49) (upd (st_A S (ky 0 49)) j v)) := by
  subst e
  rw [chk_t (ib_nI hj (by decide)), nI_clamp (by omega)]
  rfl
theorem chkV (S : St) (f : Nat → Int32) (i : Int32) (j : Nat) (e : i = nI j) (hj : j < 6) (v : Int32) {α : Type} (A : St → Option α) : chk (ib i 6) (lt_v (up_A (up_A S (ky 0 49) f) (ky 0 49) (upd (st_A (up_A S (ky 0 49) f) (ky 0 49)) i.toNatClampNeg v)) A) = A (up_A S (ky 0 49) (upd f j v)) := by
  rw [chkV0 _ i j e hj, upA_upA, gA_A, if_pos rfl]
theorem vv6 (g : Nat → Int32) (a b c d e f : Int32) : ∀ i, i < 6 → upd (upd (upd (upd (upd (upd g 0 a) 1 b) 2 c) 3 d) 4 e) 5 f i = vv a b c d e f i := by
  intro i hi
  unfold vv
  simp only [upd_e]
  rcases (show i = 0 ∨ i = 1 ∨ i = 2 ∨ i = 3 ∨ i = 4 ∨ i = 5 by omega) with rfl | rfl | rfl | rfl | rfl | rfl <;> rfl
theorem keepV {p : Nat → Nat → Prop} {s : Nat} {S : St} {T : TX} {X : CT} (hT : tM s S T) (h : cMp p 56 57 58 59 S T X) (f : Nat → Int32) : tM s (up_A S (ky 0 49) f) T ∧ cMp p 56 57 58 59 (up_A S (ky 0 49) f) T X := by
  have e : ∀ q, q < 100 → q ≠ 49 → st_A (up_A S (ky 0 49) f) (ky 0 q) = st_A S (ky 0 q) := fun q hq hne => by rw [gA_A, if_neg (ky_ne hq (by decide) (by omega))]
  refine ⟨⟨hT.1, hT.2.1, hT.2.2.1, ?_, ?_, ?_, ?_, fun a ha => ?_, ?_, hT.2.2.2.2.2.2.2.2.2⟩, ⟨h.1, h.2.1, ?_, ?_⟩⟩
  · rw [e 24 (by decide) (by decide), e 25 (by decide) (by decide), e 28 (by decide) (by decide), e 31 (by decide) (by decide), e 34 (by decide) (by decide), e 35 (by decide) (by decide)]
    exact hT.2.2.2.1
  · rw [e 26 (by decide) (by decide), e 27 (by decide) (by decide)]
    exact hT.2.2.2.2.1
  · rw [e 29 (by decide) (by decide), e 30 (by decide) (by decide)]
    exact hT.2.2.2.2.2.1
  · rw [e 32 (by decide) (by decide), e 33 (by decide) (by decide)]
    exact hT.2.2.2.2.2.2.1
  · intro S' hS hI
    exact hT.2.2.2.2.2.2.2.1 a ha S' (fun q hq j b1 b2 => (hS q hq j b1 b2).trans (congrFun (e q ((by decide : ∀ q ∈ ([36, 37, 39, 40, 41, 42, 43, 45, 46] : List Nat), q < 100) q hq) ((by decide : ∀ q ∈ ([36, 37, 39, 40, 41, 42, 43, 45, 46] : List Nat), q ≠ 49) q hq)) j)) hI
  · intro S' hS hI
    exact hT.2.2.2.2.2.2.2.2.1 S' (fun q hq j b1 b2 => (hS q hq j b1 b2).trans (congrFun (e q ((by decide : ∀ q ∈ ([36, 37, 39, 40, 41, 42, 43, 45, 46] : List Nat), q < 100) q hq) ((by decide : ∀ q ∈ ([36, 37, 39, 40, 41, 42, 43, 45, 46] : List Nat), q ≠ 49) q hq)) j)) hI
  · rw [e 56 (by decide) (by decide)]
    exact h.2.2.1
  · rw [e 58 (by decide) (by decide), e 59 (by decide) (by decide)]
    exact h.2.2.2
theorem M_late2 {s : Nat} {S : St} {T : TX} (a b c d e f : Int32) {F : Nat → Int32} (hT : tM s (up_A S (ky 0 49) F) T) (hv : ∀ i, i < 6 → F i = vv a b c d e f i) : ∃ g x, ((f_X6_tells (up_A S (ky 0 49) F) (6 : Int32) c).bind (fun (q11 : Int32 × St) => if 0 ≤ q11.1 then (if q11.1 ≤ (240 : Int32) then (some (q11.1, q11.2)) else (some ((240 : Int32), q11.2))) else (some ((0 : Int32), q11.2)))) = some (nI (clN (tg T 6 (vv a b c d e f))), up_V S F g x) := by
  obtain ⟨g, x, hl⟩ := hT.2.2.2.2.2.2.2.2.1 (up_A S (ky 0 49) F) (fun q hq _ _ _ => rfl) rfl
  rw [if_pos rfl, gA_A, if_pos rfl, hv 2 (by decide), hT.2.2.2.2.2.2.2.2.2 6 (by decide) F _ hv] at hl
  refine ⟨g, x, ?_⟩
  have e : vv a b c d e f 2 = c := rfl
  rw [e] at hl
  rw [show (6 : Int32) = nI 6 from rfl, hl]
  simp only [Option.bind_some]
  exact clM _ (fun z => some (z, up_I (up_A (up_A S (ky 0 49) F) (ky 0 50) g) (ky 0 51) x))
theorem M_late {p : Nat → Nat → Prop} {s : Nat} {S : St} {T : TX} {X : CT} (hT : tM s S T) (h : cMp p 56 57 58 59 S T X) {m rk : Nat} (hm : m < tn T 3) : ∃ f g x, f_X6_lateBy S (nI m) (nI rk) = some (nI (s_late T X m rk), up_V S f g x) := by
  have h1 := h.1.1
  have h2 := hT.1.2.2.2.1
  have h8 := hT.1.1
  have ht := Nat.le_refl (cn X)
  have hg := ((h.1.2.1 (cn X) ht).2 m hm).1
  have hms := s_men_lt hT.1 X (cf X 2 (cn X) m) (cn X)
  have keep := fun f => keepV hT h f
  have e36 : (36 : Int32) * nI (cn X) + 12 + nI m = nI (36 * cn X + 12 + m) := i36 (cn X) 12 m
  unfold f_X6_lateBy
  rw [h.2.1, e36, chk_t (ib_nI (by omega) (by decide)), nI_clamp (by omega), ((h.2.2.1 (cn X) ht).2 m hm).1]
  rw [show ∀ (v : Int32) (A : Int32 → Option (Int32 × St)), lt_v v A = A v from fun _ _ => rfl]
  rw [chkV0 S 0 0 rfl (by decide), chkV S _ 1 1 rfl (by decide), chkV S _ 2 2 rfl (by decide), chkV S _ 3 3 rfl (by decide)]
  rw [M_ways (keep _).1 (by omega), Option.bind_some, chkV S _ 4 4 rfl (by decide)]
  rw [gI_A, h.2.1, M_menIn (keep _).1 (keep _).2 (by omega) ht, Option.bind_some]
  rw [bitM _ (by omega), Option.bind_some, chkV S _ 5 5 rfl (by decide)]
  obtain ⟨f, x, hl⟩ := M_late2 (nI (cn X)) (nI (cf X 2 (cn X) m)) (nI rk) (nI m) (nI (s_ways T (cf X 2 (cn X) m))) (nI (pop (s_men T X (cf X 2 (cn X) m) (cn X)))) (keep _).1 (vv6 (st_A S (ky 0 49)) _ _ _ _ _ _)
  exact ⟨_, f, x, hl⟩
