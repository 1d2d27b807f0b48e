/-! BOTH WORLDS BESIDE EACH OTHER. What is so, apart from how it is kept: text, court, what can be undone (u of it), slots, what is told, the tape, the place of the fault. -/
abbrev AB : Type := TX × CT × Nat × (Nat → CT) × (Nat → Option CT) × Nat × (Nat → Nat × Nat × Nat × Bool) × Nat × (Nat → Nat) × Int32
def aT (A : AB) : TX := A.1
def aX (A : AB) : CT := A.2.1
def au (A : AB) : Nat := A.2.2.1
def aH (A : AB) : Nat → CT := A.2.2.2.1
def aS (A : AB) : Nat → Option CT := A.2.2.2.2.1
def aK (A : AB) : Nat := A.2.2.2.2.2.1
def aL (A : AB) : Nat → Nat × Nat × Nat × Bool := A.2.2.2.2.2.2.1
def an (A : AB) : Nat := A.2.2.2.2.2.2.2.1
def aB (A : AB) : Nat → Nat := A.2.2.2.2.2.2.2.2.1
def ap (A : AB) : Int32 := A.2.2.2.2.2.2.2.2.2
/-- letters of the seventeen words -/
def wordsL : List (List Nat) := [[18, 15, 15, 13], [4, 15, 15, 18], [13, 1, 14], [7, 15, 5, 19], [13, 9, 18, 18, 15, 18], [12, 1, 20, 5], [2, 18, 5, 1, 11, 19], [19, 5, 5, 4], [9, 6], [20, 8, 5, 14], [5, 12, 19, 5], [13, 9, 14, 21, 20, 5], [8, 5, 18, 5], [18, 1, 14, 11], [14, 21, 13, 2, 5, 18], [23, 1, 25, 19], [23, 9, 20, 8]]
def codeB (b : Nat) (l : List Nat) : Nat := l.foldl (fun c x => b * c + x) 0
def sxB (b : Nat) : Int32 := if b < 128 then nI b else nI b - 256
/-- the abstract state is sound -/
def RA (A : AB) : Prop := okL (aT A) (aX A) ∧ hX (au A) (aH A) (aT A) (aX A) ∧ (∀ j, j < 3 → ∀ Y, aS A j = some Y → okL (aT A) Y) ∧ aK A ≤ 20 ∧ (∀ j, j < aK A → (aL A j).1 < tn (aT A) 3 ∧ (aL A j).2.1 < 100 ∧ (aL A j).2.2.1 < tn (aT A) 2) ∧ an A ≤ 2000 ∧ ∀ j, j < an A → aB A j < 256
def tellC (K : Nat) (L : Nat → Nat × Nat × Nat × Bool) (S : St) : Prop := st_I S (ky 0 12) = nI K ∧ ∀ j, j < K → st_A S (ky 0 11) (4 * j) = nI (L j).1 ∧ st_A S (ky 0 11) (4 * j + 1) = nI (L j).2.1 ∧ st_A S (ky 0 11) (4 * j + 2) = nI (L j).2.2.1 ∧ st_A S (ky 0 11) (4 * j + 3) = if (L j).2.2.2 then 1 else 0
def tellM (K : Nat) (L : Nat → Nat × Nat × Nat × Bool) (S : St) : Prop := st_I S (ky 0 67) = nI K ∧ ∀ j, j < K → st_A S (ky 0 68) j = nI (L j).1 ∧ st_A S (ky 0 69) j = nI (L j).2.1 ∧ st_A S (ky 0 70) j = nI (L j).2.2.1 ∧ st_A S (ky 0 71) j = if (L j).2.2.2 then 1 else 0
def slotC (kt : Nat) (sl : Nat → Option CT) (S : St) (T : TX) : Prop := st_I S (ky 0 10) = nI (bs 3 (fun j => (sl j).isSome)) ∧ ∀ j, j < 3 → ∀ Y, sl j = some Y → cC (12 + j) kt S T Y
def slotM (sl : Nat → Option CT) (S : St) (T : TX) : Prop := (∀ j, j < 3 → st_A S (ky 0 72) j = if (sl j).isSome then 1 else 0) ∧ ∀ j, j < 3 → ∀ Y, sl j = some Y → mC pAll (fun k => st_A S (ky 0 73) (10800 * j + k)) (st_A S (ky 0 74) (17 * j)) (fun m => st_A S (ky 0 74) (17 * j + 1 + m)) (fun m => st_A S (ky 0 74) (17 * j + 9 + m)) T Y
def RC (kt : Nat) (A : AB) (S : St) : Prop := tC kt S (aT A) ∧ cC 10 kt S (aT A) (aX A) ∧ (st_P S (ky 0 4) = kt ∧ st_P S (ky 0 5) = 5 - kt) ∧ hC (au A) (aH A) S (aT A) ∧ slotC kt (aS A) S (aT A) ∧ tellC (aK A) (aL A) S ∧ (st_I S (ky 0 1) = nI (an A) ∧ ∀ j, j < an A → st_A S (ky 0 0) j = nI (aB A j)) ∧ st_I S (ky 0 2) = ap A ∧ ∀ i, i < 17 → st_L S (ky 1 0) i = lN (codeB 32 (wordsL.getD i []))
def RM (s : Nat) (A : AB) (S : St) : Prop := tM s S (aT A) ∧ cM 52 53 54 55 S (aT A) (aX A) ∧ hM (au A) (aH A) S (aT A) ∧ slotM (aS A) S (aT A) ∧ tellM (aK A) (aL A) S ∧ (st_I S (ky 0 2) = nI (an A) ∧ ∀ j, j < an A → st_A S (ky 0 1) j = sxB (aB A j)) ∧ st_I S (ky 0 17) = ap A ∧ ∀ i, i < 17 → st_L S (ky 0 9) i = lN (codeB 27 (wordsL.getD i []))
def RW (S M : St) : Prop := ∃ A kt s, RA A ∧ RC kt A S ∧ RM s A M
/-- what a question may write: the class's, the reference's -/
def kS (kt : Nat) : Nat → Prop := fun q => kF 11 q ∨ kL kt q ∨ q = ky 0 13 ∨ q = ky 0 14 ∨ q = ky 0 15
abbrev fsQ : List Nat := [49, 50, 51, 56, 57, 58, 59, 60, 63, 64, 65, 66]
theorem kS_n {kt c f : Nat} (hkt : kt = 2 ∨ kt = 3) (hf : f < 100) (h1 : c ≠ 11) (h2 : c = kt + 2 → f < 5) (h3 : c = 0 → f < 13) : ¬ kS kt (ky c f) := by
  rintro (⟨g, hg, e⟩ | (e | e) | e | e | e)
  · exact h1 ((ky_iff hf (by omega)).mp e).1
  · have := (ky_iff hf (by decide)).mp e
    have := h2 this.1
    omega
  · have := (ky_iff hf (by decide)).mp e
    have := h2 this.1
    omega
  · have := (ky_iff hf (by decide)).mp e
    have := h3 this.1
    omega
  · have := (ky_iff hf (by decide)).mp e
    have := h3 this.1
    omega
  · have := (ky_iff hf (by decide)).mp e
    have := h3 this.1
    omega
theorem tC_kS {kt : Nat} {S S' : St} {T : TX} (h : tC kt S T) (o : on (kS kt) S S') : tC kt S' T := tC_on h o (fun f hf => kS_n h.2.1 (by omega) (by rcases h.2.1 with rfl | rfl <;> decide) (fun e => by omega) (fun e => by rcases h.2.1 with rfl | rfl <;> omega)) (fun f hf => kS_n h.2.1 (by omega) (by rcases h.2.1 with rfl | rfl <;> decide) (fun _ => by omega) (fun e => by omega))
theorem cC_kS {p : Nat → Nat → Prop} {k kt : Nat} {S S' : St} {T : TX} {X : CT} (hkt : kt = 2 ∨ kt = 3) (h : cCp p k kt S T X) (hk : k ≠ 11) (o : on (kS kt) S S') : cCp p k kt S' T X := cC_on h o (fun f hf => kS_n hkt (by omega) hk (fun e => by
  have := h.2.1
  rcases hkt with rfl | rfl <;> rw [e] at this <;> cases this) (fun e => by omega))
theorem RC_on {kt : Nat} {A : AB} {S S' : St} (h : RC kt A S) (o : on (kS kt) S S') : RC kt A S' := by
  obtain ⟨h1, h2, h3, h4, h5, h6, h7, h8, h9⟩ := h
  have hkt := h1.2.1
  have n0 : ∀ f, f < 13 → ¬ kS kt (ky 0 f) := fun f hf => kS_n hkt (by omega) (by decide) (fun e => by omega) (fun _ => hf)
  have n6 : ∀ f, f < 3 → ¬ kS kt (ky 6 f) := fun f hf => kS_n hkt (by omega) (by decide) (fun e => by omega) (fun e => by omega)
  refine ⟨tC_kS h1 o, cC_kS hkt h2 (by decide) o, ?_, ?_, ?_, ?_, ?_, ?_, ?_⟩
  · rw [(o _ (n0 4 (by decide))).2.2.2.2, (o _ (n0 5 (by decide))).2.2.2.2]
    exact h3
  · obtain ⟨a, fi, b, c, d, e⟩ := h4
    refine ⟨a, fi, b, ?_, ?_, ?_⟩
    · rw [(o _ (n6 1 (by decide))).1]; exact c
    · rw [(o _ (n6 2 (by decide))).1]; exact d
    · rw [(o _ (n6 0 (by decide))).2.1]; exact e
  · refine ⟨?_, fun j hj Y hY => cC_kS hkt (h5.2 j hj Y hY) (by omega) o⟩
    rw [(o _ (n0 10 (by decide))).1]; exact h5.1
  · refine ⟨?_, ?_⟩
    · rw [(o _ (n0 12 (by decide))).1]; exact h6.1
    · rw [(o _ (n0 11 (by decide))).2.1]; exact h6.2
  · rw [(o _ (n0 1 (by decide))).1, (o _ (n0 0 (by decide))).2.1]
    exact h7
  · rw [(o _ (n0 2 (by decide))).1]
    exact h8
  · rw [(o _ (kS_n hkt (by decide) (by decide) (fun e => by omega) (fun e => by omega))).2.2.2.1]
    exact h9
theorem RM_on {s : Nat} {A : AB} {S S' : St} (h : RM s A S) (o : on (kM fsQ) S S') : RM s A S' := by
  obtain ⟨h1, h2, h3, h4, h5, h6, h7, h8⟩ := h
  have n0 : ∀ f, f < 100 → f ∉ fsQ → ¬ kM fsQ (ky 0 f) := fun f hf hn => kM_n (by decide) hf hn
  refine ⟨tM_fs (by decide) h1 o, cM_on h2 o (n0 _ (by decide) (by decide)) (n0 _ (by decide) (by decide)) (n0 _ (by decide) (by decide)) (n0 _ (by decide) (by decide)), ⟨h3.1, ?_, ?_⟩, ⟨?_, ?_⟩, ⟨?_, ?_⟩, ?_, ?_, ?_⟩
  · rw [(o _ (n0 61 (by decide) (by decide))).1]; exact h3.2.1
  · rw [(o _ (n0 62 (by decide) (by decide))).2.1]; exact h3.2.2
  · rw [(o _ (n0 72 (by decide) (by decide))).2.1]; exact h4.1
  · rw [(o _ (n0 73 (by decide) (by decide))).2.1, (o _ (n0 74 (by decide) (by decide))).2.1]; exact h4.2
  · rw [(o _ (n0 67 (by decide) (by decide))).1]; exact h5.1
  · rw [(o _ (n0 68 (by decide) (by decide))).2.1, (o _ (n0 69 (by decide) (by decide))).2.1, (o _ (n0 70 (by decide) (by decide))).2.1, (o _ (n0 71 (by decide) (by decide))).2.1]; exact h5.2
  · rw [(o _ (n0 2 (by decide) (by decide))).1, (o _ (n0 1 (by decide) (by decide))).2.1]; exact h6
  · rw [(o _ (n0 17 (by decide) (by decide))).1]; exact h7
  · rw [(o _ (n0 9 (by decide) (by decide))).2.2.2.1]; exact h8
/-! ARGUMENTS: an int is a small number, or it is no such one. -/
theorem vld (x : Int32) {n : Nat} (hn : n < 2 ^ 31) : (∃ a, a < n ∧ x = nI a) ∨ (x < 0 ∨ nI n ≤ x) := by
  rcases pk_ix x hn with h | h | ⟨j, hj, e⟩
  · exact Or.inr (Or.inl h)
  · exact Or.inr (Or.inr h)
  · exact Or.inl ⟨j, hj, e⟩
theorem C_wi {n a : Nat} (ha : a < n) (hn : n < 2 ^ 31) : f_X5_within (nI a) (nI n) = some 1 := by
  unfold f_X5_within
  rw [if_neg (nI_pos (by omega)), if_neg (nI_ge ha hn)]
theorem C_wo {n : Nat} {x : Int32} (h : x < 0 ∨ nI n ≤ x) : f_X5_within x (nI n) = some 0 := by
  unfold f_X5_within
  rcases h with h | h
  · rw [if_pos h]
  · by_cases c : x < 0
    · rw [if_pos c]
    · rw [if_neg c, if_pos h]
theorem M_wi {n a : Nat} (ha : a < n) (hn : n < 2 ^ 31) : f_X6_in (nI a) (0 : Int32) (nI n - 1) = some 1 := by
  have e : nI n - 1 = nI (n - 1) := by
    obtain ⟨m, rfl⟩ : ∃ m, n = m + 1 := ⟨n - 1, by omega⟩
    exact nI_pred m
  unfold f_X6_in
  rw [if_neg (nI_pos (by omega)), e, if_neg (nI_nlt (by omega) (by omega))]
theorem M_wo {n : Nat} (hn : n < 2 ^ 31) {x : Int32} (h : x < 0 ∨ nI n ≤ x) : f_X6_in x (0 : Int32) (nI n - 1) = some 0 := by
  unfold f_X6_in
  by_cases c : x < 0
  · rw [if_pos c]
  · rw [if_neg c]
    have h2 : nI n ≤ x := h.resolve_left c
    obtain ⟨j, hj, rfl⟩ := nI_of c
    have h3 : n ≤ j := (nI_leI hn hj).mp h2
    have h4 : nI n - 1 < nI j := by
      by_cases z : n = 0
      · subst z
        exact Int32.lt_of_lt_of_le (by decide : nI 0 - 1 < 0) (nI_pos' hj)
      · obtain ⟨m, rfl⟩ : ∃ m, n = m + 1 := ⟨n - 1, by omega⟩
        rw [nI_pred]
        exact nI_lt (by omega) hj
    rw [if_pos h4]
theorem isb1 : isb (1 : Int32) := by decide
theorem isb0 : isb (0 : Int32) := by decide
section VA
variable {kt s : Nat} {A : AB} {S M : St}
theorem RC_T (h : RC kt A S) : isT (st_P S (ky 0 4)) := by rw [h.2.2.1.1]; exact h.1.2.1
theorem tM_n (h : RM s A M) : st_A M (ky 0 24) s = nI (tn (aT A) 0) ∧ st_A M (ky 0 28) s = nI (tn (aT A) 2) ∧ st_A M (ky 0 31) s = nI (tn (aT A) 3) ∧ st_A M (ky 0 25) s = nI (tn (aT A) 1) := ⟨h.1.2.2.2.1.1, h.1.2.2.2.1.2.2.1, h.1.2.2.2.1.2.2.2.1, h.1.2.2.2.1.2.1⟩
theorem C_manI (h : RC kt A S) {a : Nat} (ha : a < tn (aT A) 2) : f_X5_isMan S (nI a) = some 1 := by
  have b := h.1.1.2.2.1
  unfold f_X5_isMan
  rw [chk_t (RC_T h), h.2.2.1.1, h.1.2.2.1 2 (by decide), C_wi ha (by omega), bnd, chk_t isb1]
theorem C_manO (h : RC kt A S) {x : Int32} (hx : x < 0 ∨ nI (tn (aT A) 2) ≤ x) : f_X5_isMan S x = some 0 := by
  unfold f_X5_isMan
  rw [chk_t (RC_T h), h.2.2.1.1, h.1.2.2.1 2 (by decide), C_wo hx, bnd, chk_t isb0]
theorem C_mirI (h : RC kt A S) {a : Nat} (ha : a < tn (aT A) 3) : f_X5_isMirror S (nI a) = some 1 := by
  have b := h.1.1.2.2.2.1
  unfold f_X5_isMirror
  rw [chk_t (RC_T h), h.2.2.1.1, h.1.2.2.1 3 (by decide), C_wi ha (by omega), bnd, chk_t isb1]
theorem C_mirO (h : RC kt A S) {x : Int32} (hx : x < 0 ∨ nI (tn (aT A) 3) ≤ x) : f_X5_isMirror S x = some 0 := by
  unfold f_X5_isMirror
  rw [chk_t (RC_T h), h.2.2.1.1, h.1.2.2.1 3 (by decide), C_wo hx, bnd, chk_t isb0]
theorem C_rooI (h : RC kt A S) {a : Nat} (ha : a < tn (aT A) 0) : f_X5_isRoom S (nI a) = some 1 := by
  have b := h.1.1.1
  unfold f_X5_isRoom
  rw [chk_t (RC_T h), h.2.2.1.1, h.1.2.2.1 0 (by decide), C_wi ha (by omega), bnd, chk_t isb1]
theorem C_rooO (h : RC kt A S) {x : Int32} (hx : x < 0 ∨ nI (tn (aT A) 0) ≤ x) : f_X5_isRoom S x = some 0 := by
  unfold f_X5_isRoom
  rw [chk_t (RC_T h), h.2.2.1.1, h.1.2.2.1 0 (by decide), C_wo hx, bnd, chk_t isb0]
theorem C_pasI (h : RC kt A S) {t : Nat} (ht : t < cn (aX A) + 1) : f_X5_isPast S (nI t) = some 1 := by
  have b := h.2.1.1.1
  unfold f_X5_isPast
  rw [if_neg (nI_pos (by omega)), h.2.1.2.2.2.1, if_neg (nI_nlt (by omega) (by omega))]
theorem C_pasO (h : RC kt A S) {x : Int32} (hx : x < 0 ∨ nI (cn (aX A) + 1) ≤ x) : f_X5_isPast S x = some 0 := by
  have b := h.2.1.1.1
  unfold f_X5_isPast
  by_cases c : x < 0
  · rw [if_pos c]
  · rw [if_neg c, h.2.1.2.2.2.1]
    obtain ⟨j, hj, rfl⟩ := nI_of c
    have h3 := (nI_leI (by omega) hj).mp (hx.resolve_left c)
    rw [if_pos (nI_lt (by omega) hj)]
theorem M_manI (h : RM s A M) {a : Nat} (ha : a < tn (aT A) 2) : f_X6_isMan M (nI a) = some 1 := by
  have b := h.1.1.2.2.1
  obtain ⟨l1, l2⟩ := tM_live h.1
  unfold f_X6_isMan
  rw [chk_t l1, l2, (tM_n h).2.1, M_wi ha (by omega), bnd, chk_t isb1]
theorem M_manO (h : RM s A M) {x : Int32} (hx : x < 0 ∨ nI (tn (aT A) 2) ≤ x) : f_X6_isMan M x = some 0 := by
  have b := h.1.1.2.2.1
  obtain ⟨l1, l2⟩ := tM_live h.1
  unfold f_X6_isMan
  rw [chk_t l1, l2, (tM_n h).2.1, M_wo (by omega) hx, bnd, chk_t isb0]
theorem M_mirI (h : RM s A M) {a : Nat} (ha : a < tn (aT A) 3) : f_X6_isMirror M (nI a) = some 1 := by
  have b := h.1.1.2.2.2.1
  obtain ⟨l1, l2⟩ := tM_live h.1
  unfold f_X6_isMirror
  rw [chk_t l1, l2, (tM_n h).2.2.1, M_wi ha (by omega), bnd, chk_t isb1]
theorem M_mirO (h : RM s A M) {x : Int32} (hx : x < 0 ∨ nI (tn (aT A) 3) ≤ x) : f_X6_isMirror M x = some 0 := by
  have b := h.1.1.2.2.2.1
  obtain ⟨l1, l2⟩ := tM_live h.1
  unfold f_X6_isMirror
  rw [chk_t l1, l2, (tM_n h).2.2.1, M_wo (by omega) hx, bnd, chk_t isb0]
theorem M_rooI (h : RM s A M) {a : Nat} (ha : a < tn (aT A) 0) : f_X6_isRoom M (nI a) = some 1 := by
  have b := h.1.1.1
  obtain ⟨l1, l2⟩ := tM_live h.1
  unfold f_X6_isRoom
  rw [chk_t l1, l2, (tM_n h).1, M_wi ha (by omega), bnd, chk_t isb1]
theorem M_rooO (h : RM s A M) {x : Int32} (hx : x < 0 ∨ nI (tn (aT A) 0) ≤ x) : f_X6_isRoom M x = some 0 := by
  have b := h.1.1.1
  obtain ⟨l1, l2⟩ := tM_live h.1
  unfold f_X6_isRoom
  rw [chk_t l1, l2, (tM_n h).1, M_wo (by omega) hx, bnd, chk_t isb0]
theorem M_pasI (h : RM s A M) {t : Nat} (ht : t < cn (aX A) + 1) : f_X6_isPast M (nI t) = some 1 := by
  have b := h.2.1.1.1
  have e := M_wi ht (by omega)
  rw [nI_pred] at e
  unfold f_X6_isPast
  rw [h.2.1.2.1, e, bnd, chk_t isb1]
theorem M_pasO (h : RM s A M) {x : Int32} (hx : x < 0 ∨ nI (cn (aX A) + 1) ≤ x) : f_X6_isPast M x = some 0 := by
  have b := h.2.1.1.1
  have e := M_wo (by omega) hx
  rw [nI_pred] at e
  unfold f_X6_isPast
  rw [h.2.1.2.1, e, bnd, chk_t isb0]
end VA
