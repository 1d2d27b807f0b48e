/-! THE FIRST FAULT OF THE FORM, token by token; the class's scan. -/
def runF (tk : Nat → Nat) : Nat → Nat → QS → Nat × Nat
  | 0, t, _ => (0, t)
  | f + 1, t, q => if tk t = 0 then (if q.1 = 0 then (0, t) else (1, t)) else match goQ q (tk t) with
    | none => (1, t)
    | some q' => if t = 400 ∨ many q' = true then (2, t) else runF tk f (t + 1) q'
def rn (tk : Nat → Nat) (t : Nat) (q : QS) : Nat × Nat := runF tk (401 - t) t q
def aft (tk : Nat → Nat) (t : Nat) (g : Option QS) : Nat × Nat := match g with
  | none => (1, t)
  | some q' => if t = 400 ∨ many q' = true then (2, t) else rn tk (t + 1) q'
theorem aft_n (tk : Nat → Nat) (t : Nat) : aft tk t none = (1, t) := rfl
theorem aft_s (tk : Nat → Nat) (t : Nat) (q' : QS) : aft tk t (some q') = if t = 400 ∨ many q' = true then (2, t) else rn tk (t + 1) q' := rfl
theorem rn_e (tk : Nat → Nat) {t : Nat} (q : QS) (h : t ≤ 400) : rn tk t q = if tk t = 0 then (if q.1 = 0 then (0, t) else (1, t)) else aft tk t (goQ q (tk t)) := by
  have e : rn tk t q = runF tk ((400 - t) + 1) t q := by
    unfold rn
    rw [show 401 - t = (400 - t) + 1 by omega]
  have e2 : ∀ q', rn tk (t + 1) q' = runF tk (400 - t) (t + 1) q' := fun q' => by
    unfold rn
    rw [show 401 - (t + 1) = 400 - t by omega]
  rw [e, runF]
  cases goQ q (tk t) with
  | none => rfl
  | some q' =>
    rw [aft_s, e2]
def q00 : QS := (0, 0, 0, true, true, 0, 0, fun _ => 0)
theorem no_some {q' : QS} {P : Prop} (h : (none : Option QS) = some q') : P := by cases h
theorem goQ_b {q q' : QS} {k : Nat} (hB : scB q) (h : goQ q k = some q') : (q'.2.2.2.2.2.1 ≤ 7 ∧ q'.2.2.2.2.2.2.1 ≤ 5 ∧ ∀ i, i < 8 → q'.2.2.2.2.2.2.2 i ≤ 1001) ∧ (many q' = false → scB q') := by
  obtain ⟨tel, sp, pt, w, fr, br, ifs, cn⟩ := q
  obtain ⟨a, b, c⟩ : br ≤ 6 ∧ ifs ≤ 4 ∧ ∀ i, i < 8 → cn i ≤ 1000 := hB
  have c' : ∀ i, i < 8 → cn i ≤ 1001 := fun i hi => by have := c i hi; omega
  have fin : ∀ (tel' sp' pt' br' ifs' : Nat) (w' fr' : Bool), br' ≤ 7 → ifs' ≤ 5 → q' = (tel', sp', pt', w', fr', br', ifs', cn) → (q'.2.2.2.2.2.1 ≤ 7 ∧ q'.2.2.2.2.2.2.1 ≤ 5 ∧ ∀ i, i < 8 → q'.2.2.2.2.2.2.2 i ≤ 1001) ∧ (many q' = false → scB q') := by
    intro tel' sp' pt' br' ifs' w' fr' h1 h2 e
    subst e
    refine ⟨⟨h1, h2, c'⟩, fun hm => ?_⟩
    have hm2 : ¬ ((tel' ≠ 0 ∧ mostN.getD (tel' - 20) 0 < cn (tel' - 20)) ∨ 4 < ifs' ∨ 6 < br') := of_decide_eq_false hm
    exact ⟨by omega, by omega, c⟩
  by_cases ht : tel = 0
  · subst ht
    have eg : goQ (0, sp, pt, w, fr, br, ifs, cn) k = if 20 ≤ k ∧ k < 28 then some (k, 0, 0, true, true, 0, 0, fun i => if i = k - 20 then cn i + 1 else cn i) else none := rfl
    rw [eg] at h
    by_cases hk : 20 ≤ k ∧ k < 28
    · rw [if_pos hk] at h
      have e := Option.some.inj h
      subst e
      refine ⟨⟨Nat.zero_le _, Nat.zero_le _, fun i hi => ?_⟩, fun hm => ⟨Nat.zero_le _, Nat.zero_le _, fun i hi => ?_⟩⟩
      · show (if i = k - 20 then cn i + 1 else cn i) ≤ 1001
        have := c i hi
        split <;> omega
      · have hm2 : ¬ ((k ≠ 0 ∧ mostN.getD (k - 20) 0 < (if k - 20 = k - 20 then cn (k - 20) + 1 else cn (k - 20))) ∨ 4 < 0 ∨ 6 < 0) := of_decide_eq_false hm
        have hm3 := (most_C (S := (fun _ => 0, fun _ _ => 0, fun _ => 0, fun _ _ => 0, fun _ => 0)) (k - 20) (by omega)).2
        rw [if_pos rfl] at hm2
        have := c i hi
        show (if i = k - 20 then cn i + 1 else cn i) ≤ 1000
        by_cases q : i = k - 20
        · rw [if_pos q, q]; omega
        · rw [if_neg q]; omega
    · rw [if_neg hk] at h
      cases h
  have eg : goQ (tel, sp, pt, w, fr, br, ifs, cn) k = if due tel sp = 99 then lawO (tel, sp, pt, w, fr, br, ifs, cn) k else if k = due tel sp then some (if due tel sp = 4 then 0 else tel, sp + 1, pt, w, fr, br, ifs, cn) else none := if_neg ht
  rw [eg] at h
  by_cases c9 : due tel sp = 99
  · rw [if_pos c9] at h
    unfold lawO uBeg uEnd pEnd at h
    dsimp only at h
    repeat' split at h
    all_goals first | exact no_some h | exact fin _ _ _ _ _ _ _ (by omega) (by omega) (Option.some.inj h).symm
  · rw [if_neg c9] at h
    by_cases ck : k = due tel sp
    · rw [if_pos ck] at h
      exact fin _ _ _ _ _ _ _ (by omega) (by omega) (Option.some.inj h).symm
    · rw [if_neg ck] at h
      cases h
theorem kd_ok {B : Nat → Nat} {n i : Nat} (h : B i < 256) : okK (kd B n i) := by
  have w : ∀ L, okK (wOf L) := fun L => by
    have h2 : ∀ k < 37, 20 ≤ k → k ∈ kdL := by decide
    rcases wOf_le L with q | q
    · rw [q]; exact (by decide : 1 ∈ kdL)
    · exact h2 _ q.2 q.1
  have s : ∀ c < 256, sg c ∈ kdL := by decide +kernel
  have e3 : okK 3 := (by decide : 3 ∈ kdL)
  have e2 : okK 2 := (by decide : 2 ∈ kdL)
  unfold kd
  repeat' split
  · exact e3
  · exact w _
  · exact e3
  · exact e2
  · exact s _ h
def kSc : Nat → Prop := fun q => ∃ f, 1 ≤ f ∧ f ≤ 14 ∧ q = ky 1 f
theorem kSc_ {f : Nat} (h : 1 ≤ f) (h' : f ≤ 14) : kSc (ky 1 f) := ⟨f, h, h', rfl⟩
theorem kSc_n {c f : Nat} (hf : f < 100) (h : c ≠ 1 ∨ f = 0) : ¬ kSc (ky c f) := by
  rintro ⟨g, h1, h2, e⟩
  have := (ky_iff hf (by omega)).mp e
  omega
theorem kG_T {q : Nat} (h : kG q) : kSc q := by
  obtain ⟨f, h1, h2, e⟩ := h
  exact ⟨f, by omega, h2, e⟩
theorem tpC_on {B : Nat → Nat} {n : Nat} {S S' : St} (h : tpC B n S) (o : on kSc S S') : tpC B n S' := by
  refine ⟨h.1, h.2.1, ?_⟩
  rw [(o _ (kSc_n (by decide) (by decide))).2.1]
  exact h.2.2
theorem wrdC_on {S S' : St} (h : wrdC S) (o : on kSc S S') : wrdC S' := by
  unfold wrdC
  rw [(o _ (kSc_n (by decide) (by decide))).2.2.2.1]
  exact h
def tokC (B : Nat → Nat) (n : Nat) (S : St) (t : Nat) : Prop := st_A S (ky 1 1) t = ckd (tkK B n t) ∧ st_A S (ky 1 2) t = nI (ps B n t) ∧ (tkK B n t = 1 → st_L S (ky 1 3) t = lN (codeB 32 (tkL B n t))) ∧ (tkK B n t = 2 → st_L S (ky 1 3) t = lN (tkV B n t))
theorem putLong_nI {k n i : Nat} {S : St} {v : Int64} (hn : wk_m wd_C k = n) (hi : i < n) (hb : n < 2 ^ 31) : f_X5_putLong k S (nI i) v = some (up_L S k (vp_updL (st_L S k) i v)) := by
  unfold f_X5_putLong
  rw [hn, if_neg (nI_pos (by omega)), if_neg (show ¬ Int32.ofNat n ≤ nI i from nI_ge hi hb), chk_t (ib_nI hi hb), nI_clamp (by omega)]
  rfl
def upAdd (S : St) (t : Nat) (x1 x2 : Int32) : St := up_I (up_L (up_A (up_A S (ky 1 1) (upd (st_A S (ky 1 1)) t x1)) (ky 1 2) (upd (st_A S (ky 1 2)) t x2)) (ky 1 3) (vp_updL (st_L S (ky 1 3)) t (st_J S (ky 1 6)))) (ky 1 4) (nI (t + 1))
theorem C_add {S : St} {t : Nat} (ht : t < 400) (h : st_I S (ky 1 4) = nI t) (x1 x2 : Int32) : f_X3_add S x1 x2 = some (upAdd S t x1 x2) := by
  have h1 : ∀ f, st_I (up_A S (ky 1 1) f) (ky 1 4) = nI t := fun _ => h
  have h2 : ∀ f g, st_I (up_A (up_A S (ky 1 1) f) (ky 1 2) g) (ky 1 4) = nI t := fun _ _ => h
  have h3 : ∀ f g k, st_I (up_L (up_A (up_A S (ky 1 1) f) (ky 1 2) g) (ky 1 3) k) (ky 1 4) = nI t := fun _ _ _ => h
  unfold f_X3_add
  rw [h, put_nI (n := 400) rfl ht (by decide), bnd, h1, put_nI (n := 400) rfl ht (by decide), bnd, h2, putLong_nI (n := 400) rfl ht (by decide), bnd, h3, nI_1, lt_e]
  rfl
theorem upAdd_on (S : St) (t : Nat) (x1 x2 : Int32) : on kSc S (upAdd S t x1 x2) := on_trans (on_trans (on_trans (on_A _ _ _ (kSc_ (by decide) (by decide))) (on_A _ _ _ (kSc_ (by decide) (by decide)))) (on_L _ _ _ (kSc_ (by decide) (by decide)))) (on_I _ _ _ (kSc_ (by decide) (by decide)))
theorem upAdd_n {B : Nat → Nat} {n : Nat} (S : St) (c : Nat) (x1 x2 : Int32) {t : Nat} (ht : t < c) (h : tokC B n S t) : tokC B n (upAdd S c x1 x2) t := by
  have e1 : st_A (upAdd S c x1 x2) (ky 1 1) = upd (st_A S (ky 1 1)) c x1 := rfl
  have e2 : st_A (upAdd S c x1 x2) (ky 1 2) = upd (st_A S (ky 1 2)) c x2 := rfl
  have e3 : st_L (upAdd S c x1 x2) (ky 1 3) = vp_updL (st_L S (ky 1 3)) c (st_J S (ky 1 6)) := rfl
  unfold tokC
  rw [e1, e2, e3, upd_n (by omega), upd_n (by omega), pk_uLn (by omega)]
  exact h
theorem upAdd_s {B : Nat → Nat} {n : Nat} (S : St) (c : Nat) {x1 x2 : Int32} (h1 : x1 = ckd (tkK B n c)) (h2 : x2 = nI (ps B n c)) (h3 : tkK B n c = 1 → st_J S (ky 1 6) = lN (codeB 32 (tkL B n c))) (h4 : tkK B n c = 2 → st_J S (ky 1 6) = lN (tkV B n c)) : tokC B n (upAdd S c x1 x2) c := by
  have e1 : st_A (upAdd S c x1 x2) (ky 1 1) = upd (st_A S (ky 1 1)) c x1 := rfl
  have e2 : st_A (upAdd S c x1 x2) (ky 1 2) = upd (st_A S (ky 1 2)) c x2 := rfl
  have e3 : st_L (upAdd S c x1 x2) (ky 1 3) = vp_updL (st_L S (ky 1 3)) c (st_J S (ky 1 6)) := rfl
  unfold tokC
  rw [e1, e2, e3, upd_s, upd_s, pk_uLs]
  exact ⟨h1, h2, h3, h4⟩
theorem tokC_on {B : Nat → Nat} {n : Nat} {S S' : St} {t : Nat} (h : tokC B n S t) (o : on kG S S') : tokC B n S' t := by
  have g : ∀ f, f < 7 → ¬ kG (ky 1 f) := by
    rintro f hf ⟨g, h1, h2, e⟩
    have := (ky_iff (by omega) (by omega)).mp e
    omega
  unfold tokC
  rw [(o _ (g 1 (by decide))).2.1, (o _ (g 2 (by decide))).2.1, (o _ (g 3 (by decide))).2.2.2.1]
  exact h
theorem scC_on {S S' : St} {q : QS} (h : scC S q) (e1 : ∀ f, 7 ≤ f → f ≤ 14 → st_I S' (ky 1 f) = st_I S (ky 1 f)) (e2 : st_A S' (ky 1 7) = st_A S (ky 1 7)) : scC S' q := by
  obtain ⟨tel, sp, pt, w, fr, br, ifs, cn⟩ := q
  unfold scC
  dsimp only
  rw [e1 8 (by decide) (by decide), e1 9 (by decide) (by decide), e1 10 (by decide) (by decide), e1 11 (by decide) (by decide), e1 12 (by decide) (by decide), e1 13 (by decide) (by decide), e1 14 (by decide) (by decide), e2]
  exact h
