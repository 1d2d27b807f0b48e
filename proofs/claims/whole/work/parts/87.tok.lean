/-! TOKENS, apart from how they are kept: B j the bytes, n how many. Kinds are numbers: 0 the end, 1 a name, 2 an int, 3 none, 4.. signs, 20.. words. -/
def wh (p : Nat → Bool) : Nat → Nat → Nat
  | 0, i => i
  | f + 1, i => if p i then wh p f (i + 1) else i
def adv (p : Nat → Bool) (n i : Nat) : Nat := wh p (n - i) i
theorem adv_ge {p : Nat → Bool} {n i : Nat} (h : n ≤ i) : adv p n i = i := by
  unfold adv
  rw [show n - i = 0 by omega]
  rfl
theorem adv_t {p : Nat → Bool} {n i : Nat} (h : i < n) (hp : p i = true) : adv p n i = adv p n (i + 1) := by
  unfold adv
  obtain ⟨d, hd⟩ : ∃ d, n - i = d + 1 := ⟨n - i - 1, by omega⟩
  rw [hd, show n - (i + 1) = d by omega, wh, if_pos hp]
theorem adv_f {p : Nat → Bool} {n i : Nat} (hp : p i = false) : adv p n i = i := by
  unfold adv
  cases n - i with
  | zero => rfl
  | succ d => rw [wh, if_neg (by rw [hp]; decide)]
theorem adv_all {p : Nat → Bool} {n : Nat} : ∀ (d i : Nat), n - i = d → i ≤ n → (i ≤ adv p n i ∧ adv p n i ≤ n) ∧ (∀ j, i ≤ j → j < adv p n i → p j = true) ∧ (adv p n i < n → p (adv p n i) = false) := by
  intro d
  induction d with
  | zero =>
    intro i h1 h2
    rw [adv_ge (by omega)]
    exact ⟨⟨Nat.le_refl _, h2⟩, fun j a b => absurd a (by omega), fun h => absurd h (by omega)⟩
  | succ d ih =>
    intro i h1 h2
    cases hp : p i with
    | false =>
      rw [adv_f hp]
      exact ⟨⟨Nat.le_refl _, h2⟩, fun j a b => absurd a (by omega), fun _ => hp⟩
    | true =>
      obtain ⟨⟨a, b⟩, c, e⟩ := ih (i + 1) (by omega) (by omega)
      rw [adv_t (by omega) hp]
      refine ⟨⟨by omega, b⟩, fun j h3 h4 => ?_, e⟩
      by_cases q : j = i
      · rw [q]; exact hp
      · exact c j (by omega) h4
theorem adv_lo {p : Nat → Bool} {n i : Nat} (h : i ≤ n) : i ≤ adv p n i := (adv_all _ i rfl h).1.1
theorem adv_hi {p : Nat → Bool} {n i : Nat} (h : i ≤ n) : adv p n i ≤ n := (adv_all _ i rfl h).1.2
theorem adv_in {p : Nat → Bool} {n i : Nat} (h : i ≤ n) : ∀ j, i ≤ j → j < adv p n i → p j = true := (adv_all _ i rfl h).2.1
theorem adv_out {p : Nat → Bool} {n i : Nat} (h : i ≤ n) : adv p n i < n → p (adv p n i) = false := (adv_all _ i rfl h).2.2
theorem wh_up {σ ρ : Type} {step : σ → Option (σ ⊕ ρ)} (st : Nat → σ) (F : Nat → ρ) (p : Nat → Bool) (lo n : Nat) (hs : ∀ j, lo ≤ j → j < n → p j = true → step (st j) = some (.inl (st (j + 1)))) (hx : ∀ j, lo ≤ j → j < n → p j = false → step (st j) = some (.inr (F j))) (he : step (st n) = some (.inr (F n))) : ∀ (fuel i : Nat), n - i < fuel → lo ≤ i → i ≤ n → iter step fuel (st i) = some (F (adv p n i)) := by
  intro fuel
  induction fuel with
  | zero => intro i h; omega
  | succ m ih =>
    intro i h1 h2 h3
    rw [iter]
    by_cases h : i = n
    · subst h
      rw [he, adv_ge (Nat.le_refl _)]
    · cases hp : p i with
      | false => rw [hx i h2 (by omega) hp, adv_f hp]
      | true =>
        rw [hs i h2 (by omega) hp, adv_t (by omega) hp]
        exact ih (i + 1) (by omega) (by omega) (by omega)
theorem wh_loop {σ ρ : Type} {step : σ → Option (σ ⊕ ρ)} (st : Nat → σ) (F : Nat → ρ) (p : Nat → Bool) (i n : Nat) (hn : n < 40000) (hi : i ≤ n) (hs : ∀ j, i ≤ j → j < n → p j = true → step (st j) = some (.inl (st (j + 1)))) (hx : ∀ j, i ≤ j → j < n → p j = false → step (st j) = some (.inr (F j))) (he : step (st n) = some (.inr (F n))) : iter step FU (st i) = some (F (adv p n i)) := wh_up st F p i n hs hx he FU i (by show n - i < 40000; omega) (Nat.le_refl _) hi
def bk (c : Nat) : Bool := decide (c = 9 ∨ c = 10 ∨ c = 13 ∨ c = 32)
def isl (c : Nat) : Bool := decide (97 ≤ c ∧ c ≤ 122)
def isd (c : Nat) : Bool := decide (48 ≤ c ∧ c ≤ 57)
def ctn (a c : Nat) : Bool := if isl a then isl c else if isd a then isd c else false
def nx (B : Nat → Nat) (n i : Nat) : Nat := adv (fun j => bk (B j)) n i
def te (B : Nat → Nat) (n i : Nat) : Nat := adv (fun j => ctn (B i) (B j)) n (i + 1)
/-- t letters from i on; the int of t digits -/
def ltr (B : Nat → Nat) (i : Nat) : Nat → List Nat
  | 0 => []
  | t + 1 => ltr B i t ++ [B (i + t) - 96]
def dvl (B : Nat → Nat) (i : Nat) : Nat → Nat
  | 0 => 0
  | t + 1 => dvl B i t * 10 + (B (i + t) - 48)
def wOf (l : List Nat) : Nat := match s_fst (fun w => decide (wordsL.getD w [] = l)) 17 with
  | none => 1
  | some w => 20 + w
def sg (c : Nat) : Nat := if c = 59 then 4 else if c = 61 then 5 else if c = 40 then 6 else if c = 41 then 7 else if c = 43 then 8 else if c = 45 then 9 else if c = 42 then 10 else if c = 47 then 15 else if c = 60 then 13 else 3
/-- the kind of the token that begins at i -/
def kd (B : Nat → Nat) (n i : Nat) : Nat := if isl (B i) then (if 8 < te B n i - i then 3 else wOf (ltr B i (te B n i - i))) else if isd (B i) then (if 4 < te B n i - i then 3 else 2) else sg (B i)
def ps (B : Nat → Nat) (n : Nat) : Nat → Nat
  | 0 => nx B n 0
  | t + 1 => nx B n (te B n (ps B n t))
def tkK (B : Nat → Nat) (n t : Nat) : Nat := if n ≤ ps B n t then 0 else kd B n (ps B n t)
def tkL (B : Nat → Nat) (n t : Nat) : List Nat := ltr B (ps B n t) (te B n (ps B n t) - ps B n t)
def tkV (B : Nat → Nat) (n t : Nat) : Nat := dvl B (ps B n t) (te B n (ps B n t) - ps B n t)
/-- the class's number of a kind -/
def ckN (k : Nat) : Nat := if 20 ≤ k then 180 + k else [0, 1, 2, 0, 59, 61, 40, 41, 43, 45, 42, 0, 0, 60, 0, 47].getD k 0
def ckd (k : Nat) : Int32 := nI (ckN k)
theorem codeB_r (b : Nat) (l : List Nat) : codeB b l = (l.reverse).foldr (fun x c => b * c + x) 0 := by
  unfold codeB
  rw [List.foldr_reverse]
theorem codeB_s (b : Nat) (l : List Nat) (x : Nat) : codeB b (l ++ [x]) = b * codeB b l + x := by
  unfold codeB
  rw [List.foldl_append]
  rfl
theorem fr_inj {b : Nat} : ∀ (l l' : List Nat), (∀ x, x ∈ l → 1 ≤ x ∧ x < b) → (∀ x, x ∈ l' → 1 ≤ x ∧ x < b) → l.foldr (fun x c => b * c + x) 0 = l'.foldr (fun x c => b * c + x) 0 → l = l'
  | [], [], _, _, _ => rfl
  | [], y :: l', _, h', e => by
    have h2 := h' y (List.mem_cons_self ..)
    have e2 : 0 = b * (l'.foldr (fun x c => b * c + x) 0) + y := e
    omega
  | x :: l, [], h, _, e => by
    have h2 := h x (List.mem_cons_self ..)
    have e2 : b * (l.foldr (fun x c => b * c + x) 0) + x = 0 := e
    omega
  | x :: l, y :: l', h, h', e => by
    have hx := h x (List.mem_cons_self ..)
    have hy := h' y (List.mem_cons_self ..)
    have e2 : b * (l.foldr (fun x c => b * c + x) 0) + x = b * (l'.foldr (fun x c => b * c + x) 0) + y := e
    have e3 : x = y := by
      have := congrArg (fun q => q % b) e2
      rwa [Nat.mul_add_mod, Nat.mul_add_mod, Nat.mod_eq_of_lt hx.2, Nat.mod_eq_of_lt hy.2] at this
    subst e3
    have e4 : l.foldr (fun x c => b * c + x) 0 = l'.foldr (fun x c => b * c + x) 0 := Nat.eq_of_mul_eq_mul_left (by omega) (Nat.add_right_cancel e2)
    rw [fr_inj l l' (fun z hz => h z (List.mem_cons_of_mem _ hz)) (fun z hz => h' z (List.mem_cons_of_mem _ hz)) e4]
theorem codeB_inj {b : Nat} {l l' : List Nat} (h : ∀ x, x ∈ l → 1 ≤ x ∧ x < b) (h' : ∀ x, x ∈ l' → 1 ≤ x ∧ x < b) (e : codeB b l = codeB b l') : l = l' := by
  rw [codeB_r, codeB_r] at e
  have := fr_inj _ _ (fun x hx => h x (List.mem_reverse.mp hx)) (fun x hx => h' x (List.mem_reverse.mp hx)) e
  exact List.reverse_inj.mp this
theorem ltr_r {B : Nat → Nat} {i : Nat} : ∀ t, (∀ j, j < t → isl (B (i + j)) = true) → ∀ x, x ∈ ltr B i t → 1 ≤ x ∧ x ≤ 26
  | 0, _, x, hx => by cases hx
  | t + 1, h, x, hx => by
    rcases List.mem_append.mp hx with q | q
    · exact ltr_r t (fun j hj => h j (by omega)) x q
    · have h2 := of_decide_eq_true (h t (by omega))
      have e : x = B (i + t) - 96 := List.mem_singleton.mp q
      omega
theorem ltr_l {B : Nat → Nat} {i : Nat} : ∀ t, (ltr B i t).length = t
  | 0 => rfl
  | t + 1 => by
    show (ltr B i t ++ [B (i + t) - 96]).length = t + 1
    rw [List.length_append, ltr_l t]
    rfl
theorem codeB_lt {b : Nat} (B : Nat → Nat) (i : Nat) (hb : 26 < b) : ∀ t, (∀ j, j < t → isl (B (i + j)) = true) → codeB b (ltr B i t) < b ^ t
  | 0, _ => by show (0 : Nat) < 1; omega
  | t + 1, h => by
    have h1 := codeB_lt B i hb t (fun j hj => h j (by omega))
    have h2 := of_decide_eq_true (h t (by omega))
    rw [ltr, codeB_s, Nat.pow_succ]
    have h3 : b * codeB b (ltr B i t) + b ≤ b * b ^ t := by
      rw [← Nat.mul_succ]
      exact Nat.mul_le_mul_left _ h1
    rw [Nat.mul_comm (b ^ t) b]
    omega
theorem dvl_lt {B : Nat → Nat} {i : Nat} : ∀ t, (∀ j, j < t → isd (B (i + j)) = true) → dvl B i t < 10 ^ t
  | 0, _ => by show (0 : Nat) < 1; omega
  | t + 1, h => by
    have h1 := dvl_lt t (fun j hj => h j (by omega))
    have h2 := of_decide_eq_true (h t (by omega))
    rw [dvl, Nat.pow_succ]
    omega
theorem lN_inj {a b : Nat} (ha : a < 2 ^ 63) (hb : b < 2 ^ 63) (e : lN a = lN b) : a = b := by
  have h : (Int64.ofNat a).toInt = (Int64.ofNat b).toInt := congrArg Int64.toInt e
  rw [Int64.toInt_ofNat_of_lt ha, Int64.toInt_ofNat_of_lt hb] at h
  omega
theorem lg_eq {a b : Nat} (ha : a < 2 ^ 63) (hb : b < 2 ^ 63) : (lg_cmp (lN a) (lN b) = 0) ↔ a = b := by
  unfold lg_cmp
  constructor
  · intro h
    by_cases c : lN a > lN b
    · rw [if_pos c] at h; exact absurd h (by decide)
    · rw [if_neg c] at h
      by_cases d : lN a = lN b
      · exact lN_inj ha hb d
      · rw [if_neg d] at h; exact absurd h (by decide)
  · intro h
    subst h
    rw [if_neg (by exact Int64.lt_irrefl), if_pos rfl]
