/-! WHAT A TEXT AND A COURT ARE, apart from how class and reference keep them.
A text: numbers (0 rooms, 1 doors, 2 men, 3 mirrors, 4 breaks, 5 seed), rows (0, 1 a door's ends, 2 a man's rank, 3 his room, 4 where a mirror hangs, 5 whose it is), laws (0 .. 5 the men's, 6 late) as functions of the six variables.
A court: the minute, rows by minute (0 a man's room, 1 his rank, 2 where a mirror hangs, 3 how late it is), which are turned, when each broke, what each showed then. -/
abbrev TX : Type := (Nat → Nat) × (Nat → Nat → Nat) × (Nat → (Nat → Int32) → Int32)
abbrev CT : Type := Nat × (Nat → Nat → Nat → Nat) × (Nat → Nat → Bool) × (Nat → Option Nat) × (Nat → Option Nat)
def tn (T : TX) : Nat → Nat := T.1
def tf (T : TX) : Nat → Nat → Nat := T.2.1
def tg (T : TX) : Nat → (Nat → Int32) → Int32 := T.2.2
def cn (X : CT) : Nat := X.1
def cf (X : CT) : Nat → Nat → Nat → Nat := X.2.1
def cw (X : CT) : Nat → Nat → Bool := X.2.2.1
def ck (X : CT) : Nat → Option Nat := X.2.2.2.1
def cz (X : CT) : Nat → Option Nat := X.2.2.2.2
def tb (T : TX) : Prop := tn T 0 ≤ 8 ∧ tn T 1 ≤ 12 ∧ tn T 2 ≤ 6 ∧ tn T 3 ≤ 8 ∧ tn T 4 ≤ 100 ∧ tn T 5 ≤ 9999 ∧ (∀ d, d < tn T 1 → tf T 0 d < tn T 0 ∧ tf T 1 d < tn T 0 ∧ tf T 0 d ≠ tf T 1 d) ∧ (∀ a, a < tn T 2 → tf T 2 a ≤ 20 ∧ tf T 3 a < tn T 0) ∧ ∀ m, m < tn T 3 → tf T 4 m < tn T 0 ∧ tf T 5 m < tn T 2
def cb (T : TX) (X : CT) : Prop := cn X ≤ 299 ∧ (∀ t, t ≤ cn X → (∀ a, a < tn T 2 → cf X 0 t a < tn T 0 ∧ cf X 1 t a ≤ 20) ∧ ∀ m, m < tn T 3 → cf X 2 t m < tn T 0 ∧ cf X 3 t m ≤ 240) ∧ ∀ m, m < tn T 3 → ∀ b, ck X m = some b → b ≤ cn X ∧ ∀ v, cz X m = some v → v ≤ b
def oI : Option Nat → Int32
  | none => -2
  | some v => nI v
def bkC : Option Nat → Int32
  | none => 100000
  | some v => nI v
def bkM : Option Nat → Int32
  | none => -1
  | some v => nI v
/-- the class's laws: the machine at pc computes L of the variables, and writes its stack alone -/
def lawC (kl : Nat) (S : St) (pc : Int32) (L : (Nat → Int32) → Int32) : Prop := ∀ S' : St, st_A S' (ky kl 0) = st_A S (ky kl 0) → st_A S' (ky kl 1) = st_A S (ky kl 1) → st_I S' (ky kl 2) = st_I S (ky kl 2) → ∃ f, f_X1_valueOf kl S' pc = some (L (st_A S' (ky kl 6)), up_A S' (ky kl 5) f)
/-- a law asks for six variables alone -/
def lawV (L : (Nat → Int32) → Int32) : Prop := ∀ v v' : Nat → Int32, (∀ i, i < 6 → v i = v' i) → L v = L v'
/-- the class's text at key kt -/
def tC (kt : Nat) (S : St) (T : TX) : Prop := tb T ∧ (kt = 2 ∨ kt = 3) ∧ (∀ i, i < 6 → st_I S (ky kt i) = nI (tn T i)) ∧ (∀ d, d < tn T 1 → st_A S (ky kt 7) (d * 2) = nI (tf T 0 d) ∧ st_A S (ky kt 7) (d * 2 + 1) = nI (tf T 1 d)) ∧ (∀ a, a < tn T 2 → st_A S (ky kt 8) a = nI (tf T 2 a) ∧ st_A S (ky kt 9) a = nI (tf T 3 a)) ∧ (∀ m, m < tn T 3 → st_A S (ky kt 11) m = nI (tf T 4 m) ∧ st_A S (ky kt 12) m = nI (tf T 5 m)) ∧ (∀ a, a < tn T 2 → lawC (kt + 2) S (st_A S (ky kt 10) a) (tg T a)) ∧ lawC (kt + 2) S (st_I S (ky kt 6)) (tg T 6) ∧ ∀ i, i < 7 → lawV (tg T i)
/-- the class's court at key k; 'p': where the rows of lateness hold already -/
def cCp (p : Nat → Nat → Prop) (k kt : Nat) (S : St) (T : TX) (X : CT) : Prop := cb T X ∧ cl_C k = 0 ∧ st_P S (ky k 0) = kt ∧ st_I S (ky k 1) = nI (cn X) ∧ (∀ t, t ≤ cn X → (∀ a, a < tn T 2 → st_A S (ky k 2) (t * 6 + a) = nI (cf X 0 t a) ∧ st_A S (ky k 3) (t * 6 + a) = nI (cf X 1 t a)) ∧ (∀ m, m < tn T 3 → st_A S (ky k 4) (t * 8 + m) = nI (cf X 2 t m) ∧ (p t m → st_A S (ky k 5) (t * 8 + m) = nI (cf X 3 t m))) ∧ st_A S (ky k 6) t = nI (bs (tn T 3) (cw X t))) ∧ ∀ m, m < tn T 3 → st_A S (ky k 7) m = bkC (ck X m) ∧ (ck X m ≠ none → st_A S (ky k 8) m = oI (cz X m))
def pAll : Nat → Nat → Prop := fun _ _ => True
abbrev cC (k kt : Nat) (S : St) (T : TX) (X : CT) : Prop := cCp pAll k kt S T X
/-- the reference's laws -/
def wd (q : Nat) : Nat := if q = 26 ∨ q = 27 then 12 else if q = 29 ∨ q = 30 then 6 else if q = 32 ∨ q = 33 then 8 else if q = 36 ∨ q = 37 then 7 else if 39 ≤ q ∧ q ≤ 43 then 130 else if q = 45 ∨ q = 46 then 420 else 1
def lawM (s : Nat) (S : St) (i : Nat) (L : (Nat → Int32) → Int32) : Prop := ∀ S' : St, (∀ q ∈ [36, 37, 39, 40, 41, 42, 43, 45, 46], ∀ j, wd q * s ≤ j → j < wd q * s + wd q → st_A S' (ky 0 q) j = st_A S (ky 0 q) j) → st_I S' (ky 0 18) = st_I S (ky 0 18) → ∃ f x, f_X6_tells S' (nI i) (if i = 6 then st_A S' (ky 0 49) 2 else 0) = some (L (st_A S' (ky 0 49)), up_I (up_A S' (ky 0 50) f) (ky 0 51) x)
def tM (s : Nat) (S : St) (T : TX) : Prop := tb T ∧ s < 2 ∧ st_I S (ky 0 18) = nI s ∧ (st_A S (ky 0 24) s = nI (tn T 0) ∧ st_A S (ky 0 25) s = nI (tn T 1) ∧ st_A S (ky 0 28) s = nI (tn T 2) ∧ st_A S (ky 0 31) s = nI (tn T 3) ∧ st_A S (ky 0 34) s = nI (tn T 4) ∧ st_A S (ky 0 35) s = nI (tn T 5)) ∧ (∀ d, d < tn T 1 → st_A S (ky 0 26) (12 * s + d) = nI (tf T 0 d) ∧ st_A S (ky 0 27) (12 * s + d) = nI (tf T 1 d)) ∧ (∀ a, a < tn T 2 → st_A S (ky 0 29) (6 * s + a) = nI (tf T 2 a) ∧ st_A S (ky 0 30) (6 * s + a) = nI (tf T 3 a)) ∧ (∀ m, m < tn T 3 → st_A S (ky 0 32) (8 * s + m) = nI (tf T 4 m) ∧ st_A S (ky 0 33) (8 * s + m) = nI (tf T 5 m)) ∧ (∀ a, a < tn T 2 → lawM s S a (tg T a)) ∧ lawM s S 6 (tg T 6) ∧ ∀ i, i < 7 → lawV (tg T i)
/-- the reference's court: rows at key a, minute at b, breakings at c and d -/
def cMp (p : Nat → Nat → Prop) (a b c d : Nat) (S : St) (T : TX) (X : CT) : Prop := cb T X ∧ st_I S (ky 0 b) = nI (cn X) ∧ (∀ t, t ≤ cn X → (∀ i, i < tn T 2 → st_A S (ky 0 a) (36 * t + i) = nI (cf X 0 t i) ∧ st_A S (ky 0 a) (36 * t + 6 + i) = nI (cf X 1 t i)) ∧ ∀ m, m < tn T 3 → st_A S (ky 0 a) (36 * t + 12 + m) = nI (cf X 2 t m) ∧ st_A S (ky 0 a) (36 * t + 20 + m) = (if cw X t m then 1 else 0) ∧ (p t m → st_A S (ky 0 a) (36 * t + 28 + m) = nI (cf X 3 t m))) ∧ ∀ m, m < tn T 3 → st_A S (ky 0 c) m = bkM (ck X m) ∧ (ck X m ≠ none → st_A S (ky 0 d) m = oI (cz X m))
abbrev cM (a b c d : Nat) (S : St) (T : TX) (X : CT) : Prop := cMp pAll a b c d S T X
/-! what is seen -/
def s_men (T : TX) (X : CT) (r t : Nat) : Nat := bs (tn T 2) (fun a => cf X 0 t a == r)
def s_brk (X : CT) (m t : Nat) : Bool := match ck X m with
  | none => false
  | some b => decide (b ≤ t)
def s_raw (X : CT) (m t : Nat) : Option Nat := if s_brk X m t then cz X m else if cf X 3 t m ≤ t then some (t - cf X 3 t m) else none
def s_msk (X : CT) (m t : Nat) : Option Nat → Option Nat
  | none => none
  | some v => if cw X t m || cw X v m then none else some v
def s_show (X : CT) (m t : Nat) : Option Nat := s_msk X m t (s_raw X m t)
def s_shm (T : TX) (X : CT) (m t : Nat) : Nat := match s_show X m t with
  | none => 0
  | some v => s_men T X (cf X 2 v m) v
def s_or (f : Nat → Nat) : Nat → Nat
  | 0 => 0
  | n + 1 => s_or f n ||| f n
theorem s_raw_le {T : TX} {X : CT} (h : cb T X) {m t v : Nat} (hm : m < tn T 3) (e : s_raw X m t = some v) : v ≤ t := by
  unfold s_raw at e
  split at e
  · rename_i hb
    unfold s_brk at hb
    cases hk : ck X m with
    | none => rw [hk] at hb; cases hb
    | some b =>
      rw [hk] at hb
      have h1 := of_decide_eq_true hb
      have h2 := (h.2.2 m hm b hk).2 v e
      omega
  · split at e
    · cases e
      omega
    · cases e
theorem s_show_le {T : TX} {X : CT} (h : cb T X) {m t v : Nat} (hm : m < tn T 3) (e : s_show X m t = some v) : v ≤ t := by
  unfold s_show at e
  cases hw : s_raw X m t with
  | none => rw [hw] at e; cases e
  | some w =>
    rw [hw] at e
    unfold s_msk at e
    dsimp only at e
    split at e
    · cases e
    · cases e
      exact s_raw_le h hm hw
theorem s_men_lt {T : TX} (h : tb T) (X : CT) (r t : Nat) : s_men T X r t < 64 := Nat.lt_of_lt_of_le (bs_lt _ _) (Nat.pow_le_pow_right (by decide) h.2.2.1)
theorem s_shm_lt {T : TX} (h : tb T) (X : CT) (m t : Nat) : s_shm T X m t < 64 := by
  unfold s_shm
  split
  · decide
  · exact s_men_lt h X _ _
theorem nI_oN (a b : Nat) : nI a ||| nI b = nI (a ||| b) := by
  apply Int32.toBitVec_inj.mp
  apply BitVec.eq_of_toNat_eq
  have e : ∀ n : Nat, (nI n).toBitVec.toNat = n % 2 ^ 32 := fun n => by
    show (BitVec.ofNat 32 n).toNat = _
    rw [BitVec.toNat_ofNat]
  rw [Int32.toBitVec_or, BitVec.toNat_or, e, e, e, Nat.or_mod_two_pow]
theorem s_or_lt {f : Nat → Nat} (h : ∀ i, f i < 64) : ∀ n, s_or f n < 64 := by
  intro n
  induction n with
  | zero => exact (by decide : 0 < 64)
  | succ n ih => exact Nat.or_lt_two_pow (n := 6) ih (h n)
