/-! HOW A TEXT GOES ON, token by token: what is told (0 none), the spot in it, the part of a law, whether a unit is wanted, whether a law's part is fresh, brackets, ifs, how many of each sort. -/
abbrev QS : Type := Nat × Nat × Nat × Bool × Bool × Nat × Nat × (Nat → Nat)
/-- what is due: 1 a name, 2 an int, 4 the end, 99 a law -/
def due (tel sp : Nat) : Nat := if tel = 20 then [1, 4].getD sp 4 else if tel = 21 then [1, 1, 4].getD sp 4 else if tel = 22 then [1, 2, 1, 4].getD sp 4 else if tel = 23 then [1, 99].getD sp 4 else if tel = 24 then [1, 1, 1, 4].getD sp 4 else if tel = 25 then [99].getD sp 4 else [2, 4].getD sp 4
def pEnd (q : QS) (k : Nat) : Option QS := match q with
  | (tel, sp, pt, _, _, br, ifs, cn) => if pt = 1 then (if k = 13 then some (tel, sp, 2, true, true, br, ifs, cn) else none) else if pt = 2 then (if k = 29 then some (tel, sp, 3, true, true, br, ifs, cn) else none) else if pt = 3 then (if k = 30 then some (tel, sp, 4, true, true, br, ifs, cn) else none) else (if k = 4 then some (0, sp, pt, true, true, br, ifs, cn) else none)
def uEnd (q : QS) (k : Nat) : Option QS := match q with
  | (tel, sp, pt, w, fr, br, ifs, cn) => if k = 8 ∨ k = 9 ∨ k = 10 ∨ k = 15 then some (tel, sp, pt, true, fr, br, ifs, cn) else if k = 7 then (if br = 0 then none else some (tel, sp, pt, w, fr, br - 1, ifs, cn)) else if br = 0 then pEnd q k else none
def uBeg (q : QS) (k : Nat) : Option QS := match q with
  | (tel, sp, pt, w, fr, br, ifs, cn) => if k = 28 ∧ pt = 4 ∧ fr = true then some (tel, sp, 1, true, true, br, ifs + 1, cn) else if k = 6 then some (tel, sp, pt, w, false, br + 1, ifs, cn) else if k = 2 ∨ 31 ≤ k then some (tel, sp, pt, false, false, br, ifs, cn) else none
def lawO (q : QS) (k : Nat) : Option QS := match q with
  | (tel, sp, pt, w, _, br, ifs, cn) => if pt = 0 then (if k = 5 then some (tel, sp, 4, true, true, br, ifs, cn) else none) else if w then uBeg q k else uEnd q k
def goQ (q : QS) (k : Nat) : Option QS := match q with
  | (tel, sp, pt, w, fr, br, ifs, cn) => if tel = 0 then (if 20 ≤ k ∧ k < 28 then some (k, 0, 0, true, true, 0, 0, fun i => if i = k - 20 then cn i + 1 else cn i) else none) else if due tel sp = 99 then lawO q k else if k = due tel sp then some (if due tel sp = 4 then 0 else tel, sp + 1, pt, w, fr, br, ifs, cn) else none
def mostN : List Nat := [8, 12, 6, 1000, 8, 1000, 1000, 1000]
def many (q : QS) : Bool := match q with
  | (tel, _, _, _, _, br, ifs, cn) => decide ((tel ≠ 0 ∧ mostN.getD (tel - 20) 0 < cn (tel - 20)) ∨ 4 < ifs ∨ 6 < br)
def kdL : List Nat := [1, 2, 3, 4, 5, 6, 7, 8, 9, 10, 13, 15, 20, 21, 22, 23, 24, 25, 26, 27, 28, 29, 30, 31, 32, 33, 34, 35, 36]
def okK (k : Nat) : Prop := k ∈ kdL
def b2 (b : Bool) : Int32 := if b then 1 else 0
theorem ckN_all : ∀ k ∈ kdL, ∀ j ∈ kdL, ckN k = ckN j → k = j := by decide +kernel
theorem ckN_lt : ∀ k ∈ kdL, k < 37 ∧ k ≠ 0 ∧ ckN k < 217 := by decide
theorem ckd_eq {k : Nat} (h : okK k) (j : Nat) (hj : j ∈ kdL) : (ckd k = nI (ckN j)) ↔ k = j := by
  unfold ckd
  have a := ckN_lt k h
  have b := ckN_lt j hj
  rw [nI_eq (by omega) (by omega)]
  exact ⟨ckN_all k h j hj, fun e => by rw [e]⟩
/-- the class's scanner stands so -/
def scC (S : St) (q : QS) : Prop := match q with
  | (tel, sp, pt, w, fr, br, ifs, cn) => (tel = 0 ∨ 20 ≤ tel ∧ tel < 28 ∧ sp ≤ 4 ∧ pt ≤ 4) ∧ st_I S (ky 1 8) = (if tel = 0 then -1 else nI (180 + tel)) ∧ (tel ≠ 0 → st_I S (ky 1 9) = nI sp ∧ st_I S (ky 1 10) = nI pt ∧ (pt ≠ 0 → st_I S (ky 1 11) = b2 w ∧ st_I S (ky 1 12) = b2 fr) ∧ st_I S (ky 1 13) = nI br ∧ st_I S (ky 1 14) = nI ifs) ∧ ∀ i, i < 8 → st_A S (ky 1 7) i = nI (cn i)
def scB (q : QS) : Prop := match q with
  | (_, _, _, _, _, br, ifs, cn) => br ≤ 6 ∧ ifs ≤ 4 ∧ ∀ i, i < 8 → cn i ≤ 1000
def scE (S : St) (q : QS) : Prop := match q with
  | (_, _, _, _, _, br, ifs, _) => st_I S (ky 1 13) = nI br ∧ st_I S (ky 1 14) = nI ifs
def kG : Nat → Prop := fun q => ∃ f, 7 ≤ f ∧ f ≤ 14 ∧ q = ky 1 f
theorem kG_ {f : Nat} (h : 7 ≤ f) (h' : f ≤ 14) : kG (ky 1 f) := ⟨f, h, h', rfl⟩
/-- what a step of the scanner answers -/
def gAns (S : St) (g : Option QS) (f : Option (Int32 × St)) : Prop := ∃ S', f = some (b2 g.isSome, S') ∧ on kG S S' ∧ ∀ q', g = some q' → scC S' q' ∧ scE S' q'
theorem gA_no {S S' : St} (o : on kG S S') : gAns S none (some ((0 : Int32), S')) := ⟨S', rfl, o, fun _ h => by cases h⟩
theorem gA_yes {S S' : St} {q' : QS} (o : on kG S S') (h : scC S' q') (h2 : scE S' q') : gAns S (some q') (some ((1 : Int32), S')) := ⟨S', rfl, o, fun _ e => by cases e; exact ⟨h, h2⟩⟩
