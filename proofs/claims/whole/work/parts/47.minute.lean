/-! A MINUTE LATER, with its row of lateness. -/
theorem s_men_row (T : TX) (X : CT) (nx v v' : Nat → Nat) (r : Nat) : s_men T (x_row X nx v) r (cn X + 1) = s_men T (x_row X nx v') r (cn X + 1) := by
  have e : (fun a => cf (x_row X nx v) 0 (cn X + 1) a == r) = fun a => cf (x_row X nx v') 0 (cn X + 1) a == r := by
    funext a
    rw [x_row_0, x_row_0]
  unfold s_men
  rw [e]
theorem s_late_row (T : TX) (X : CT) (nx v v' : Nat → Nat) (m rk : Nat) : s_late T (x_row X nx v) m rk = s_late T (x_row X nx v') m rk := by
  unfold s_late
  rw [x_row_n, x_row_n, x_row_2, x_row_2, s_men_row T X nx v v']
def x_min (T : TX) (X : CT) (nx : Nat → Nat) : CT := x_row X nx (fun m => s_late T (x_row X nx (fun _ => 0)) m (cf X 1 (cn X) (tf T 5 m)))
theorem x_min_ok (T : TX) (X : CT) (nx : Nat → Nat) : okL T (x_min T X nx) := by
  intro m hm
  show cf (x_row X nx _) 3 (cn X + 1) m = s_late T (x_row X nx _) m (cf (x_row X nx _) 1 (cn X + 1) (tf T 5 m))
  rw [x_row_3, x_row_1]
  exact s_late_row ..
theorem s_late_le (T : TX) (X : CT) (m rk : Nat) : s_late T X m rk ≤ 240 := clN_le _
theorem cb_min {T : TX} {X : CT} (h : cb T X) (hn : cn X < 299) {nx : Nat → Nat} (hx : ∀ a, a < tn T 2 → nx a < tn T 0) : cb T (x_min T X nx) := cb_row h hn hx (fun _ _ => s_late_le ..)
/-- the lots of mirrors below i, drawn in the minute that is now -/
def x_lots (T : TX) (sd : Int32) (X : CT) : Nat → CT
  | 0 => X
  | i + 1 => if s_brk (x_lots T sd X i) i (cn (x_lots T sd X i)) then x_lots T sd X i else if s_bad T sd (cn (x_lots T sd X i)) i then x_break (x_lots T sd X i) i else x_lots T sd X i
theorem x_lots_n (T : TX) (sd : Int32) (X : CT) : ∀ i, cn (x_lots T sd X i) = cn X := by
  intro i
  induction i with
  | zero => rfl
  | succ i ih =>
    rw [x_lots]
    split
    · exact ih
    · split
      · exact ih
      · exact ih
/-- one minute -/
def x_go (T : TX) (sd : Int32) (X : CT) : CT := x_lots T sd (x_min T X (s_next T X)) (tn T 3)
