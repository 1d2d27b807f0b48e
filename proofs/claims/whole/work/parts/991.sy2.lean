/-! POSTFIX: what waits is short, what is emitted can be reckoned. -/
def hd6 (wt : List Nat) : Prop := match wt with
  | [] => True
  | w :: _ => w = 6
def hd8 (wt : List Nat) : Prop := match wt with
  | [] => True
  | w :: _ => w = 6 ∨ w = 8 ∨ w = 9
def okW : List Nat → Prop
  | [] => True
  | w :: r => okW r ∧ (w = 6 ∨ (w = 8 ∨ w = 9) ∧ hd6 r ∨ (w = 10 ∨ w = 15) ∧ hd8 r)
def cn6 : List Nat → Nat
  | [] => 0
  | w :: r => (if w = 6 then 1 else 0) + cn6 r
def nOp : List Nat → Nat
  | [] => 0
  | w :: r => (if w = 6 then 0 else 1) + nOp r
theorem okW_len : ∀ {wt : List Nat}, okW wt → wt.length ≤ 3 * cn6 wt + 2 ∧ (hd6 wt → wt.length ≤ 3 * cn6 wt) ∧ (hd8 wt → wt.length ≤ 3 * cn6 wt + 1)
  | [], _ => ⟨by decide, fun _ => by decide, fun _ => by decide⟩
  | w :: r, h => by
    obtain ⟨a, b, c⟩ := okW_len h.1
    have e : (w :: r).length = r.length + 1 := rfl
    have e6 : cn6 (w :: r) = (if w = 6 then 1 else 0) + cn6 r := rfl
    rw [e, e6]
    rcases h.2 with q | ⟨q, h6⟩ | ⟨q, h8⟩
    · rw [if_pos q]
      exact ⟨by omega, fun _ => by omega, fun _ => by omega⟩
    · have := b h6
      rw [if_neg (by omega)]
      exact ⟨by omega, fun z => by have z2 : w = 6 := z; omega, fun _ => by omega⟩
    · have := c h8
      rw [if_neg (by omega)]
      exact ⟨by omega, fun z => by have z2 : w = 6 := z; omega, fun z => by have z2 : w = 6 ∨ w = 8 ∨ w = 9 := z; omega⟩
theorem okW_mem : ∀ {wt : List Nat}, okW wt → ∀ w ∈ wt, w = 6 ∨ w = 8 ∨ w = 9 ∨ w = 10 ∨ w = 15
  | [], _, w, hw => by cases hw
  | x :: r, h, w, hw => by
    rcases List.mem_cons.mp hw with q | q
    · subst q
      rcases h.2 with e | ⟨e, _⟩ | ⟨e, _⟩ <;> omega
    · exact okW_mem h.1 w q
theorem len_split : ∀ wt : List Nat, wt.length = cn6 wt + nOp wt
  | [] => rfl
  | w :: r => by
    have := len_split r
    have e : (w :: r).length = r.length + 1 := rfl
    have e6 : cn6 (w :: r) = (if w = 6 then 1 else 0) + cn6 r := rfl
    have e7 : nOp (w :: r) = (if w = 6 then 0 else 1) + nOp r := rfl
    rw [e, e6, e7]
    split <;> omega
/-- how many numbers stand on the pile; none: never -/
def dpS (s : Option Nat) (x : Nat × Nat) : Option Nat := s.bind (fun d => if x.1 < 2 then (if d < 30 then some (d + 1) else none) else if 2 ≤ d then some (d - 1) else none)
def dpF (o : List (Nat × Nat)) : Option Nat := o.foldl dpS (some 0)
theorem dpF_a (o : List (Nat × Nat)) (x : Nat × Nat) : dpF (o ++ [x]) = dpS (dpF o) x := by
  unfold dpF
  rw [List.foldl_append]
  rfl
theorem opC_r (w : Nat) : 2 ≤ opC w ∧ opC w < 6 := by
  unfold opC
  repeat' split
  all_goals omega
def cdR (x : Nat × Nat) : Prop := x.1 < 6 ∧ (x.1 = 0 → x.2 < 10000) ∧ (x.1 = 1 → x.2 < 6)
/-- what popping does -/
theorem syPop_all (st : Bool) : ∀ (wt : List Nat) (o : List (Nat × Nat)), okW wt → dpF o = some (nOp wt + 1) → (∀ x ∈ o, cdR x) → okW (syPop st o wt).2 ∧ cn6 (syPop st o wt).2 = cn6 wt ∧ dpF (syPop st o wt).1 = some (nOp (syPop st o wt).2 + 1) ∧ (∀ x ∈ (syPop st o wt).1, cdR x) ∧ (syPop st o wt).1.length + (syPop st o wt).2.length = o.length + wt.length ∧ (if st then hd8 (syPop st o wt).2 else hd6 (syPop st o wt).2)
  | [], o, h, hd, hr => ⟨h, rfl, hd, hr, rfl, by cases st <;> trivial⟩
  | w :: r, o, h, hd, hr => by
    rw [syPop]
    by_cases c : w = 6 ∨ st = true ∧ (w = 8 ∨ w = 9)
    · rw [if_pos c]
      refine ⟨h, rfl, hd, hr, rfl, ?_⟩
      cases st with
      | false =>
        have c2 : w = 6 := c.elim id (fun z => absurd z.1 (by decide))
        exact c2
      | true =>
        have c2 : w = 6 ∨ w = 8 ∨ w = 9 := c.elim Or.inl (fun z => Or.inr z.2)
        exact c2
    · rw [if_neg c]
      have n6 : ¬ w = 6 := fun z => c (Or.inl z)
      have e6 : cn6 (w :: r) = (if w = 6 then 1 else 0) + cn6 r := rfl
      have e7 : nOp (w :: r) = (if w = 6 then 0 else 1) + nOp r := rfl
      rw [if_neg n6] at e6 e7
      have ho := opC_r w
      have hd2 : dpF (o ++ [(opC w, 0)]) = some (nOp r + 1) := by
        rw [dpF_a, hd, e7]
        show (if opC w < 2 then _ else if 2 ≤ 1 + nOp r + 1 then some (1 + nOp r + 1 - 1) else none) = _
        rw [if_neg (by omega), if_pos (by omega)]
        congr 1
        omega
      obtain ⟨a, b, d, e, f, g⟩ := syPop_all st r (o ++ [(opC w, 0)]) h.1 hd2 (fun x hx => by
        rcases List.mem_append.mp hx with q | q
        · exact hr x q
        · have : x = (opC w, 0) := List.mem_singleton.mp q
          subst this
          exact ⟨ho.2, fun z => by have z2 : opC w = 0 := z; omega, fun z => by have z2 : opC w = 1 := z; omega⟩)
      refine ⟨a, by rw [b, e6]; omega, d, e, ?_, g⟩
      rw [f, List.length_append]
      show o.length + 1 + r.length = o.length + (r.length + 1)
      omega
/-- all is sound: 'e': a unit has ended -/
def syOK (e : Bool) (br : Nat) (d : Nat) (s : List (Nat × Nat) × List Nat) : Prop := okW s.2 ∧ cn6 s.2 = br ∧ dpF s.1 = some (nOp s.2 + (if e then 1 else 0)) ∧ (∀ x ∈ s.1, cdR x) ∧ s.1.length + s.2.length ≤ d
theorem syOK_0 : syOK false 0 0 ([], []) := ⟨trivial, rfl, rfl, (fun x hx => absurd hx (List.not_mem_nil)), Nat.le_refl _⟩
theorem nOp_le {br d : Nat} {e : Bool} {s : List (Nat × Nat) × List Nat} (h : syOK e br d s) (hb : br ≤ 7) : nOp s.2 ≤ 16 ∧ s.2.length ≤ 23 := by
  have h1 := (okW_len h.1).1
  have h2 := len_split s.2
  rw [h.2.1] at h1 h2
  omega
theorem syOK_open {br d : Nat} {s : List (Nat × Nat) × List Nat} (h : syOK false br d s) (v : Nat) : syOK false (br + 1) (d + 1) (syStep s 6 v) := by
  have e : syStep s 6 v = (s.1, 6 :: s.2) := rfl
  rw [e]
  refine ⟨⟨h.1, Or.inl rfl⟩, ?_, ?_, h.2.2.2.1, ?_⟩
  · show 1 + cn6 s.2 = br + 1
    rw [h.2.1]; omega
  · show dpF s.1 = some (0 + nOp s.2 + 0)
    rw [h.2.2.1, Nat.zero_add]
    rfl
  · show s.1.length + (s.2.length + 1) ≤ d + 1
    have := h.2.2.2.2
    omega
theorem syOK_unit {br d k v : Nat} {s : List (Nat × Nat) × List Nat} (h : syOK false br d s) (hb : br ≤ 6) (hk : k = 2 ∧ v < 10000 ∨ 31 ≤ k ∧ k < 37) : syOK true br (d + 1) (syStep s k v) := by
  have hn := (nOp_le h (by omega)).1
  have add : ∀ x : Nat × Nat, x.1 < 2 → cdR x → syOK true br (d + 1) (s.1 ++ [x], s.2) := fun x hx hr => by
    refine ⟨h.1, h.2.1, ?_, ?_, ?_⟩
    · show dpF (s.1 ++ [x]) = some (nOp s.2 + 1)
      rw [dpF_a, h.2.2.1]
      show (if x.1 < 2 then (if nOp s.2 + 0 < 30 then some (nOp s.2 + 0 + 1) else none) else _) = _
      rw [if_pos hx, if_pos (by omega)]
    · intro y hy
      rcases List.mem_append.mp hy with q | q
      · exact h.2.2.2.1 y q
      · rw [List.mem_singleton.mp q]; exact hr
    · show (s.1 ++ [x]).length + s.2.length ≤ d + 1
      have := h.2.2.2.2
      rw [List.length_append]
      show s.1.length + 1 + s.2.length ≤ d + 1
      omega
  unfold syStep
  by_cases c : k = 2
  · rw [if_pos c]
    exact add (0, v) (show 0 < 2 by decide) ⟨show 0 < 6 by decide, fun _ => (by show v < 10000; omega), fun z => absurd (show (0 : Nat) = 1 from z) (by decide)⟩
  · have hk2 : 31 ≤ k ∧ k < 37 := hk.resolve_left (fun z => c z.1)
    rw [if_neg c, if_pos hk2.1]
    exact add (1, k - 31) (show 1 < 2 by decide) ⟨show 1 < 6 by decide, fun z => absurd (show (1 : Nat) = 0 from z) (by decide), fun _ => by show k - 31 < 6; omega⟩
theorem syOK_close {br d v : Nat} {s : List (Nat × Nat) × List Nat} (h : syOK true (br + 1) d s) : syOK true br (d + 1) (syStep s 7 v) := by
  obtain ⟨a, b, c, e, f, g⟩ := syPop_all false s.2 s.1 h.1 h.2.2.1 h.2.2.2.1
  have e0 : syStep s 7 v = ((syPop false s.1 s.2).1, (syPop false s.1 s.2).2.tail) := rfl
  have g' : hd6 (syPop false s.1 s.2).2 := g
  have hl := h.2.2.2.2
  rw [e0]
  generalize syPop false s.1 s.2 = p at a b c e f g' ⊢
  rw [h.2.1] at b
  obtain ⟨p1, p2⟩ := p
  cases p2 with
  | nil => exact absurd b (by show ¬ 0 = br + 1; omega)
  | cons w r =>
    have g2 : w = 6 := g'
    subst g2
    have b2 : 1 + cn6 r = br + 1 := b
    have c2 : dpF p1 = some (0 + nOp r + 1) := c
    have f2 : p1.length + (r.length + 1) = s.1.length + s.2.length := f
    exact ⟨a.1, (by show cn6 r = br; omega), by show dpF p1 = some (nOp r + 1); rw [c2, Nat.zero_add], e, by show p1.length + r.length ≤ d + 1; omega⟩
theorem syOK_op {br d k v : Nat} {s : List (Nat × Nat) × List Nat} (h : syOK true br d s) (hk : k = 8 ∨ k = 9 ∨ k = 10 ∨ k = 15) : syOK false br (d + 1) (syStep s k v) := by
  obtain ⟨a, b, c, e, f, g⟩ := syPop_all (decide (k = 10 ∨ k = 15)) s.2 s.1 h.1 h.2.2.1 h.2.2.2.1
  have e0 : syStep s k v = ((syPop (decide (k = 10 ∨ k = 15)) s.1 s.2).1, k :: (syPop (decide (k = 10 ∨ k = 15)) s.1 s.2).2) := by
    unfold syStep
    rw [if_neg (by omega), if_neg (by omega), if_neg (by omega), if_neg (by omega)]
  have hl := h.2.2.2.2
  rw [e0]
  have g2 : (k = 8 ∨ k = 9) ∧ hd6 (syPop (decide (k = 10 ∨ k = 15)) s.1 s.2).2 ∨ (k = 10 ∨ k = 15) ∧ hd8 (syPop (decide (k = 10 ∨ k = 15)) s.1 s.2).2 := by
    by_cases q : k = 10 ∨ k = 15
    · rw [decide_eq_true q] at g ⊢
      exact Or.inr ⟨q, g⟩
    · rw [decide_eq_false q] at g ⊢
      exact Or.inl ⟨by omega, g⟩
  generalize syPop (decide (k = 10 ∨ k = 15)) s.1 s.2 = p at a b c e f g2 ⊢
  refine ⟨⟨a, Or.inr g2⟩, ?_, ?_, e, ?_⟩
  · show (if k = 6 then 1 else 0) + cn6 p.2 = br
    rw [if_neg (by omega), b, h.2.1]
    omega
  · show dpF p.1 = some ((if k = 6 then 0 else 1) + nOp p.2 + 0)
    rw [if_neg (by omega), c]
    congr 1
    omega
  · show p.1.length + (p.2.length + 1) ≤ d + 1
    omega
