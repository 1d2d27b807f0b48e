/-! WORLDS BY KEYS: a world's cells are objects, int arrays, long arrays (and one array of references), each by a key; the field f of the object k has the key 100 * k + f; what they hold is one value of St. -/
abbrev St : Type := (Nat → Int32) × (Nat → Nat → Int32) × (Nat → Int64) × (Nat → Nat → Int64) × (Nat → Nat)
def st_I (S : St) (k : Nat) : Int32 := S.1 k
def st_A (S : St) (k : Nat) : Nat → Int32 := S.2.1 k
def st_J (S : St) (k : Nat) : Int64 := S.2.2.1 k
def st_L (S : St) (k : Nat) : Nat → Int64 := S.2.2.2.1 k
def st_P (S : St) (k : Nat) : Nat := S.2.2.2.2 k
def up_I (S : St) (k : Nat) (v : Int32) : St := (fun j => if j = k then v else S.1 j, S.2)
def up_A (S : St) (k : Nat) (v : Nat → Int32) : St := (S.1, fun j => if j = k then v else S.2.1 j, S.2.2)
def up_J (S : St) (k : Nat) (v : Int64) : St := (S.1, S.2.1, fun j => if j = k then v else S.2.2.1 j, S.2.2.2)
def up_L (S : St) (k : Nat) (v : Nat → Int64) : St := (S.1, S.2.1, S.2.2.1, fun j => if j = k then v else S.2.2.2.1 j, S.2.2.2.2)
def up_P (S : St) (k : Nat) (v : Nat) : St := (S.1, S.2.1, S.2.2.1, S.2.2.2.1, fun j => if j = k then v else S.2.2.2.2 j)
def ky (k f : Nat) : Nat := 100 * k + f
theorem ky_inj {k f k' f' : Nat} (h : f < 100) (h' : f' < 100) (e : ky k f = ky k' f') : k = k' ∧ f = f' := by unfold ky at e; omega
/-- addresses: the classes' numbers, objects, int arrays (address, class), long arrays (address, class), the array of references (address, class), and which keys are there -/
abbrev GG : Type := va_G × (Nat → Nat) × (Nat → Nat) × (Nat → ClassId) × (Nat → Nat) × (Nat → ClassId) × Nat × ClassId × List Nat × List Nat × List Nat × List Nat × Nat × (Nat → Nat) × (Nat → Nat)
def gg_D (g : GG) : va_G := g.1
def gg_o (g : GG) : Nat → Nat := g.2.1
def gg_a (g : GG) : Nat → Nat := g.2.2.1
def gg_c (g : GG) : Nat → ClassId := g.2.2.2.1
def gg_l (g : GG) : Nat → Nat := g.2.2.2.2.1
def gg_d (g : GG) : Nat → ClassId := g.2.2.2.2.2.1
def gg_q (g : GG) : Nat := g.2.2.2.2.2.2.1
def gg_e (g : GG) : ClassId := g.2.2.2.2.2.2.2.1
def gg_os (g : GG) : List Nat := g.2.2.2.2.2.2.2.2.1
def gg_as (g : GG) : List Nat := g.2.2.2.2.2.2.2.2.2.1
def gg_ls (g : GG) : List Nat := g.2.2.2.2.2.2.2.2.2.2.1
def gg_qs (g : GG) : List Nat := g.2.2.2.2.2.2.2.2.2.2.2.1
def gg_t (g : GG) : Nat := g.2.2.2.2.2.2.2.2.2.2.2.2.1
def gg_k (g : GG) : Nat → Nat := g.2.2.2.2.2.2.2.2.2.2.2.2.2.1
def gg_v (g : GG) : Nat → Nat := g.2.2.2.2.2.2.2.2.2.2.2.2.2.2
/-- what a field holds, by its kind -/
def kv (g : GG) (S : St) (k f : Nat) : Nat → Value
  | 0 => .int (st_I S (ky k f))
  | 1 => .long (st_J S (ky k f))
  | 2 => .ref (gg_a g (ky k f))
  | 3 => .ref (gg_l g (ky k f))
  | 4 => .ref (gg_q g)
  | 5 => .ref (gg_o g (st_P S (ky k f)))
  | n => if n < 200 then .ref (gg_o g (n - 100)) else .ref (gg_o g (k + (n - 200)))
/-- a sort of world: the class of an object, a class's kinds of fields, an array's length and type, a long array's length, which object the array of references holds, what is constant beside it -/
abbrev WD : Type := (Nat → Nat) × (Nat → List Nat) × (Nat → Nat) × (Nat → FieldType) × (Nat → Nat) × (Nat → Nat) × (GG → (Nat → Prop) → State → Prop)
def wk_c (w : WD) : Nat → Nat := w.1
def wk_k (w : WD) : Nat → List Nat := w.2.1
def wk_n (w : WD) : Nat → Nat := w.2.2.1
def wk_t (w : WD) : Nat → FieldType := w.2.2.2.1
def wk_m (w : WD) : Nat → Nat := w.2.2.2.2.1
def wk_q (w : WD) : Nat → Nat := w.2.2.2.2.2.1
def wk_s (w : WD) : GG → (Nat → Prop) → State → Prop := w.2.2.2.2.2.2
def fl (w : WD) (g : GG) (S : St) (k : Nat) : List Value := (List.range (wk_k w (wk_c w k)).length).map (fun f => kv g S k f ((wk_k w (wk_c w k)).getD f 0))
def e_o (w : WD) (g : GG) (S : St) (k : Nat) : Nat × va_E := (gg_o g k, .inr (wk_c w k, fl w g S k))
def e_a (w : WD) (g : GG) (S : St) (k : Nat) : Nat × va_E := (gg_a g k, .inl (gg_c g k, wk_n w k, .inl (st_A S k)))
def e_l (w : WD) (g : GG) (S : St) (k : Nat) : Nat × va_E := (gg_l g k, .inl (gg_d g k, wk_m w k, .inr (.inl (st_L S k))))
def e_q (w : WD) (g : GG) (_ : Nat) : Nat × va_E := (gg_q g, .inl (gg_e g, 3, .inr (.inr (.inr (.inr (fun j => some (gg_o g (wk_q w j))))))))
def wl (w : WD) (g : GG) (S : St) : va_W := (gg_os g).map (e_o w g S) ++ ((gg_as g).map (e_a w g S) ++ ((gg_ls g).map (e_l w g S) ++ (gg_qs g).map (e_q w g)))
def tl (w : WD) (g : GG) : List (ClassId × FieldType) := (gg_as g).map (fun k => (gg_c g k, wk_t w k)) ++ ((gg_ls g).map (fun k => (gg_d g k, FieldType.long)) ++ (gg_qs g).map (fun _ => (gg_e g, FieldType.object RX0)))
/-- the cells of the world -/
def aw (g : GG) (q : Nat) : Prop := (∃ k, k ∈ gg_os g ∧ q = gg_o g k) ∨ (∃ k, k ∈ gg_as g ∧ q = gg_a g k) ∨ (∃ k, k ∈ gg_ls g ∧ q = gg_l g k) ∨ ((∃ k, k ∈ gg_qs g) ∧ q = gg_q g)
/-- what holds of a sort of world, and of the addresses, for good -/
def gd (w : WD) (g : GG) : Prop := (∀ c, (wk_k w c).length < 100) ∧ ((gg_os g).Nodup ∧ (gg_as g).Nodup ∧ (gg_ls g).Nodup) ∧ (∀ S, va_D (aw g) (wl w g S)) ∧
  (∀ (A : Nat → Prop) (u U : State), u.WarmedH U.vm → (∀ a : Nat, a < u.heap.size → ¬ A a → U.heap[a]? = u.heap[a]?) → wk_s w g A u → wk_s w g A U) ∧ ∀ (A : Nat → Prop) (u U : State), u.vm = U.vm → u.heap = U.heap → wk_s w g A u → wk_s w g A U
def wI (w : WD) (g : GG) (S : St) (U : State) : Prop := va_P (gg_D g) vwCl (wl w g S) U.heap ∧ va_K (gg_D g) vwCl (tl w g) U ∧ wk_s w g (aw g) U
theorem st_nd : ∀ (l : List Nat), l.Nodup → ∀ (i j a : Nat), l[i]? = some a → l[j]? = some a → i = j := by
  intro l
  induction l with
  | nil => intro _ i j a h; simp at h
  | cons x l ih =>
    intro hn i j a h1 h2
    rw [List.nodup_cons] at hn
    cases i with
    | zero =>
      cases j with
      | zero => rfl
      | succ j =>
        simp only [List.getElem?_cons_zero, Option.some.injEq, List.getElem?_cons_succ] at h1 h2
        subst h1
        exact absurd (List.mem_of_getElem? h2) hn.1
    | succ i =>
      cases j with
      | zero =>
        simp only [List.getElem?_cons_zero, Option.some.injEq, List.getElem?_cons_succ] at h1 h2
        subst h2
        exact absurd (List.mem_of_getElem? h1) hn.1
      | succ j =>
        simp only [List.getElem?_cons_succ] at h1 h2
        rw [ih hn.2 i j a h1 h2]
theorem st_map_set {β : Type} (l : List Nat) (hn : l.Nodup) (F F' : Nat → β) (i k : Nat) (x : β) (hi : l[i]? = some k) (h : ∀ k', F' k' = if k' = k then x else F k') : (l.map F).set i x = l.map F' := by
  apply List.ext_getElem?
  intro n
  rw [List.getElem?_set, List.getElem?_map, List.getElem?_map, List.length_map]
  have hil : i < l.length := (List.getElem?_eq_some_iff.mp hi).1
  by_cases hin : i = n
  · subst hin
    rw [if_pos rfl, if_pos hil, hi, Option.map_some, h k, if_pos rfl]
  · rw [if_neg hin]
    cases hl : l[n]? with
    | none => rfl
    | some k' =>
      have hne : k' ≠ k := fun e => hin (st_nd l hn i n k hi (by rw [hl, e]))
      rw [Option.map_some, Option.map_some, h k', if_neg hne]
theorem fl_get {w : WD} {g : GG} {S : St} {k f d : Nat} (h : (wk_k w (wk_c w k))[f]? = some d) : (fl w g S k)[f]? = some (kv g S k f d) := by
  have hf := (List.getElem?_eq_some_iff.mp h).1
  have h2 : (wk_k w (wk_c w k)).getD f 0 = d := by rw [List.getD_eq_getElem?_getD, h]; rfl
  unfold fl
  rw [List.getElem?_map, List.getElem?_range hf, Option.map_some, h2]
theorem wl_o {w : WD} {g : GG} (S : St) {k : Nat} (hk : k ∈ gg_os g) : ∃ i : Nat, (gg_os g)[i]? = some k ∧ (wl w g S)[i]? = some (gg_o g k, Sum.inr (wk_c w k, fl w g S k)) := by
  obtain ⟨i, hi⟩ := List.mem_iff_getElem?.mp hk
  have hl := (List.getElem?_eq_some_iff.mp hi).1
  refine ⟨i, hi, ?_⟩
  unfold wl
  rw [List.getElem?_append_left (by simpa using hl), List.getElem?_map, hi]
  rfl
theorem wl_a {w : WD} {g : GG} (S : St) {k : Nat} (hk : k ∈ gg_as g) : ∃ i : Nat, (gg_as g)[i]? = some k ∧ (wl w g S)[(gg_os g).length + i]? = some (gg_a g k, .inl (gg_c g k, wk_n w k, .inl (st_A S k))) ∧ (tl w g)[i]? = some (gg_c g k, wk_t w k) := by
  obtain ⟨i, hi⟩ := List.mem_iff_getElem?.mp hk
  have hl := (List.getElem?_eq_some_iff.mp hi).1
  refine ⟨i, hi, ?_, ?_⟩
  · unfold wl
    rw [List.getElem?_append_right (by simp), List.length_map, Nat.add_sub_cancel_left, List.getElem?_append_left (by simpa using hl), List.getElem?_map, hi]
    rfl
  · unfold tl
    rw [List.getElem?_append_left (by simpa using hl), List.getElem?_map, hi]
    rfl
theorem wl_l {w : WD} {g : GG} (S : St) {k : Nat} (hk : k ∈ gg_ls g) : ∃ i : Nat, (gg_ls g)[i]? = some k ∧ (wl w g S)[(gg_os g).length + ((gg_as g).length + i)]? = some (gg_l g k, .inl (gg_d g k, wk_m w k, .inr (.inl (st_L S k)))) ∧ (tl w g)[(gg_as g).length + i]? = some (gg_d g k, FieldType.long) := by
  obtain ⟨i, hi⟩ := List.mem_iff_getElem?.mp hk
  have hl := (List.getElem?_eq_some_iff.mp hi).1
  refine ⟨i, hi, ?_, ?_⟩
  · unfold wl
    rw [List.getElem?_append_right (by simp), List.length_map, Nat.add_sub_cancel_left, List.getElem?_append_right (by simp), List.length_map, Nat.add_sub_cancel_left, List.getElem?_append_left (by simpa using hl), List.getElem?_map, hi]
    rfl
  · unfold tl
    rw [List.getElem?_append_right (by simp), List.length_map, Nat.add_sub_cancel_left, List.getElem?_append_left (by simpa using hl), List.getElem?_map, hi]
    rfl
theorem wl_q {w : WD} {g : GG} (S : St) {k : Nat} (hk : k ∈ gg_qs g) : ∃ i j : Nat, (wl w g S)[i]? = some (gg_q g, .inl (gg_e g, 3, .inr (.inr (.inr (.inr (fun j => some (gg_o g (wk_q w j)))))))) ∧ (tl w g)[j]? = some (gg_e g, FieldType.object RX0) := by
  obtain ⟨i, hi⟩ := List.mem_iff_getElem?.mp hk
  refine ⟨(gg_os g).length + ((gg_as g).length + ((gg_ls g).length + i)), (gg_as g).length + ((gg_ls g).length + i), ?_, ?_⟩
  · unfold wl
    rw [List.getElem?_append_right (by simp), List.length_map, Nat.add_sub_cancel_left, List.getElem?_append_right (by simp), List.length_map, Nat.add_sub_cancel_left, List.getElem?_append_right (by simp), List.length_map, Nat.add_sub_cancel_left, List.getElem?_map, hi]
    rfl
  · unfold tl
    rw [List.getElem?_append_right (by simp), List.length_map, Nat.add_sub_cancel_left, List.getElem?_append_right (by simp), List.length_map, Nat.add_sub_cancel_left, List.getElem?_map, hi]
    rfl
/-! what a store makes of the list -/
theorem fl_upA {w : WD} {g : GG} {S : St} {k : Nat} {v : Nat → Int32} : fl w g (up_A S k v) = fl w g S := by
  funext k'
  unfold fl
  congr 1
theorem fl_upL {w : WD} {g : GG} {S : St} {k : Nat} {v : Nat → Int64} : fl w g (up_L S k v) = fl w g S := by
  funext k'
  unfold fl
  congr 1
theorem set_a {w : WD} {g : GG} {S : St} {k i : Nat} {v : Nat → Int32} (hn : (gg_as g).Nodup) (hi : (gg_as g)[i]? = some k) : (wl w g S).set ((gg_os g).length + i) (gg_a g k, .inl (gg_c g k, wk_n w k, .inl v)) = wl w g (up_A S k v) := by
  have hl := (List.getElem?_eq_some_iff.mp hi).1
  unfold wl
  rw [List.set_append_right _ _ (by simp), List.length_map, Nat.add_sub_cancel_left, List.set_append_left _ _ (by simpa using hl)]
  rw [st_map_set (gg_as g) hn (e_a w g S) (e_a w g (up_A S k v)) i k _ hi ?_]
  · rfl
  · intro k'
    by_cases h : k' = k
    · subst h
      simp [e_a, st_A, up_A]
    · simp [e_a, st_A, up_A, h]
theorem set_l {w : WD} {g : GG} {S : St} {k i : Nat} {v : Nat → Int64} (hn : (gg_ls g).Nodup) (hi : (gg_ls g)[i]? = some k) : (wl w g S).set ((gg_os g).length + ((gg_as g).length + i)) (gg_l g k, .inl (gg_d g k, wk_m w k, .inr (.inl v))) = wl w g (up_L S k v) := by
  have hl := (List.getElem?_eq_some_iff.mp hi).1
  unfold wl
  rw [List.set_append_right _ _ (by simp), List.length_map, Nat.add_sub_cancel_left, List.set_append_right _ _ (by simp), List.length_map, Nat.add_sub_cancel_left, List.set_append_left _ _ (by simpa using hl)]
  rw [st_map_set (gg_ls g) hn (e_l w g S) (e_l w g (up_L S k v)) i k _ hi ?_]
  · rfl
  · intro k'
    by_cases h : k' = k
    · subst h
      simp [e_l, st_L, up_L]
    · simp [e_l, st_L, up_L, h]
theorem set_o {w : WD} {g : GG} {S S' : St} {k i f : Nat} {v : Value} (hn : (gg_os g).Nodup) (hi : (gg_os g)[i]? = some k) (hA : st_A S' = st_A S) (hL : st_L S' = st_L S) (hf : f < (wk_k w (wk_c w k)).length)
    (h : ∀ k' f', f' < (wk_k w (wk_c w k')).length → kv g S' k' f' ((wk_k w (wk_c w k')).getD f' 0) = if k' = k ∧ f' = f then v else kv g S k' f' ((wk_k w (wk_c w k')).getD f' 0)) : (wl w g S).set i (gg_o g k, .inr (wk_c w k, (fl w g S k).set f v)) = wl w g S' := by
  have hl := (List.getElem?_eq_some_iff.mp hi).1
  unfold wl
  rw [List.set_append_left _ _ (by simpa using hl)]
  rw [st_map_set (gg_os g) hn (e_o w g S) (e_o w g S') i k _ hi ?_]
  · have e1 : e_a w g S' = e_a w g S := by funext k'; simp [e_a, hA]
    have e2 : e_l w g S' = e_l w g S := by funext k'; simp [e_l, hL]
    rw [e1, e2]
  · intro k'
    by_cases hk : k' = k
    · subst hk
      rw [if_pos rfl]
      unfold e_o
      congr 3
      apply List.ext_getElem?
      intro n
      rw [List.getElem?_set]
      simp only [fl, List.getElem?_map, List.length_map, List.length_range]
      by_cases hlt : n < (wk_k w (wk_c w k')).length
      · simp only [List.getElem?_range hlt, Option.map_some]
        rw [h k' n hlt]
        by_cases hfn : f = n
        · subst hfn
          simp [hlt]
        · simp [hfn, Ne.symm hfn]
      · have e0 : (List.range (wk_k w (wk_c w k')).length)[n]? = none := by simp; omega
        simp only [e0, Option.map_none]
        by_cases hfn : f = n
        · omega
        · simp [hfn]
    · rw [if_neg hk]
      unfold e_o
      congr 3
      apply List.map_congr_left
      intro f' hf'
      rw [h k' f' (List.mem_range.mp hf'), if_neg (fun q => hk q.1)]
theorem kv_I {w : WD} {g : GG} {S : St} {k f : Nat} {v : Int32} (hw : ∀ c, (wk_k w c).length < 100) (hd : (wk_k w (wk_c w k))[f]? = some 0) : ∀ k' f', f' < (wk_k w (wk_c w k')).length → kv g (up_I S (ky k f) v) k' f' ((wk_k w (wk_c w k')).getD f' 0) = if k' = k ∧ f' = f then .int v else kv g S k' f' ((wk_k w (wk_c w k')).getD f' 0) := by
  intro k' f' hf'
  have hf := (List.getElem?_eq_some_iff.mp hd).1
  by_cases h : k' = k ∧ f' = f
  · obtain ⟨rfl, rfl⟩ := h
    rw [if_pos ⟨rfl, rfl⟩]
    simp [List.getD_eq_getElem?_getD, hd, kv, up_I, st_I]
  · rw [if_neg h]
    have hne : ky k' f' ≠ ky k f := fun e => h (ky_inj (Nat.lt_trans hf' (hw _)) (Nat.lt_trans hf (hw _)) e)
    unfold kv
    split <;> first | rfl | simp [up_I, st_I, hne]
theorem kv_J {w : WD} {g : GG} {S : St} {k f : Nat} {v : Int64} (hw : ∀ c, (wk_k w c).length < 100) (hd : (wk_k w (wk_c w k))[f]? = some 1) : ∀ k' f', f' < (wk_k w (wk_c w k')).length → kv g (up_J S (ky k f) v) k' f' ((wk_k w (wk_c w k')).getD f' 0) = if k' = k ∧ f' = f then .long v else kv g S k' f' ((wk_k w (wk_c w k')).getD f' 0) := by
  intro k' f' hf'
  have hf := (List.getElem?_eq_some_iff.mp hd).1
  by_cases h : k' = k ∧ f' = f
  · obtain ⟨rfl, rfl⟩ := h
    rw [if_pos ⟨rfl, rfl⟩]
    simp [List.getD_eq_getElem?_getD, hd, kv, up_J, st_J]
  · rw [if_neg h]
    have hne : ky k' f' ≠ ky k f := fun e => h (ky_inj (Nat.lt_trans hf' (hw _)) (Nat.lt_trans hf (hw _)) e)
    unfold kv
    split <;> first | rfl | simp [up_J, st_J, hne]
theorem kv_P {w : WD} {g : GG} {S : St} {k f v : Nat} (hw : ∀ c, (wk_k w c).length < 100) (hd : (wk_k w (wk_c w k))[f]? = some 5) : ∀ k' f', f' < (wk_k w (wk_c w k')).length → kv g (up_P S (ky k f) v) k' f' ((wk_k w (wk_c w k')).getD f' 0) = if k' = k ∧ f' = f then .ref (gg_o g v) else kv g S k' f' ((wk_k w (wk_c w k')).getD f' 0) := by
  intro k' f' hf'
  have hf := (List.getElem?_eq_some_iff.mp hd).1
  by_cases h : k' = k ∧ f' = f
  · obtain ⟨rfl, rfl⟩ := h
    rw [if_pos ⟨rfl, rfl⟩]
    simp [List.getD_eq_getElem?_getD, hd, kv, up_P, st_P]
  · rw [if_neg h]
    have hne : ky k' f' ≠ ky k f := fun e => h (ky_inj (Nat.lt_trans hf' (hw _)) (Nat.lt_trans hf (hw _)) e)
    unfold kv
    split <;> first | rfl | simp [up_P, st_P, hne]
/-- an object that is there, with its arrays -/
def hs (w : WD) (g : GG) (k ci : Nat) : Prop := wk_c w k = ci ∧ k ∈ gg_os g ∧ (∀ f : Nat, (wk_k w ci)[f]? = some 2 → ky k f ∈ gg_as g) ∧ (∀ f : Nat, (wk_k w ci)[f]? = some 3 → ky k f ∈ gg_ls g) ∧ ∀ f : Nat, (wk_k w ci)[f]? = some 4 → 0 ∈ gg_qs g
