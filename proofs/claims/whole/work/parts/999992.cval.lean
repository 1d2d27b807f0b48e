/-! WHAT A LAW SAYS; the class's machine. -/
def opV (c : Nat) (a b : Int32) : Int32 := if c = 2 then a + b else if c = 3 then a - b else if c = 4 then a * b else a / b
def evO (v : Nat → Int32) (x : Nat × Nat) (s : List Int32) : Option (List Int32) := if x.1 = 0 then some (nI x.2 :: s) else if x.1 = 1 then some (v x.2 :: s) else match s with
  | b :: a :: r => if x.1 = 5 ∧ b = 0 then none else some (opV x.1 a b :: r)
  | _ => none
def evL (v : Nat → Int32) : CL → List Int32 → Option (List Int32)
  | [], s => some s
  | x :: l, s => (evO v x s).bind (evL v l)
def vl (v : Nat → Int32) (l : CL) : Option Int32 := (evL v l []).map (fun s => s.headD 0)
def brV (v : Nat → Int32) : List BR → Option Int32
  | [] => none
  | (none, l3) :: _ => vl v l3
  | (some (l1, l2), l3) :: r => (vl v l1).bind (fun a => (vl v l2).bind (fun b => if a < b then vl v l3 else brV v r))
def stkV (A : Nat → Int32) : List Int32 → Prop
  | [] => True
  | x :: r => A r.length = x ∧ stkV A r
theorem stkV_upd {A : Nat → Int32} {i : Nat} {x : Int32} : ∀ {s : List Int32}, s.length ≤ i → stkV A s → stkV (upd A i x) s
  | [], _, _ => trivial
  | w :: r, h, hs => by
    have h2 : r.length + 1 ≤ i := h
    exact ⟨by rw [upd_n (by omega)]; exact hs.1, stkV_upd (by omega) hs.2⟩
theorem stkV_push {A : Nat → Int32} {s : List Int32} (x : Int32) (h : stkV A s) : stkV (upd A s.length x) (x :: s) := ⟨upd_s, stkV_upd (Nat.le_refl _) h⟩
theorem dpS_none : ∀ l : CL, l.foldl dpS none = none
  | [] => rfl
  | x :: l => dpS_none l
theorem evO_app (v : Nat → Int32) (x : Nat × Nat) {s : List Int32} {e : Nat} (h : dpS (some s.length) x = some e) (r : List Int32) : evO v x (s ++ r) = (evO v x s).map (· ++ r) ∧ ∀ s', evO v x s = some s' → s'.length = e := by
  unfold evO
  have h' : (if x.1 < 2 then (if s.length < 30 then some (s.length + 1) else none) else if 2 ≤ s.length then some (s.length - 1) else none) = some e := h
  by_cases c0 : x.1 = 0
  · rw [if_pos c0, if_pos c0]
    refine ⟨rfl, fun s' hs => ?_⟩
    rw [if_pos (by omega)] at h'
    cases hs
    split at h'
    · exact Option.some.inj h'
    · cases h'
  rw [if_neg c0, if_neg c0]
  by_cases c1 : x.1 = 1
  · rw [if_pos c1, if_pos c1]
    refine ⟨rfl, fun s' hs => ?_⟩
    rw [if_pos (by omega)] at h'
    cases hs
    split at h'
    · exact Option.some.inj h'
    · cases h'
  rw [if_neg c1, if_neg c1]
  rw [if_neg (by omega)] at h'
  match s, h' with
  | [], h' => cases h'
  | [a], h' => cases h'
  | b :: a :: q, h' =>
    have h2 : q.length + 1 = e := Option.some.inj h'
    show (if x.1 = 5 ∧ b = 0 then none else some (opV x.1 a b :: (q ++ r))) = Option.map (· ++ r) (if x.1 = 5 ∧ b = 0 then none else some (opV x.1 a b :: q)) ∧ ∀ s', (if x.1 = 5 ∧ b = 0 then none else some (opV x.1 a b :: q)) = some s' → s'.length = e
    by_cases c : x.1 = 5 ∧ b = 0
    · rw [if_pos c, if_pos c]
      exact ⟨rfl, fun s' hs => by cases hs⟩
    · rw [if_neg c, if_neg c]
      exact ⟨rfl, fun s' hs => by cases hs; exact h2⟩
theorem evO_some {v : Nat → Int32} {x : Nat × Nat} {s : List Int32} {e : Nat} (h : dpS (some s.length) x = some e) (hn : ¬ (x.1 = 5 ∧ s.headD 1 = 0)) : ∃ s', evO v x s = some s' := by
  unfold evO
  have h' : (if x.1 < 2 then (if s.length < 30 then some (s.length + 1) else none) else if 2 ≤ s.length then some (s.length - 1) else none) = some e := h
  by_cases c0 : x.1 = 0
  · exact ⟨_, if_pos c0⟩
  by_cases c1 : x.1 = 1
  · rw [if_neg c0]
    exact ⟨_, if_pos c1⟩
  rw [if_neg c0, if_neg c1]
  rw [if_neg (by omega)] at h'
  match s, h', hn with
  | [], h', _ => cases h'
  | [a], h', _ => cases h'
  | b :: a :: q, h', hn =>
    show ∃ s', (if x.1 = 5 ∧ b = 0 then none else some (opV x.1 a b :: q)) = some s'
    have hn' : ¬ (x.1 = 5 ∧ b = 0) := hn
    rw [if_neg hn']
    exact ⟨_, rfl⟩
theorem nI_m2 (m : Nat) : nI (m + 2) - 2 = nI m := by
  have e : nI (m + 2) = nI m + 2 := (nI_add m 2).symm
  rw [e, Int32.add_sub_cancel]
section CV
variable {kl : Nat}
theorem cv_fr (S : St) (A : Nat → Int32) {f : Nat} (hf : f ≠ 5 ∧ f < 100) : st_A (up_A S (ky kl 5) A) (ky kl f) = st_A S (ky kl f) := by
  rw [gA_A, if_neg (ky_ne (by omega) (by decide) (by omega))]
theorem cv_at (hk : isLw kl) {S : St} {A : Nat → Int32} {i : Nat} (hi : i < 64) : f_X5_at (ky kl 5) (up_A S (ky kl 5) A) (nI i) = some (A i) := by
  rw [at_nI (lw_n hk).2.2.2.1 hi (by decide), gAs]
theorem cv_put (hk : isLw kl) {S : St} {A : Nat → Int32} {i : Nat} (hi : i < 64) (x : Int32) : f_X5_put (ky kl 5) (up_A S (ky kl 5) A) (nI i) x = some (up_A S (ky kl 5) (upd A i x)) := by
  rw [put_nI (lw_n hk).2.2.2.1 hi (by decide), gAs, upA_upA]
/-- a code of the law under the machine's eye -/
theorem L4_at (hk : isLw kl) {S : St} {o : CL} (hc : clO kl S o) (ho : o.length ≤ 512) {A : Nat → Int32} {p : Nat} {top : Int32} (hp : p < o.length) {x : Nat × Nat} (hx : o.getD p (0, 0) = x) : f_X1_valueOf_L4 kl (top, nI p, up_A S (ky kl 5) A) = (if nI x.1 = (3 : Int32) then (some (.inr (.inl (top, up_A S (ky kl 5) A)))) else (if nI x.1 = 0 then (f_X1_valueOf_J60 kl (up_A S (ky kl 5) A) top (nI p) (nI x.1) (nI x.2)) else (if nI x.1 = (1 : Int32) then (f_X1_valueOf_J60 kl (up_A S (ky kl 5) A) top (nI p) (nI x.1) (nI x.2)) else ((f_X5_at (ky kl 5) (up_A S (ky kl 5) A) (top - (1 : Int32))).bind (fun (q10 : Int32) => (f_X5_at (ky kl 5) (up_A S (ky kl 5) A) (top - (2 : Int32))).bind (fun (q11 : Int32) => if nI x.1 = (2 : Int32) then (if q10 ≤ q11 then (some (.inl ((top + (-2)), ((i_max (nI p) (nI x.2 - (1 : Int32))) + 1), up_A S (ky kl 5) A))) else (some (.inl ((top + (-2)), (nI p + 1), up_A S (ky kl 5) A)))) else (if nI x.1 = (47 : Int32) then (if q10 = 0 then (some (.inr (.inr ((0 : Int32), up_A S (ky kl 5) A)))) else (f_X1_valueOf_J163 kl (up_A S (ky kl 5) A) top (nI p) (nI x.1) q10 q11)) else (f_X1_valueOf_J163 kl (up_A S (ky kl 5) A) top (nI p) (nI x.1) q10 q11)))))))) := by
  have h2 : st_I (up_A S (ky kl 5) A) (ky kl 2) = nI o.length := hc.1
  have hh := hc.2 p hp
  rw [Nat.zero_add, hx] at hh
  unfold f_X1_valueOf_L4
  rw [h2, if_neg (nI_ge hp (by omega)), at_nI (lw_n hk).1 (by omega) (by decide), at_nI (lw_n hk).2.1 (by omega) (by decide), cv_fr _ _ (by decide), cv_fr _ _ (by decide), hh.1, hh.2, bnd, bnd]
theorem reck (c : Nat) (hc : 2 ≤ c ∧ c < 6) (a b : Int32) (h0 : ¬ (c = 5 ∧ b = 0)) : f_X1_reckon (nI (cc (c, 0)).1) a b = some (opV c a b) := by
  have : c = 2 ∨ c = 3 ∨ c = 4 ∨ c = 5 := by omega
  rcases this with rfl | rfl | rfl | rfl
  · rfl
  · rfl
  · rfl
  · have hb : ¬ b = 0 := fun z => h0 ⟨rfl, z⟩
    unfold f_X1_reckon
    rw [if_neg (show ¬ nI (cc (5, 0)).1 = (42 : Int32) by decide), if_neg (show ¬ nI (cc (5, 0)).1 = (43 : Int32) by decide), if_neg (show ¬ nI (cc (5, 0)).1 = (45 : Int32) by decide), if_neg hb, chk_t hb]
    rfl
/-- one code of an expression -/
theorem C_one (hk : isLw kl) {S : St} {o : CL} (hc : clO kl S o) (ho : o.length ≤ 512) {A : Nat → Int32} {p e : Nat} (hp : p < o.length) {x : Nat × Nat} (hx : o.getD p (0, 0) = cc x) (hr : cdR x) {s r : List Int32} (hd : dpS (some s.length) x = some e) (hl : r.length ≤ 30) (hs30 : s.length ≤ 30) (hA : stkV A (s ++ r)) : (evO (st_A S (ky kl 6)) x s = none ∧ f_X1_valueOf_L4 kl (nI (s ++ r).length, nI p, up_A S (ky kl 5) A) = some (.inr (.inr ((0 : Int32), up_A S (ky kl 5) A)))) ∨ ∃ s' A', evO (st_A S (ky kl 6)) x s = some s' ∧ s'.length = e ∧ stkV A' (s' ++ r) ∧ f_X1_valueOf_L4 kl (nI (s ++ r).length, nI p, up_A S (ky kl 5) A) = some (.inl (nI (s' ++ r).length, nI (p + 1), up_A S (ky kl 5) A')) := by
  have hlen : (s ++ r).length = s.length + r.length := List.length_append
  rw [L4_at hk hc ho hp hx]
  obtain ⟨c, n⟩ := x
  have hd' : (if c < 2 then (if s.length < 30 then some (s.length + 1) else none) else if 2 ≤ s.length then some (s.length - 1) else none) = some e := hd
  have hr1 : c < 6 := hr.1
  unfold evO
  by_cases c0 : c = 0
  · subst c0
    have eS : s.length + 1 = e := by
      rw [if_pos (by decide)] at hd'
      split at hd'
      · exact Option.some.inj hd'
      · cases hd'
    refine Or.inr ⟨nI n :: s, upd A (s ++ r).length (nI n), rfl, eS, ?_, ?_⟩
    · exact stkV_push (nI n) hA
    · show (if nI 0 = (3 : Int32) then _ else (if nI 0 = 0 then (f_X1_valueOf_J60 kl (up_A S (ky kl 5) A) (nI (s ++ r).length) (nI p) (nI 0) (nI n)) else _)) = _
      rw [if_neg (by decide), if_pos (show nI 0 = (0 : Int32) from rfl)]
      unfold f_X1_valueOf_J60 f_X1_valueOf_J84
      rw [if_pos (show nI 0 = (0 : Int32) from rfl), cv_put hk (by omega), bnd, nI_1, nI_1]
      rfl
  by_cases c1 : c = 1
  · subst c1
    have hn6 : n < 6 := hr.2.2 rfl
    have eS : s.length + 1 = e := by
      rw [if_pos (by decide)] at hd'
      split at hd'
      · exact Option.some.inj hd'
      · cases hd'
    refine Or.inr ⟨st_A S (ky kl 6) n :: s, upd A (s ++ r).length (st_A S (ky kl 6) n), rfl, eS, ?_, ?_⟩
    · exact stkV_push _ hA
    · show (if nI 1 = (3 : Int32) then _ else (if nI 1 = 0 then _ else (if nI 1 = (1 : Int32) then (f_X1_valueOf_J60 kl (up_A S (ky kl 5) A) (nI (s ++ r).length) (nI p) (nI 1) (nI n)) else _))) = _
      rw [if_neg (by decide), if_neg (by decide), if_pos (show nI 1 = (1 : Int32) from rfl)]
      unfold f_X1_valueOf_J60 f_X1_valueOf_J84
      rw [if_neg (by decide), at_nI (lw_n hk).2.2.2.2 hn6 (by decide), cv_fr _ _ (by decide), bnd, cv_put hk (by omega), bnd, nI_1, nI_1]
      rfl
  rw [if_neg c0, if_neg c1]
  rw [if_neg (by omega)] at hd'
  match s, hd', hA, hlen, hs30 with
  | [], h', _, _, _ => cases h'
  | [a], h', _, _, _ => cases h'
  | b :: a :: q, h', hA, hlen, hs30 =>
    have eS : q.length + 1 = e := Option.some.inj h'
    have hq : (b :: a :: q).length = q.length + 2 := rfl
    have hq2 : (q ++ r).length = q.length + r.length := List.length_append
    have eL : (b :: a :: q ++ r).length = (q ++ r).length + 2 := rfl
    have t1 : nI (b :: a :: q ++ r).length - (1 : Int32) = nI ((q ++ r).length + 1) := by rw [eL]; exact nI_pred _
    have t2 : nI (b :: a :: q ++ r).length - (2 : Int32) = nI (q ++ r).length := by rw [eL]; exact nI_m2 _
    have hb : A ((q ++ r).length + 1) = b := hA.1
    have ha : A (q ++ r).length = a := hA.2.1
    rw [t1, t2, cv_at hk (by omega), bnd, cv_at hk (by omega), bnd, hb, ha]
    have ecc : cc (c, n) = ((cc (c, 0)).1, 0) := by
      unfold cc
      rw [if_neg (show ¬ (c, n).1 < 2 by show ¬ c < 2; omega), if_neg (show ¬ (c, 0).1 < 2 by show ¬ c < 2; omega)]
    have hcs : c = 2 ∨ c = 3 ∨ c = 4 ∨ c = 5 := by omega
    have nn : ¬ nI (cc (c, 0)).1 = (3 : Int32) ∧ ¬ nI (cc (c, 0)).1 = 0 ∧ ¬ nI (cc (c, 0)).1 = (1 : Int32) ∧ ¬ nI (cc (c, 0)).1 = (2 : Int32) ∧ (nI (cc (c, 0)).1 = (47 : Int32) ↔ c = 5) := by
      rcases hcs with rfl | rfl | rfl | rfl <;> decide
    rw [ecc]
    show _ ∨ ∃ s' A', (if c = 5 ∧ b = 0 then none else some (opV c a b :: q)) = some s' ∧ _
    show ((if c = 5 ∧ b = 0 then none else some (opV c a b :: q)) = none ∧ (if nI (cc (c, 0)).1 = (3 : Int32) then _ else _) = _) ∨ _
    rw [if_neg nn.1, if_neg nn.2.1, if_neg nn.2.2.1, if_neg nn.2.2.2.1]
    by_cases z : c = 5 ∧ b = 0
    · rw [if_pos z, if_pos (nn.2.2.2.2.mpr z.1), if_pos z.2]
      exact Or.inl ⟨rfl, rfl⟩
    · rw [if_neg z]
      have j : f_X1_valueOf_J163 kl (up_A S (ky kl 5) A) (nI (b :: a :: q ++ r).length) (nI p) (nI (cc (c, 0)).1) b a = some (.inl (nI (opV c a b :: q ++ r).length, nI (p + 1), up_A S (ky kl 5) (upd A (q ++ r).length (opV c a b)))) := by
        unfold f_X1_valueOf_J163
        rw [reck c (by omega) a b z, bnd, eL, nI_mm, nI_pred, cv_put hk (by omega), bnd, nI_1]
        rfl
      refine Or.inr ⟨opV c a b :: q, upd A (q ++ r).length (opV c a b), rfl, eS, stkV_push _ hA.2.2, ?_⟩
      by_cases c5 : nI (cc (c, 0)).1 = (47 : Int32)
      · rw [if_pos c5, if_neg (fun y => z ⟨nn.2.2.2.2.mp c5, y⟩)]
        exact j
      · rw [if_neg c5]
        exact j
theorem getD_mid2 {X Y : CL} {a : Nat × Nat} {o : CL} (h : o = X ++ a :: Y) : o.getD X.length (0, 0) = a := by
  rw [h]
  exact getD_at
theorem C_seg (hk : isLw kl) {S : St} {o : CL} (hc : clO kl S o) (ho : o.length ≤ 512) {r : List Int32} (hl : r.length ≤ 30) : ∀ (l pre post : CL) (s : List Int32) (A : Nat → Int32) (e : Nat), o = pre ++ (l.map cc ++ post) → (∀ x ∈ l, cdR x) → l.foldl dpS (some s.length) = some e → s.length ≤ 30 → stkV A (s ++ r) → (evL (st_A S (ky kl 6)) l s = none ∧ ∃ A' c, c < l.length ∧ ∀ f, iter (f_X1_valueOf_L4 kl) (f + c + 1) (nI (s ++ r).length, nI pre.length, up_A S (ky kl 5) A) = some (.inr ((0 : Int32), up_A S (ky kl 5) A'))) ∨ ∃ s' A', evL (st_A S (ky kl 6)) l s = some s' ∧ s'.length = e ∧ stkV A' (s' ++ r) ∧ ∀ f, iter (f_X1_valueOf_L4 kl) (f + l.length) (nI (s ++ r).length, nI pre.length, up_A S (ky kl 5) A) = iter (f_X1_valueOf_L4 kl) f (nI (s' ++ r).length, nI (pre.length + l.length), up_A S (ky kl 5) A')
  | [], pre, post, s, A, e, h, hr, hd, hs, hA => Or.inr ⟨s, A, rfl, Option.some.inj hd, hA, fun f => rfl⟩
  | x :: l, pre, post, s, A, e, h, hr, hd, hs, hA => by
    have h2 : o = pre ++ cc x :: (l.map cc ++ post) := h
    have hlo : o.length = pre.length + (l.length + post.length + 1) := by
      rw [h2, List.length_append, List.length_cons, List.length_append, List.length_map]
    have hd2 : l.foldl dpS (dpS (some s.length) x) = some e := hd
    cases q : dpS (some s.length) x with
    | none =>
      rw [q, dpS_none] at hd2
      cases hd2
    | some d =>
      rw [q] at hd2
      have hd30 : d ≤ 30 := by
        have q' : (if x.1 < 2 then (if s.length < 30 then some (s.length + 1) else none) else if 2 ≤ s.length then some (s.length - 1) else none) = some d := q
        split at q'
        · split at q'
          · have := Option.some.inj q'; omega
          · cases q'
        · split at q'
          · have := Option.some.inj q'; omega
          · cases q'
      show ((evO (st_A S (ky kl 6)) x s).bind (evL (st_A S (ky kl 6)) l) = none ∧ _) ∨ ∃ s' A', (evO (st_A S (ky kl 6)) x s).bind (evL (st_A S (ky kl 6)) l) = some s' ∧ _
      rcases C_one hk hc ho (p := pre.length) (by omega) (getD_mid2 h2) (hr x (List.mem_cons_self ..)) q hl hs hA with ⟨n1, n2⟩ | ⟨s1, A1, n1, n2, n3, n4⟩
      · rw [n1]
        refine Or.inl ⟨rfl, A, 0, Nat.succ_pos _, fun f => it_x n2 _⟩
      · rw [n1, Option.bind_some]
        have h3 : o = (pre ++ [cc x]) ++ (l.map cc ++ post) := by
          rw [h2, List.append_assoc]
          rfl
        have lp : (pre ++ [cc x]).length = pre.length + 1 := by
          rw [List.length_append]
          rfl
        rcases C_seg hk hc ho hl l (pre ++ [cc x]) post s1 A1 e h3 (fun y hy => hr y (List.mem_cons_of_mem _ hy)) (by rw [n2]; exact hd2) (by omega) n3 with ⟨m1, A2, c, m2, m3⟩ | ⟨s2, A2, m1, m2, m3, m4⟩
        · refine Or.inl ⟨m1, A2, c + 1, by show c + 1 < l.length + 1; omega, fun f => ?_⟩
          rw [show f + (c + 1) + 1 = (f + c + 1) + 1 by omega, it_n n4]
          rw [lp] at m3
          exact m3 f
        · refine Or.inr ⟨s2, A2, m1, m2, m3, fun f => ?_⟩
          rw [show f + (x :: l).length = (f + l.length) + 1 from rfl, it_n n4]
          rw [lp] at m4
          rw [m4, show pre.length + (x :: l).length = pre.length + 1 + l.length by show pre.length + (l.length + 1) = _; omega]
theorem vl_n {v : Nat → Int32} {l : CL} (h : evL v l [] = none) : vl v l = none := by
  unfold vl
  rw [h]
  rfl
theorem vl_s {v : Nat → Int32} {l : CL} {a : Int32} (h : evL v l [] = some [a]) : vl v l = some a := by
  unfold vl
  rw [h]
  rfl
theorem one_of {s : List Int32} (h : s.length = 1) : ∃ a, s = [a] := by
  match s, h with
  | [a], _ => exact ⟨a, rfl⟩
  | [], h => cases h
  | _ :: _ :: _, h => cases h
/-- what the machine ends with -/
def vlQ (S : St) (kl : Nat) (A' : Nat → Int32) (x : Option Int32) (z : (Int32 × St) ⊕ (Int32 × St)) : Prop := match x with
  | none => z = .inr ((0 : Int32), up_A S (ky kl 5) A')
  | some y => z = .inl (nI 1, up_A S (ky kl 5) A') ∧ A' 0 = y
theorem C_ret (hk : isLw kl) {S : St} {o : CL} (hc : clO kl S o) (ho : o.length ≤ 512) {X Y : CL} (h : o = X ++ (3, 0) :: Y) (A : Nat → Int32) (top : Int32) : f_X1_valueOf_L4 kl (top, nI X.length, up_A S (ky kl 5) A) = some (.inr (.inl (top, up_A S (ky kl 5) A))) := by
  have hp : X.length < o.length := by
    rw [h, List.length_append, List.length_cons]; omega
  rw [L4_at hk hc ho hp (getD_mid2 h), if_pos (show nI (3, 0).1 = (3 : Int32) from rfl)]
theorem C_brs (hk : isLw kl) {S : St} {o : CL} (hc : clO kl S o) (ho : o.length ≤ 512) : ∀ (brs : List BR) (pre post : CL) (A : Nat → Int32), o = pre ++ (clB pre.length brs ++ post) → lawG brs → ∃ A' c z, c ≤ (clB pre.length brs).length ∧ (∀ f, iter (f_X1_valueOf_L4 kl) (f + c + 1) (nI 0, nI pre.length, up_A S (ky kl 5) A) = some z) ∧ vlQ S kl A' (brV (st_A S (ky kl 6)) brs) z
  | [], pre, post, A, h, hg => absurd hg id
  | (none, l3) :: r, pre, post, A, h, hg => by
    obtain ⟨rfl, hx⟩ := hg
    have h2 : o = pre ++ (l3.map cc ++ ((3, 0) :: post)) := by
      rw [h]
      show pre ++ ((l3.map cc ++ (3, 0) :: []) ++ post) = _
      rw [List.append_assoc]
      rfl
    have hl : (clB pre.length [((none : Option (CL × CL)), l3)]).length = l3.length + 1 := by
      show (l3.map cc ++ [(3, 0)]).length = _
      rw [List.length_append, List.length_map]
      rfl
    rw [hl]
    show ∃ A' c z, _ ∧ _ ∧ vlQ S kl A' (vl (st_A S (ky kl 6)) l3) z
    rcases C_seg hk hc ho (r := []) (by decide) l3 pre ((3, 0) :: post) [] A 1 h2 hx.2 hx.1 (by decide) trivial with ⟨m1, A2, c, m2, m3⟩ | ⟨s2, A2, m1, m2, m3, m4⟩
    · exact ⟨A2, c, _, by omega, m3, by rw [vl_n m1]; rfl⟩
    · obtain ⟨a, rfl⟩ := one_of m2
      have h3 : o = (pre ++ l3.map cc) ++ (3, 0) :: post := by rw [h2, List.append_assoc]
      have lp : (pre ++ l3.map cc).length = pre.length + l3.length := by rw [List.length_append, List.length_map]
      have rt := C_ret hk hc ho h3 A2 (nI ([a] ++ ([] : List Int32)).length)
      rw [lp] at rt
      refine ⟨A2, l3.length, _, by omega, fun f => ?_, by rw [vl_s m1]; exact ⟨rfl, m3.1⟩⟩
      rw [show f + l3.length + 1 = (f + 1) + l3.length by omega]
      exact (m4 (f + 1)).trans (it_x rt f)
  | (some (l1, l2), l3) :: r, pre, post, A, h, hg => by
    obtain ⟨x1, x2, x3, hr⟩ := hg
    have hE : clB pre.length ((some (l1, l2), l3) :: r) = l1.map cc ++ (l2.map cc ++ (2, pre.length + l1.length + l2.length + l3.length + 2) :: (l3.map cc ++ (3, 0) :: clB (pre.length + l1.length + l2.length + l3.length + 2) r)) := rfl
    rw [hE] at h
    have hl : (clB pre.length ((some (l1, l2), l3) :: r)).length = l1.length + (l2.length + (l3.length + ((clB (pre.length + l1.length + l2.length + l3.length + 2) r).length + 1) + 1)) := by
      rw [hE, List.length_append, List.length_append, List.length_cons, List.length_append, List.length_cons, List.length_map, List.length_map, List.length_map]
    rw [hl]
    generalize hq : pre.length + l1.length + l2.length + l3.length + 2 = q at *
    have h1 : o = pre ++ (l1.map cc ++ (l2.map cc ++ (2, q) :: (l3.map cc ++ (3, 0) :: (clB q r ++ post)))) := by
      rw [h]
      simp only [List.append_assoc, List.cons_append]
    show ∃ A' c z, _ ∧ _ ∧ vlQ S kl A' ((vl (st_A S (ky kl 6)) l1).bind (fun a => (vl (st_A S (ky kl 6)) l2).bind (fun b => if a < b then vl (st_A S (ky kl 6)) l3 else brV (st_A S (ky kl 6)) r))) z
    rcases C_seg hk hc ho (r := []) (by decide) l1 pre _ [] A 1 h1 x1.2 x1.1 (by decide) trivial with ⟨m1, A2, c, m2, m3⟩ | ⟨s2, A2, m1, m2, m3, m4⟩
    · exact ⟨A2, c, _, by omega, m3, by rw [vl_n m1]; rfl⟩
    obtain ⟨a, rfl⟩ := one_of m2
    rw [vl_s m1, Option.bind_some]
    have h2 : o = (pre ++ l1.map cc) ++ (l2.map cc ++ (2, q) :: (l3.map cc ++ (3, 0) :: (clB q r ++ post))) := by
      rw [h1]
      simp only [List.append_assoc]
    have p2 : (pre ++ l1.map cc).length = pre.length + l1.length := by rw [List.length_append, List.length_map]
    have m3' : stkV A2 ([] ++ [a]) := m3
    rcases C_seg hk hc ho (r := [a]) (show (1 : Nat) ≤ 30 by decide) l2 (pre ++ l1.map cc) _ [] A2 1 h2 x2.2 x2.1 (by decide) m3' with ⟨k1, A3, c, k2, k3⟩ | ⟨s3, A3, k1, k2, k3, k4⟩
    · rw [p2] at k3
      refine ⟨A3, l1.length + c, _, by omega, fun f => ?_, by rw [vl_n k1]; rfl⟩
      rw [show f + (l1.length + c) + 1 = (f + c + 1) + l1.length by omega]
      exact (m4 (f + c + 1)).trans (k3 f)
    obtain ⟨b, rfl⟩ := one_of k2
    rw [vl_s k1, Option.bind_some]
    have h3 : o = (pre ++ l1.map cc ++ l2.map cc) ++ (2, q) :: (l3.map cc ++ (3, 0) :: (clB q r ++ post)) := by
      rw [h1]
      simp only [List.append_assoc]
    have p3 : (pre ++ l1.map cc ++ l2.map cc).length = pre.length + l1.length + l2.length := by rw [List.length_append, p2, List.length_map]
    have hlo : o.length = pre.length + l1.length + l2.length + (l3.length + ((clB q r).length + post.length + 1) + 1) := by
      rw [h3, List.length_append, p3, List.length_cons, List.length_append, List.length_map, List.length_cons, List.length_append]
    rw [p2] at k4
    have hb : A3 1 = b := k3.1
    have ha : A3 0 = a := k3.2.1
    have tst : f_X1_valueOf_L4 kl (nI ([b] ++ [a]).length, nI (pre.length + l1.length + l2.length), up_A S (ky kl 5) A3) = if b ≤ a then some (.inl (nI 0, nI q, up_A S (ky kl 5) A3)) else some (.inl (nI 0, nI (pre.length + l1.length + l2.length + 1), up_A S (ky kl 5) A3)) := by
      have gd := getD_mid2 h3
      rw [p3] at gd
      rw [L4_at hk hc ho (p := pre.length + l1.length + l2.length) (by omega) gd]
      show (if nI 2 = (3 : Int32) then _ else (if nI 2 = 0 then _ else (if nI 2 = (1 : Int32) then _ else ((f_X5_at (ky kl 5) (up_A S (ky kl 5) A3) (nI 2 - (1 : Int32))).bind (fun (q10 : Int32) => (f_X5_at (ky kl 5) (up_A S (ky kl 5) A3) (nI 2 - (2 : Int32))).bind (fun (q11 : Int32) => if nI 2 = (2 : Int32) then _ else _)))))) = _
      rw [if_neg (by decide), if_neg (by decide), if_neg (by decide), show nI 2 - (1 : Int32) = nI 1 from rfl, show nI 2 - (2 : Int32) = nI 0 from rfl, cv_at hk (by decide), bnd, cv_at hk (by decide), bnd, if_pos (show nI 2 = (2 : Int32) from rfl), hb, ha]
      have e1 : (i_max (nI (pre.length + l1.length + l2.length)) (nI q - (1 : Int32))) + 1 = nI q := by
        obtain ⟨q', hq'⟩ : ∃ q', q = q' + 1 := ⟨q - 1, by omega⟩
        rw [hq', nI_pred]
        show (if nI (pre.length + l1.length + l2.length) < nI q' then nI q' else nI (pre.length + l1.length + l2.length)) + 1 = _
        by_cases z : pre.length + l1.length + l2.length < q'
        · rw [if_pos (nI_lt z (by omega)), nI_1]
        · exfalso; omega
      have t2 : nI ([b] ++ [a]).length = nI 2 := rfl
      have t3 : nI 2 + (-2 : Int32) = nI 0 := by decide
      rw [e1, nI_1, t2, t3]
    by_cases hab : a < b
    · rw [if_pos hab]
      have nba : ¬ b ≤ a := fun z => Int32.not_le.mpr hab z
      rw [if_neg nba] at tst
      have h4 : o = (pre ++ l1.map cc ++ l2.map cc ++ [(2, q)]) ++ (l3.map cc ++ (3, 0) :: (clB q r ++ post)) := by
        rw [h1]
        simp only [List.append_assoc, List.cons_append, List.nil_append]
      have p4 : (pre ++ l1.map cc ++ l2.map cc ++ [(2, q)]).length = pre.length + l1.length + l2.length + 1 := by rw [List.length_append, p3]; rfl
      rcases C_seg hk hc ho (r := []) (by decide) l3 _ _ [] A3 1 h4 x3.2 x3.1 (by decide) trivial with ⟨j1, A4, c, j2, j3⟩ | ⟨s4, A4, j1, j2, j3, j4⟩
      · rw [p4] at j3
        refine ⟨A4, l1.length + l2.length + 1 + c, _, by omega, fun f => ?_, by rw [vl_n j1]; rfl⟩
        rw [show f + (l1.length + l2.length + 1 + c) + 1 = ((f + c + 1) + 1 + l2.length) + l1.length by omega]
        exact (m4 _).trans ((k4 _).trans ((it_n tst _).trans (j3 f)))
      · obtain ⟨y, rfl⟩ := one_of j2
        rw [p4] at j4
        have h5 : o = (pre ++ l1.map cc ++ l2.map cc ++ [(2, q)] ++ l3.map cc) ++ (3, 0) :: (clB q r ++ post) := by
          rw [h1]
          simp only [List.append_assoc, List.cons_append, List.nil_append]
        have rt := C_ret hk hc ho h5 A4 (nI ([y] ++ ([] : List Int32)).length)
        have p5 : (pre ++ l1.map cc ++ l2.map cc ++ [(2, q)] ++ l3.map cc).length = pre.length + l1.length + l2.length + 1 + l3.length := by rw [List.length_append, p4, List.length_map]
        rw [p5] at rt
        refine ⟨A4, l1.length + l2.length + 1 + l3.length, _, by omega, fun f => ?_, by rw [vl_s j1]; exact ⟨rfl, j3.1⟩⟩
        rw [show f + (l1.length + l2.length + 1 + l3.length) + 1 = (((f + 1) + l3.length) + 1 + l2.length) + l1.length by omega]
        exact (m4 _).trans ((k4 _).trans ((it_n tst _).trans ((j4 _).trans (it_x rt f))))
    · rw [if_neg hab]
      have nba : b ≤ a := Int32.not_lt.mp hab
      rw [if_pos nba] at tst
      have h4 : o = (pre ++ l1.map cc ++ l2.map cc ++ [(2, q)] ++ l3.map cc ++ [(3, 0)]) ++ (clB q r ++ post) := by
        rw [h1]
        simp only [List.append_assoc, List.cons_append, List.nil_append]
      have p4 : (pre ++ l1.map cc ++ l2.map cc ++ [(2, q)] ++ l3.map cc ++ [(3, 0)]).length = q := by
        rw [List.length_append, List.length_append, List.length_append, p3, List.length_map, ← hq]
        show pre.length + l1.length + l2.length + 1 + l3.length + 1 = _
        omega
      have ih := C_brs hk hc ho r _ post A3 (by rw [p4]; exact h4) hr
      rw [p4] at ih
      obtain ⟨A4, c, z, j1, j2, j3⟩ := ih
      refine ⟨A4, l1.length + l2.length + 1 + c, z, by omega, fun f => ?_, j3⟩
      rw [show f + (l1.length + l2.length + 1 + c) + 1 = ((f + c + 1) + 1 + l2.length) + l1.length by omega]
      exact (m4 _).trans ((k4 _).trans ((it_n tst _).trans (j2 f)))
theorem upA_eta (S : St) (k : Nat) : up_A S k (st_A S k) = S := by
  have : (fun j => if j = k then st_A S k else S.2.1 j) = S.2.1 := by
    funext j
    by_cases h : j = k
    · rw [if_pos h, h]
      rfl
    · rw [if_neg h]
  show (S.1, (fun j => if j = k then st_A S k else S.2.1 j), S.2.2) = S
  rw [this]
/-- what a law at its place says -/
theorem C_law_val (hk : isLw kl) {S : St} {o o1 o2 : CL} {brs : List BR} (hc : clO kl S o) (ho : o.length ≤ 512) (h : o = o1 ++ (clB o1.length brs ++ o2)) (hg : lawG brs) : lawC kl S (nI o1.length) (fun v => (brV v brs).getD 0) := by
  intro S' e0 e1 e2
  have hc' : clO kl S' o := ⟨e2.trans hc.1, by rw [e0, e1]; exact hc.2⟩
  obtain ⟨A', c, z, j1, j2, j3⟩ := C_brs hk hc' ho brs o1 o2 (st_A S' (ky kl 5)) h hg
  rw [upA_eta] at j2
  have hlo : o.length = o1.length + ((clB o1.length brs).length + o2.length) := by
    have := congrArg List.length h
    rw [List.length_append, List.length_append] at this
    exact this
  have hF : FU = (40000 - 1 - c) + c + 1 := by
    show 40000 = _
    omega
  refine ⟨A', ?_⟩
  unfold f_X1_valueOf
  have j2' : iter (f_X1_valueOf_L4 kl) FU ((0 : Int32), nI o1.length, S') = some z := by
    rw [hF]
    exact j2 _
  rw [j2', bnd]
  show _ = some ((brV (st_A S' (ky kl 6)) brs).getD 0, up_A S' (ky kl 5) A')
  cases q : brV (st_A S' (ky kl 6)) brs with
  | none =>
    rw [q] at j3
    have j3' : z = .inr ((0 : Int32), up_A S' (ky kl 5) A') := j3
    subst j3'
    rfl
  | some y =>
    rw [q] at j3
    obtain ⟨j3', j4⟩ : z = .inl (nI 1, up_A S' (ky kl 5) A') ∧ A' 0 = y := j3
    subst j3'
    show (f_X5_at (ky kl 5) (up_A S' (ky kl 5) A') (nI 1 - (1 : Int32))).bind (fun (q20 : Int32) => some (q20, up_A S' (ky kl 5) A')) = some (y, up_A S' (ky kl 5) A')
    rw [show nI 1 - (1 : Int32) = nI 0 from rfl, cv_at hk (by decide), bnd, j4]
end CV
