/-! THE TEXT THAT HAS BEEN READ. -/
theorem evO_v {v v' : Nat → Int32} (h : ∀ i, i < 6 → v i = v' i) {x : Nat × Nat} (hx : cdR x) (s : List Int32) : evO v x s = evO v' x s := by
  unfold evO
  by_cases c : x.1 = 1
  · rw [h x.2 (hx.2.2 c)]
  · rw [if_neg c, if_neg c]
theorem evL_v {v v' : Nat → Int32} (h : ∀ i, i < 6 → v i = v' i) : ∀ (l : CL) (s : List Int32), (∀ x ∈ l, cdR x) → evL v l s = evL v' l s
  | [], s, _ => rfl
  | x :: l, s, hx => by
    show (evO v x s).bind (evL v l) = (evO v' x s).bind (evL v' l)
    rw [evO_v h (hx x (List.mem_cons_self ..))]
    cases evO v' x s with
    | none => rfl
    | some s1 => exact evL_v h l s1 (fun y hy => hx y (List.mem_cons_of_mem _ hy))
theorem vl_v {v v' : Nat → Int32} (h : ∀ i, i < 6 → v i = v' i) {l : CL} (hx : xk l) : vl v l = vl v' l := by
  unfold vl
  rw [evL_v h l [] hx.2]
theorem brV_v {v v' : Nat → Int32} (h : ∀ i, i < 6 → v i = v' i) : ∀ (brs : List BR), lawG brs → brV v brs = brV v' brs
  | [], _ => rfl
  | (none, l3) :: r, hg => vl_v h hg.2
  | (some (l1, l2), l3) :: r, hg => by
    obtain ⟨x1, x2, x3, hr⟩ := hg
    show (vl v l1).bind (fun a => (vl v l2).bind (fun b => if a < b then vl v l3 else brV v r)) = (vl v' l1).bind (fun a => (vl v' l2).bind (fun b => if a < b then vl v' l3 else brV v' r))
    rw [vl_v h x1, vl_v h x2, vl_v h x3, brV_v h r hr]
theorem lawF_V {x : Option (List BR)} {i : Nat} (hg : ∀ brs, x = some brs → lawG brs) : lawV (lawF x i) := by
  intro v v' h
  cases x with
  | none =>
    show (if i = 6 then v 2 else 0) = if i = 6 then v' 2 else 0
    rw [h 2 (by decide)]
  | some brs =>
    show (brV v brs).getD 0 = (brV v' brs).getD 0
    rw [brV_v h brs (hg brs rfl)]
def tnP (P : TP) (i : Nat) : Nat := if i = 0 then pc P 0 else if i = 1 then pc P 1 else if i = 2 then pc P 2 else if i = 3 then pc P 4 else if i = 4 then pk P else pd P
def TXo (P : TP) : TX := (tnP P, pr P, fun i => lawF (pl P i) i)
theorem tb_o {P : TP} (hb : TBd P) (hr : gR P) : tb (TXo P) := ⟨hb.1, hb.2.1, hb.2.2.1, hb.2.2.2, hr.2.1.1, hr.2.1.2, hr.2.2.1, hr.2.2.2.1, hr.2.2.2.2.1⟩
theorem C_lawAt {kl : Nat} (hk : isLw kl) {S : St} {o o' : CL} (hc : clO kl S o) (ho : o.length ≤ 512) (e : o = dfC ++ o') {x : Option (List BR)} {i p : Nat} (h : lawAt o (if i = 6 then 2 else 0) x p) (hg : ∀ brs, x = some brs → lawG brs) : lawC kl S (nI p) (lawF x i) := by
  cases x with
  | some brs =>
    obtain ⟨o1, o2, e1, rfl⟩ := h
    exact C_law_val hk hc ho e1 (hg brs rfl)
  | none =>
    have hp : p = if i = 6 then 2 else 0 := h
    by_cases c : i = 6
    · rw [if_pos c] at hp
      subst hp
      have eq : lawF none i = fun v => (brV v [(none, [(1, 2)])]).getD 0 := by
        funext v
        show (if i = 6 then v 2 else 0) = _
        rw [if_pos c]
        rfl
      rw [eq]
      exact C_law_val (o1 := [(0, 0), (3, 0)]) (o2 := o') hk hc ho e ⟨rfl, by decide, fun x hx => by
        have := List.mem_singleton.mp hx
        rw [this]
        exact ⟨by decide, (fun z => by cases z), fun _ => by decide⟩⟩
    · rw [if_neg c] at hp
      subst hp
      have eq : lawF none i = fun v => (brV v [(none, [(0, 0)])]).getD 0 := by
        funext v
        show (if i = 6 then v 2 else 0) = _
        rw [if_neg c]
        rfl
      rw [eq]
      exact C_law_val (o1 := []) (o2 := (1, 2) :: (3, 0) :: o') hk hc ho e ⟨rfl, by decide, fun x hx => by
        have := List.mem_singleton.mp hx
        rw [this]
        exact ⟨by decide, fun _ => by decide, fun z => by cases z⟩⟩
/-- the class's text that has been built -/
theorem tC_o {kt : Nat} (hkt : isTx kt) {S : St} {P : TP} {o' : CL} (hb : TBd P) (hr : gR P) (h : CB kt S P (dfC ++ o')) (ho : (dfC ++ o').length ≤ 404) : tC kt S (TXo P) := by
  obtain ⟨hi, hk, hn, hd, hm, hh, hl⟩ := h
  have gl : ∀ i brs, pl P i = some brs → lawG brs := hr.2.2.2.2.2
  refine ⟨tb_o hb hr, hkt, fun i h6 => ?_, hd, hm, hh, fun a ha => ?_, ?_, fun i h7 => lawF_V (gl i)⟩
  · have : i = 0 ∨ i = 1 ∨ i = 2 ∨ i = 3 ∨ i = 4 ∨ i = 5 := by omega
    rcases this with rfl | rfl | rfl | rfl | rfl | rfl
    · exact hi.1
    · exact hi.2.1
    · exact hi.2.2.1
    · exact hi.2.2.2
    · exact hk.1
    · exact hk.2
  · obtain ⟨p, p1, p2, p3⟩ := hl.1 a ha
    have ha6 : a < pc P 2 := ha
    have := hb.2.2.1
    rw [p2]
    exact C_lawAt (i := a) (tx_L hkt) hl.2.2 (by omega) rfl (by rw [if_neg (by omega)]; exact p3) (gl a)
  · obtain ⟨p, p1, p2, p3⟩ := hl.2.1
    rw [p2]
    exact C_lawAt (i := 6) (tx_L hkt) hl.2.2 (by omega) rfl (by rw [if_pos rfl]; exact p3) (gl 6)
/-- the reference's text that has been read -/
theorem tM_o {B : Nat → Nat} {n s t : Nat} {S : St} {all : CL} {bl : List BR} {P : TP} (hr : gR P) (h : TB B n s S t all bl P none) (h18 : st_I S (ky 0 18) = nI s) : tM s S (TXo P) := by
  obtain ⟨⟨⟨hA, e2, e3, e4, e5, e6⟩, hb2, hB⟩, hbl, hTc, hTr, _⟩ := h
  obtain ⟨r1, r2, r3, r4, r5, r6⟩ := hTr rfl
  have h400 := hA.2.2.1
  have gl : ∀ i brs, pl P i = some brs → lawG brs := hr.2.2.2.2.2
  have lw : ∀ i, i < 7 → lawM s S i (lawF (pl P i) i) := fun i hi => M_lawM e6 hi (by omega) (by omega) e4 hB (r6 i hi) (gl i) h18
  have h2 := hTc.2.2.1.2.2.1
  exact ⟨tb_o hTc.2.2.1 hr, e6, h18, ⟨hTc.2.1.1, hTc.2.1.2.1, hTc.2.1.2.2.1, hTc.2.1.2.2.2, r4, r5⟩, r1, r2, r3, fun a ha => lw a (by have ha' : a < pc P 2 := ha; omega), lw 6 (by decide), fun i h7 => lawF_V (gl i)⟩
