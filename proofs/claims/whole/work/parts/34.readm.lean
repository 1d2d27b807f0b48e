/-! THE REFERENCE'S READERS; ways. -/
def s_wayN (T : TX) (r : Nat) : Nat → Nat
  | 0 => 0
  | n + 1 => s_wayN T r n + (if tf T 0 n = r ∨ tf T 1 n = r then 1 else 0)
def s_ways (T : TX) (r : Nat) : Nat := s_wayN T r (tn T 1)
def s_hit (T : TX) (r k d : Nat) : Prop := (tf T 0 d = r ∨ tf T 1 d = r) ∧ s_wayN T r d + 1 = k
def s_end (T : TX) (r d : Nat) : Nat := if tf T 0 d = r then tf T 1 d else tf T 0 d
/-- where the k-th door leads, if there is one -/
def s_thr (T : TX) (r k : Nat) (o : Option Nat) : Prop := match o with
  | none => ∀ d, d < tn T 1 → ¬ s_hit T r k d
  | some v => ∃ d, d < tn T 1 ∧ s_hit T r k d ∧ v = s_end T r d
theorem s_wayN_le (T : TX) (r : Nat) : ∀ n, s_wayN T r n ≤ n := by
  intro n
  induction n with
  | zero => exact Nat.le_refl _
  | succ n ih =>
    rw [s_wayN]
    split <;> omega
theorem s_wayN_mono (T : TX) (r : Nat) : ∀ n i, i ≤ n → s_wayN T r i ≤ s_wayN T r n := by
  intro n
  induction n with
  | zero => intro i h; rw [show i = 0 by omega]; exact Nat.le_refl _
  | succ n ih =>
    intro i h
    by_cases e : i = n + 1
    · rw [e]; exact Nat.le_refl _
    · have := ih i (by omega)
      rw [s_wayN]
      omega
theorem s_hit_lt {T : TX} {r k d : Nat} (hd : d < tn T 1) (h : s_hit T r k d) : 1 ≤ k ∧ k ≤ s_ways T r := by
  have h1 := s_wayN_mono T r (tn T 1) (d + 1) hd
  rw [s_wayN, if_pos h.1] at h1
  have h2 := h.2
  unfold s_ways
  omega
theorem s_hit_ex {T : TX} {r k : Nat} : ∀ n, 1 ≤ k → k ≤ s_wayN T r n → ∃ d, d < n ∧ s_hit T r k d := by
  intro n
  induction n with
  | zero => intro h1 h2; rw [s_wayN] at h2; omega
  | succ n ih =>
    intro h1 h2
    by_cases h : k ≤ s_wayN T r n
    · obtain ⟨d, hd, hh⟩ := ih h1 h
      exact ⟨d, by omega, hh⟩
    · rw [s_wayN] at h2
      by_cases hc : tf T 0 n = r ∨ tf T 1 n = r
      · rw [if_pos hc] at h2
        exact ⟨n, by omega, hc, by omega⟩
      · rw [if_neg hc] at h2
        omega
theorem s_thr_fun {T : TX} {r k : Nat} {o o' : Option Nat} (h : s_thr T r k o) (h' : s_thr T r k o') : o = o' := by
  have uniq : ∀ d d', s_hit T r k d → s_hit T r k d' → d = d' := by
    intro d d' a b
    have a2 := a.2
    have b2 := b.2
    rcases Nat.lt_trichotomy d d' with c | c | c
    · have := s_wayN_mono T r d' (d + 1) c
      rw [s_wayN, if_pos a.1] at this
      omega
    · exact c
    · have := s_wayN_mono T r d (d' + 1) c
      rw [s_wayN, if_pos b.1] at this
      omega
  cases o with
  | none =>
    cases o' with
    | none => rfl
    | some v => obtain ⟨d, hd, hh, -⟩ := h'; exact absurd hh (h d hd)
  | some v =>
    cases o' with
    | none => obtain ⟨d, hd, hh, -⟩ := h; exact absurd hh (h' d hd)
    | some v' =>
      obtain ⟨d, hd, hh, e⟩ := h
      obtain ⟨d', hd', hh', e'⟩ := h'
      rw [e, e', uniq d d' hh hh']
theorem s_thr_ex (T : TX) (r k : Nat) : ∃ o, s_thr T r k o := by
  by_cases h : ∃ d, d < tn T 1 ∧ s_hit T r k d
  · obtain ⟨d, hd, hh⟩ := h
    exact ⟨some (s_end T r d), d, hd, hh, rfl⟩
  · exact ⟨none, fun d hd hh => h ⟨d, hd, hh⟩⟩
theorem s_end_lt {T : TX} (hb : tb T) {r d : Nat} (hd : d < tn T 1) : s_end T r d < tn T 0 := by
  unfold s_end
  split
  · exact (hb.2.2.2.2.2.2.1 d hd).2.1
  · exact (hb.2.2.2.2.2.2.1 d hd).1
theorem nI_m1 {b : Nat} (h : b < 2 ^ 31) : ¬ nI b = -1 := fun e => absurd (show nI b < 0 by rw [e]; decide) (nI_pos h)
section RM
variable {p : Nat → Nat → Prop} {s : Nat} {S : St} {T : TX} {X : CT}
theorem i36 (t c m : Nat) : (nI 36 * nI t + nI c) + nI m = nI (36 * t + c + m) := by rw [pk_mul, nI_add, nI_add]
theorem i36' (t m : Nat) : nI 36 * nI t + nI m = nI (36 * t + m) := by rw [pk_mul, nI_add]
theorem tM_live (hT : tM s S T) : ib (st_I S (ky 0 18)) 2 ∧ (st_I S (ky 0 18)).toNatClampNeg = s := by
  rw [hT.2.2.1]
  have h := hT.2.1
  exact ⟨ib_nI h (by decide), nI_clamp (by omega)⟩
theorem M_turned (hT : tM s S T) (h : cMp p 56 57 58 59 S T X) {m t : Nat} (hm : m < tn T 3) (ht : t ≤ cn X) : f_X6_isTurned S (nI m) (nI t) = some (if cw X t m then 1 else 0) := by
  have h1 := h.1.1
  have h2 := hT.1.2.2.2.1
  unfold f_X6_isTurned
  rw [show (36 : Int32) = nI 36 from rfl, show (20 : Int32) = nI 20 from rfl, i36, chk_t (ib_nI (by omega) (by decide)), nI_clamp (by omega), ((h.2.2.1 t ht).2 m hm).2.1]
  by_cases c : cw X t m
  · simp [c]
  · simp [c]
theorem M_hung (hT : tM s S T) (h : cMp p 56 57 58 59 S T X) {m t : Nat} (hm : m < tn T 3) (ht : t ≤ cn X) : f_X6_hungIn S (nI m) (nI t) = some (nI (cf X 2 t m)) := by
  have h1 := h.1.1
  have h2 := hT.1.2.2.2.1
  unfold f_X6_hungIn
  rw [show (36 : Int32) = nI 36 from rfl, show (12 : Int32) = nI 12 from rfl, i36, chk_t (ib_nI (by omega) (by decide)), nI_clamp (by omega), ((h.2.2.1 t ht).2 m hm).1]
theorem M_menIn (hT : tM s S T) (h : cMp p 56 57 58 59 S T X) {r t : Nat} (hr : r < 2 ^ 31) (ht : t ≤ cn X) : f_X6_menIn S (nI r) (nI t) = some (nI (s_men T X r t)) := by
  have h1 := h.1.1
  have h2 := hT.1.2.2.1
  obtain ⟨l1, l2⟩ := tM_live hT
  unfold f_X6_menIn
  refine iter_FU (fun i => (nI (bs i (fun a => cf X 0 t a == r)), nI i)) (tn T 2) (by omega) (fun i hi => ?_) ?_
  · have hb := bs_lt (fun a => cf X 0 t a == r) i
    have hrm := ((h.1.2.1 t ht).1 i hi).1
    have h8 := hT.1.1
    show f_X6_menIn_L5 S (nI r) (nI t) (nI (bs i (fun a => cf X 0 t a == r)), nI i) = _
    unfold f_X6_menIn_L5
    rw [chk_t l1, l2, hT.2.2.2.1.2.2.1, if_neg (show ¬ nI (tn T 2) ≤ nI i from nI_ge hi (by omega))]
    rw [show (36 : Int32) = nI 36 from rfl, i36', chk_t (ib_nI (by omega) (by decide)), nI_clamp (by omega), ((h.2.2.1 t ht).1 i hi).1]
    rw [bs]
    by_cases hc : cf X 0 t i = r
    · rw [if_pos (by rw [hc]), if_pos (by simp [hc])]
      show some (Sum.inl (nI (bs i (fun a => cf X 0 t a == r)) ||| ((1 : Int32) <<< (nI i &&& 31)), nI i + 1)) = _
      rw [shl_b i (by omega), or_b i (by omega) _ hb, nI_succ]
    · rw [if_neg (fun e => hc ((nI_eq (by omega) hr).mp e)), if_neg (by simp [hc]), Nat.add_zero, nI_succ]
  · show f_X6_menIn_L5 S (nI r) (nI t) (nI (bs (tn T 2) (fun a => cf X 0 t a == r)), nI (tn T 2)) = _
    unfold f_X6_menIn_L5
    rw [chk_t l1, l2, hT.2.2.2.1.2.2.1, if_pos (show nI (tn T 2) ≤ nI (tn T 2) from nI_le (Nat.le_refl _) (by omega))]
    rfl
theorem M_shows_J (hT : tM s S T) (h : cMp p 56 57 58 59 S T X) {m t : Nat} (hm : m < tn T 3) (ht : t ≤ cn X) (o : Option Nat) (ho : ∀ v, o = some v → v ≤ t) (y : Int32) (hy : y = oI o ∨ (o = none ∧ y < 0)) : f_X6_showsAt_J45 S (nI m) (nI t) y = some (oI (s_msk X m t o)) := by
  have h1 := h.1.1
  unfold f_X6_showsAt_J45
  cases o with
  | none =>
    have hn : y < 0 := by
      rcases hy with rfl | ⟨-, q⟩
      · decide
      · exact q
    rw [if_pos hn]
    rfl
  | some v =>
    obtain rfl : y = nI v := by
      rcases hy with q | ⟨q, -⟩
      · exact q
      · cases q
    have hv := ho v rfl
    rw [if_neg (nI_pos (by omega)), M_turned hT h hm ht]
    show (if (if cw X t m = true then (1 : Int32) else 0) = 0 then _ else _) = some (oI (if (cw X t m || cw X v m) = true then none else some v))
    by_cases c1 : cw X t m
    · rw [if_pos c1, if_neg (by decide), c1]
      rfl
    · rw [if_neg c1, if_pos rfl, M_turned hT h hm (by omega)]
      show (if (if cw X v m = true then (1 : Int32) else 0) = 0 then _ else _) = _
      by_cases c2 : cw X v m
      · rw [if_pos c2, if_neg (by decide), c2, Bool.or_true]
        rfl
      · rw [if_neg c2, if_pos rfl]
        have : (cw X t m || cw X v m) = false := by simp [c1, c2]
        rw [this]
        rfl
theorem M_shows (hT : tM s S T) (h : cMp p 56 57 58 59 S T X) {m t : Nat} (hm : m < tn T 3) (ht : t ≤ cn X) (hp : p t m) : f_X6_showsAt S (nI m) (nI t) = some (oI (s_show X m t)) := by
  have h1 := h.1.1
  have h2 := hT.1.2.2.2.1
  have hlate : f_X6_showsAt_J29 S (nI m) (nI t) = f_X6_showsAt_J45 S (nI m) (nI t) (nI t - nI (cf X 3 t m)) := by
    unfold f_X6_showsAt_J29
    rw [show (36 : Int32) = nI 36 from rfl, show (28 : Int32) = nI 28 from rfl, i36, chk_t (ib_nI (by omega) (by decide)), nI_clamp (by omega), ((h.2.2.1 t ht).2 m hm).2.2 hp]
  have hl := ((h.1.2.1 t ht).2 m hm).2
  have late : s_brk X m t = false → f_X6_showsAt_J45 S (nI m) (nI t) (nI t - nI (cf X 3 t m)) = some (oI (s_show X m t)) := fun hb => by
    unfold s_show
    by_cases hc : cf X 3 t m ≤ t
    · have hr : s_raw X m t = some (t - cf X 3 t m) := by unfold s_raw; rw [hb, if_neg (by decide), if_pos hc]
      rw [M_shows_J hT h hm ht (some (t - cf X 3 t m)) (fun v e => by cases e; omega) _ (Or.inl (pk_sub hc)), hr]
    · have hr : s_raw X m t = none := by unfold s_raw; rw [hb, if_neg (by decide), if_neg hc]
      rw [M_shows_J hT h hm ht none (fun v e => by cases e) _ (Or.inr ⟨rfl, pk_sneg (by omega) (by omega)⟩), hr]
  unfold f_X6_showsAt
  rw [chk_t (ib_nI (by omega) (by decide)), nI_clamp (by omega), (h.2.2.2 m hm).1]
  cases hk : ck X m with
  | none =>
    rw [show bkM none = -1 from rfl, if_pos rfl, hlate]
    exact late (by unfold s_brk; rw [hk])
  | some b =>
    have hb := (h.1.2.2 m hm b hk).1
    rw [show bkM (some b) = nI b from rfl, if_neg (nI_m1 (by omega)), chk_t (ib_nI (by omega) (by decide))]
    by_cases hc : b ≤ t
    · rw [if_neg (nI_nlt hc (by omega)), chk_t (ib_nI (by omega) (by decide)), (h.2.2.2 m hm).2 (by rw [hk]; exact fun q => by cases q)]
      have hr : s_raw X m t = cz X m := by unfold s_raw s_brk; rw [hk]; simp [hc]
      unfold s_show
      rw [hr]
      exact M_shows_J hT h hm ht (cz X m) (fun v e => s_raw_le h.1 hm (by rw [hr]; exact e)) _ (Or.inl rfl)
    · rw [if_pos (nI_lt (by omega) (by omega)), hlate]
      exact late (by unfold s_brk; rw [hk]; simp [hc])
theorem M_menShown (hT : tM s S T) (h : cMp p 56 57 58 59 S T X) {m t : Nat} (hm : m < tn T 3) (ht : t ≤ cn X) : f_X6_menShown S (nI m) (oI (s_show X m t)) = some (nI (s_shm T X m t)) := by
  have h1 := h.1.1
  unfold f_X6_menShown s_shm
  cases hs : s_show X m t with
  | none => rfl
  | some v =>
    have hv := s_show_le h.1 hm hs
    have hr := ((h.1.2.1 v (by omega)).2 m hm).1
    have h8 := hT.1.1
    rw [show oI (some v) = nI v from rfl, if_pos (nI_pos' (by omega)), M_hung hT h hm (by omega)]
    simp only [Option.bind_some]
    rw [M_menIn hT h (by omega) (by omega)]
    rfl
end RM
