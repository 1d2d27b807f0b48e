/-! THE CLASS'S SCAN, all. -/
def scanQ (B : Nat → Nat) (n : Nat) (S0 : St) (r : St ⊕ (Int32 × St)) : Prop := match r with
  | .inl S' => ∃ t z1 z2, scanI B n S0 t (z1, z2, S') ∧ ps B n t = n
  | .inr v => v.1 = nI (rn (tkK B n) 0 q00).1 ∧ scanR B n S0 v.2 (rn (tkK B n) 0 q00)
theorem C_scan {B : Nat → Nat} {n : Nat} {S : St} (hT : tpC B n S) (hw : wrdC S) : ∃ S', f_X3_scan (ky 0 0) S (nI n) = some (nI (rn (tkK B n) 0 q00).1, S') ∧ scanR B n S S' (rn (tkK B n) 0 q00) := by
  obtain ⟨S1, e1, o1, h4, h5, hq⟩ := C_clear1 S
  have hT1 := tpC_on hT o1
  unfold f_X3_scan
  rw [e1, bnd, show (0 : Int32) = nI 0 from rfl, C_nextByte hT1 (Nat.zero_le _), bnd]
  have main : ∃ r, iter (f_X3_scan_L14 (ky 0 0) (nI n)) FU (nI (nx B n 0), nI 0, S1) = some r ∧ scanQ B n S r := by
    refine iter_invF (scanI B n S) (scanQ B n S) 400 (by decide) ?_ ?_ ?_
    · exact ⟨rfl, rfl, o1, h4, h5, nx_le B (Nat.zero_le _), Nat.zero_le _, ⟨q00, hq, ⟨Nat.zero_le _, Nat.zero_le _, fun _ _ => Nat.zero_le _⟩, rfl⟩, fun u hu => absurd hu (Nat.not_lt_zero _)⟩
    · rintro t ⟨z1, z2, Z⟩ ht h
      rcases scan_step hT hw h with ⟨y, a, _, b⟩ | ⟨S', a, b⟩ | ⟨a, b⟩
      · exact Or.inl ⟨y, a, b⟩
      · exact Or.inr ⟨_, a, rfl, b⟩
      · exact Or.inr ⟨_, a, t, z1, z2, h, b⟩
    · rintro ⟨z1, z2, Z⟩ h
      rcases scan_step hT hw h with ⟨y, a, c, b⟩ | ⟨S', a, b⟩ | ⟨a, b⟩
      · exact absurd c (by decide)
      · exact ⟨_, a, rfl, b⟩
      · exact ⟨_, a, 400, z1, z2, h, b⟩
  obtain ⟨r, e, hr⟩ := main
  rw [e, bnd]
  cases r with
  | inl S' =>
    obtain ⟨t, z1, z2, a, b⟩ := hr
    exact scan_end a b
  | inr v =>
    obtain ⟨v1, v2⟩ := v
    obtain ⟨a, b⟩ := hr
    have a' : v1 = nI (rn (tkK B n) 0 q00).1 := a
    subst a'
    exact ⟨v2, rfl, b⟩
