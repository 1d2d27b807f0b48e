/-! PURE: states read back, loops, small numbers. -/
theorem gI_I (S : St) (k j : Nat) (v : Int32) : st_I (up_I S k v) j = if j = k then v else st_I S j := rfl
theorem gI_A (S : St) (k j : Nat) (v : (Nat → Int32)) : st_I (up_A S k v) j = st_I S j := rfl
theorem gI_J (S : St) (k j : Nat) (v : Int64) : st_I (up_J S k v) j = st_I S j := rfl
theorem gI_L (S : St) (k j : Nat) (v : (Nat → Int64)) : st_I (up_L S k v) j = st_I S j := rfl
theorem gI_P (S : St) (k j : Nat) (v : Nat) : st_I (up_P S k v) j = st_I S j := rfl
theorem gA_I (S : St) (k j : Nat) (v : Int32) : st_A (up_I S k v) j = st_A S j := rfl
theorem gA_A (S : St) (k j : Nat) (v : (Nat → Int32)) : st_A (up_A S k v) j = if j = k then v else st_A S j := rfl
theorem gA_J (S : St) (k j : Nat) (v : Int64) : st_A (up_J S k v) j = st_A S j := rfl
theorem gA_L (S : St) (k j : Nat) (v : (Nat → Int64)) : st_A (up_L S k v) j = st_A S j := rfl
theorem gA_P (S : St) (k j : Nat) (v : Nat) : st_A (up_P S k v) j = st_A S j := rfl
theorem gJ_I (S : St) (k j : Nat) (v : Int32) : st_J (up_I S k v) j = st_J S j := rfl
theorem gJ_A (S : St) (k j : Nat) (v : (Nat → Int32)) : st_J (up_A S k v) j = st_J S j := rfl
theorem gJ_J (S : St) (k j : Nat) (v : Int64) : st_J (up_J S k v) j = if j = k then v else st_J S j := rfl
theorem gJ_L (S : St) (k j : Nat) (v : (Nat → Int64)) : st_J (up_L S k v) j = st_J S j := rfl
theorem gJ_P (S : St) (k j : Nat) (v : Nat) : st_J (up_P S k v) j = st_J S j := rfl
theorem gL_I (S : St) (k j : Nat) (v : Int32) : st_L (up_I S k v) j = st_L S j := rfl
theorem gL_A (S : St) (k j : Nat) (v : (Nat → Int32)) : st_L (up_A S k v) j = st_L S j := rfl
theorem gL_J (S : St) (k j : Nat) (v : Int64) : st_L (up_J S k v) j = st_L S j := rfl
theorem gL_L (S : St) (k j : Nat) (v : (Nat → Int64)) : st_L (up_L S k v) j = if j = k then v else st_L S j := rfl
theorem gL_P (S : St) (k j : Nat) (v : Nat) : st_L (up_P S k v) j = st_L S j := rfl
theorem gP_I (S : St) (k j : Nat) (v : Int32) : st_P (up_I S k v) j = st_P S j := rfl
theorem gP_A (S : St) (k j : Nat) (v : (Nat → Int32)) : st_P (up_A S k v) j = st_P S j := rfl
theorem gP_J (S : St) (k j : Nat) (v : Int64) : st_P (up_J S k v) j = st_P S j := rfl
theorem gP_L (S : St) (k j : Nat) (v : (Nat → Int64)) : st_P (up_L S k v) j = st_P S j := rfl
theorem gP_P (S : St) (k j : Nat) (v : Nat) : st_P (up_P S k v) j = if j = k then v else st_P S j := rfl
theorem ky_ne {a b c d : Nat} (hb : b < 100) (hd : d < 100) (h : ¬ (a = c ∧ b = d)) : ¬ ky a b = ky c d := fun e => h (ky_inj hb hd e)
theorem ky_iff {a b c d : Nat} (hb : b < 100) (hd : d < 100) : ky a b = ky c d ↔ a = c ∧ b = d := ⟨ky_inj hb hd, fun h => by rw [h.1, h.2]⟩
theorem chk_t {α : Type} {c : Prop} [Decidable c] {A : Option α} (h : c) : chk c A = A := if_pos h
theorem upd_s {f : Nat → Int32} {i : Nat} {x : Int32} : upd f i x i = x := pk_us
theorem upd_n {f : Nat → Int32} {i j : Nat} {x : Int32} (h : j ≠ i) : upd f i x j = f j := pk_un h
theorem upd_e (f : Nat → Int32) (i j : Nat) (x : Int32) : upd f i x j = if j = i then x else f j := by
  by_cases h : j = i
  · rw [if_pos h, h, upd_s]
  · rw [if_neg h, upd_n h]
/-- a loop that goes up to e and ends there -/
theorem iter_up {σ ρ : Type} {step : σ → Option (σ ⊕ ρ)} {r : ρ} (s : Nat → σ) (e : Nat) (hs : ∀ i, i < e → step (s i) = some (.inl (s (i + 1)))) (he : step (s e) = some (.inr r)) : ∀ (n i : Nat), i ≤ e → e - i < n → iter step n (s i) = some r := by
  intro n
  induction n with
  | zero => intro i _ h; omega
  | succ n ih =>
    intro i h1 h2
    rw [iter]
    by_cases h : i = e
    · subst h
      rw [he]
    · rw [hs i (by omega)]
      exact ih (i + 1) (by omega) (by omega)
theorem iter_FU {σ ρ : Type} {step : σ → Option (σ ⊕ ρ)} {r : ρ} (s : Nat → σ) (e : Nat) (he0 : e < 40000) (hs : ∀ i, i < e → step (s i) = some (.inl (s (i + 1)))) (he : step (s e) = some (.inr r)) : iter step FU (s 0) = some r := iter_up s e hs he FU 0 (Nat.zero_le _) (by show e - 0 < 40000; omega)
/-- a loop with an invariant; it ends with what the last step says -/
theorem iter_inv {σ ρ : Type} {step : σ → Option (σ ⊕ ρ)} (I : Nat → σ → Prop) (Q : ρ → Prop) (e : Nat) (hs : ∀ i x, i < e → I i x → (∃ y, step x = some (.inl y) ∧ I (i + 1) y) ∨ ∃ z, step x = some (.inr z) ∧ Q z) (he : ∀ x, I e x → ∃ z, step x = some (.inr z) ∧ Q z) : ∀ (n i : Nat) (x : σ), i ≤ e → e - i < n → I i x → ∃ z, iter step n x = some z ∧ Q z := by
  intro n
  induction n with
  | zero => intro i x _ h; omega
  | succ n ih =>
    intro i x h1 h2 h3
    rw [iter]
    by_cases h : i = e
    · subst h
      obtain ⟨z, hz, hq⟩ := he x h3
      rw [hz]
      exact ⟨z, rfl, hq⟩
    · rcases hs i x (by omega) h3 with ⟨y, hy, hi⟩ | ⟨z, hz, hq⟩
      · rw [hy]
        exact ih (i + 1) y (by omega) (by omega) hi
      · rw [hz]
        exact ⟨z, rfl, hq⟩
theorem iter_invF {σ ρ : Type} {step : σ → Option (σ ⊕ ρ)} (I : Nat → σ → Prop) (Q : ρ → Prop) (e : Nat) (he0 : e < 40000) {x : σ} (h0 : I 0 x) (hs : ∀ i x, i < e → I i x → (∃ y, step x = some (.inl y) ∧ I (i + 1) y) ∨ ∃ z, step x = some (.inr z) ∧ Q z) (he : ∀ x, I e x → ∃ z, step x = some (.inr z) ∧ Q z) : ∃ z, iter step FU x = some z ∧ Q z := iter_inv I Q e hs he FU 0 x (Nat.zero_le _) (by show e - 0 < 40000; omega) h0
theorem ib_nI {i n : Nat} (h : i < n) (hn : n < 2 ^ 31) : ib (nI i) n := by
  have h1 : (nI i).toInt = (i : Int) := nI_toInt (by omega)
  exact ⟨by rw [h1]; omega, by rw [h1]; omega⟩
theorem nI_lit (n : Nat) : (OfNat.ofNat n : Int32) = nI n := rfl
/-- bit sets -/
def bs : Nat → (Nat → Bool) → Nat
  | 0, _ => 0
  | n + 1, p => bs n p + (if p n then 2 ^ n else 0)
theorem bs_lt (p : Nat → Bool) : ∀ n, bs n p < 2 ^ n := by
  intro n
  induction n with
  | zero => exact Nat.one_pos
  | succ n ih =>
    rw [bs, Nat.pow_succ]
    split <;> omega
theorem bs_bit (p : Nat → Bool) : ∀ n i, (bs n p).testBit i = (decide (i < n) && p i) := by
  intro n
  induction n with
  | zero => intro i; simp [bs]
  | succ n ih =>
    intro i
    rw [bs]
    by_cases hp : p n
    · rw [if_pos hp, Nat.add_comm]
      by_cases hi : i = n
      · subst hi
        rw [Nat.testBit_two_pow_add_eq, ih]
        simp [hp]
      · rcases Nat.lt_or_gt_of_ne hi with h | h
        · rw [Nat.testBit_two_pow_add_gt h, ih]
          simp [h, Nat.lt_succ_of_lt h]
        · have h1 : 2 ^ n + bs n p < 2 ^ (n + 1) := by
            have := bs_lt p n
            rw [Nat.pow_succ]
            omega
          rw [Nat.testBit_lt_two_pow (Nat.lt_of_lt_of_le h1 (Nat.pow_le_pow_right (by decide) h))]
          simp
          omega
    · rw [if_neg hp, Nat.add_zero, ih]
      by_cases hi : i = n
      · subst hi
        simp [hp]
      · have : (decide (i < n + 1)) = decide (i < n) := by
          apply decide_eq_decide.mpr
          omega
        rw [this]
theorem shl_b : ∀ i < 8, (1 : Int32) <<< (nI i &&& 31) = nI (2 ^ i) := by decide
theorem or_b : ∀ i < 8, ∀ a < 2 ^ i, nI a ||| nI (2 ^ i) = nI (a + 2 ^ i) := by decide +kernel
theorem or_b' : ∀ i < 8, ∀ a < 2 ^ i, nI (2 ^ i) ||| nI a = nI (a + 2 ^ i) := by decide +kernel
