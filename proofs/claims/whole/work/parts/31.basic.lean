/-! PURE: the class's small helpers. -/
theorem at_nI {k n i : Nat} {S : St} (hn : wk_n wd_C k = n) (hi : i < n) (hb : n < 2 ^ 31) : f_X5_at k S (nI i) = some (st_A S k i) := by
  unfold f_X5_at
  rw [hn, if_neg (nI_pos (by omega)), if_neg (show ¬ Int32.ofNat n ≤ nI i from nI_ge hi hb), chk_t (ib_nI hi hb), nI_clamp (by omega)]
theorem at_any (k : Nat) (S : St) (x : Int32) (hb : wk_n wd_C k < 2 ^ 31) : ∃ v, f_X5_at k S x = some v := by
  unfold f_X5_at
  by_cases h : x < 0
  · exact ⟨0, by rw [if_pos h]⟩
  · rw [if_neg h]
    by_cases h2 : Int32.ofNat (wk_n wd_C k) ≤ x
    · exact ⟨0, by rw [if_pos h2]⟩
    · obtain ⟨j, hj, rfl⟩ := nI_of h
      have h3 : j < wk_n wd_C k := by
        rcases Nat.lt_or_ge j (wk_n wd_C k) with h4 | h4
        · exact h4
        · exact absurd (nI_le h4 hj) h2
      rw [if_neg h2, chk_t (ib_nI h3 hb)]
      exact ⟨_, rfl⟩
theorem put_nI {k n i : Nat} {S : St} {v : Int32} (hn : wk_n wd_C k = n) (hi : i < n) (hb : n < 2 ^ 31) : f_X5_put k S (nI i) v = some (up_A S k (upd (st_A S k) i v)) := by
  unfold f_X5_put
  rw [hn, if_neg (nI_pos (by omega)), if_neg (show ¬ Int32.ofNat n ≤ nI i from nI_ge hi hb), chk_t (ib_nI hi hb), nI_clamp (by omega)]
  rfl
theorem upA_self (S : St) (k : Nat) : up_A S k (st_A S k) = S := by
  have : (fun j => if j = k then st_A S k else S.2.1 j) = S.2.1 := by
    funext j
    by_cases h : j = k
    · rw [if_pos h, h]; rfl
    · rw [if_neg h]
  unfold up_A
  rw [this]
theorem upA_upA (S : St) (k : Nat) (f f' : Nat → Int32) : up_A (up_A S k f) k f' = up_A S k f' := by
  have : (fun j => if j = k then f' else (if j = k then f else S.2.1 j)) = fun j => if j = k then f' else S.2.1 j := by
    funext j
    by_cases h : j = k
    · rw [if_pos h, if_pos h]
    · rw [if_neg h, if_neg h, if_neg h]
  show (S.1, (fun j => if j = k then f' else (if j = k then f else S.2.1 j)), S.2.2) = _
  rw [this]
  rfl
theorem put_any (k : Nat) (S : St) (x v : Int32) (hb : wk_n wd_C k < 2 ^ 31) : ∃ a, f_X5_put k S x v = some (up_A S k a) := by
  by_cases h : x < 0
  · exact ⟨st_A S k, by unfold f_X5_put; rw [if_pos h, upA_self]⟩
  · by_cases h2 : Int32.ofNat (wk_n wd_C k) ≤ x
    · exact ⟨st_A S k, by unfold f_X5_put; rw [if_neg h, if_pos h2, upA_self]⟩
    · obtain ⟨j, hj, rfl⟩ := nI_of h
      have h3 : j < wk_n wd_C k := by
        rcases Nat.lt_or_ge j (wk_n wd_C k) with h4 | h4
        · exact h4
        · exact absurd (nI_le h4 hj) h2
      exact ⟨_, put_nI rfl h3 hb⟩
theorem lnC {k ci f n : Nat} (hk : cl_C k = ci) (hf : f < 100) (hn : (lt_C ci).getD f 0 = n) : wk_n wd_C (ky k f) = n := by rw [← hn]; exact ln_at hk hf
theorem sh_k : ∀ k < 32, (((nI k).toUInt32 &&& Int32.toUInt32 31).toBitVec % 32).toNat = k := by decide +kernel
theorem and_1 (n : Nat) (h : n < 2 ^ 31) : nI n &&& 1 = nI (n % 2) := pk_andN (by omega) 1 (by decide)
theorem has_nI {c i : Nat} (hc : c < 2 ^ 31) (hi : i < 32) : f_X5_has (nI c) (nI i) = some (if c.testBit i then 1 else 0) := by
  unfold f_X5_has
  rw [if_neg (nI_pos (by omega)), if_neg (show ¬ (32 : Int32) ≤ nI i from nI_ge (b := 32) hi (by decide))]
  have e1 : i_ushr (nI c) (nI i) = nI (c / 2 ^ i) := pk_ushrN (by omega) (nI i) i (sh_k i hi)
  have h2 : c / 2 ^ i < 2 ^ 31 := Nat.lt_of_le_of_lt (Nat.div_le_self _ _) hc
  rw [e1, and_1 _ h2]
  have h3 : c.testBit i = decide (c / 2 ^ i % 2 = 1) := by rw [Nat.testBit_eq_decide_div_mod_eq]
  rw [h3]
  by_cases h : c / 2 ^ i % 2 = 1
  · rw [if_pos (by rw [h]; rfl), if_pos (by simp [h])]
  · have h4 : c / 2 ^ i % 2 = 0 := by omega
    rw [if_neg (by rw [h4]; decide), if_neg (by simp [h4])]
/-- how many of the eight lowest bits -/
def pop (c : Nat) : Nat := (List.range 8).countP (fun i => c.testBit i)
theorem bitC : ∀ c < 256, f_J6_bitCount_0f7a4 (nI c) = some (nI (pop c)) := by decide +kernel
theorem bitM : ∀ c < 256, f_X6_bits (nI c) = some (nI (pop c)) := by decide +kernel
theorem pop_le (c : Nat) : pop c ≤ 8 := by unfold pop; exact Nat.le_trans List.countP_le_length (by simp)
