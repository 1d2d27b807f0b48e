/-! A COPY, by the class. -/
theorem copy_nI {k k2 N sp dp n : Nat} {S : St} (h1 : wk_n wd_C k = N) (h2 : wk_n wd_C k2 = N) (hN : N < 2 ^ 31) (hs : sp + n ≤ N) (hd : dp + n ≤ N) : f_X5_copy k k2 S (nI sp) (nI dp) (nI n) = some (up_A S k2 (va_cpy (st_A S k) (st_A S k2) sp dp n)) := by
  have e : Int32.ofNat N - nI n = nI (N - n) := pk_sub (by omega)
  unfold f_X5_copy
  rw [h1, h2, if_neg (nI_pos (by omega)), if_neg (nI_pos (by omega)), if_pos (nI_pos' (by omega)), e]
  have q1 : ¬ nI (N - n) < nI sp := fun q => Int32.not_le.mpr q (nI_le (by omega) (by omega))
  have q2 : ¬ nI (N - n) < nI dp := fun q => Int32.not_le.mpr q (nI_le (by omega) (by omega))
  have c1 := nI_clamp (n := sp) (by omega)
  have c2 := nI_clamp (n := dp) (by omega)
  have c3 := nI_clamp (n := n) (by omega)
  have g : cpok (nI sp) (nI dp) (nI n) N N := ⟨nI_pos (by omega), nI_pos (by omega), nI_pos (by omega), by rw [c1, c3]; exact hs, by rw [c2, c3]; exact hd⟩
  rw [if_neg q1, if_neg q2, chk_t g, lt_e, c1, c2, c3]
