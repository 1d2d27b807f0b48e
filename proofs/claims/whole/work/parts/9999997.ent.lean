/-! THE LAW'S ENTRY: what the Statement gives of the start. -/
def so_q (i : Nat) : Nat × String × List Int32 := so_C.getD i (0, "", [])
def so_t (i : Nat) : Term := .string RX3 (so_q i).1
abbrev en_F : List Cond := flatC (Jvm.Cond.and given_1 narrow_1)
theorem en_e : ∀ i < 9, Cond.exactly (so_t i) "java/lang/String" ∈ en_F := by decide +kernel
theorem en_c : ∀ i < 9, Cond.eq (.field (so_t i) "java/lang/String" "coder" "B") (.int 0) ∈ en_F := by decide +kernel
theorem en_a : ∀ i < 9, Cond.arrayOf (.field (so_t i) "java/lang/String" "value" "[B") .byte ∈ en_F := by decide +kernel
theorem en_l : ∀ i < 9, Cond.eq (.length (.field (so_t i) "java/lang/String" "value" "[B")) (.int (Int32.ofNat (sl_C.getD i 0))) ∈ en_F := by decide +kernel
theorem en_s : ∀ i < 9, ∀ j < sl_C.getD i 0, Cond.eq (.elem (.field (so_t i) "java/lang/String" "value" "[B") (.int (Int32.ofNat j))) (.int ((sb_C.getD i []).getD j 0)) ∈ en_F := by decide +kernel
theorem en_n : ∀ i < 9, ∀ j < 9, i ≠ j → Cond.not (Cond.eq (so_t i) (so_t j)) ∈ en_F ∨ Cond.not (Cond.eq (so_t j) (so_t i)) ∈ en_F := by decide +kernel
theorem en_m : ∀ j < 8, Cond.eq (.elem (.static RX3 "MOST" "[I") (.int (Int32.ofNat j))) (.int (mo_C.getD j 0)) ∈ en_F := by decide +kernel
theorem en_m1 : Cond.arrayOf (.static RX3 "MOST" "[I") .int ∈ en_F := by decide +kernel
theorem en_m2 : Cond.eq (.length (.static RX3 "MOST" "[I")) (.int (Int32.ofNat 8)) ∈ en_F := by decide +kernel
theorem en_k : Cond.eq (.static "java/lang/String" "COMPACT_STRINGS" "Z") (.int 1) ∈ en_F := by decide +kernel
theorem en_p : Cond.isRef (.static "jdk/internal/util/Preconditions" "SIOOBE_FORMATTER" "Ljava/util/function/BiFunction;") ∈ en_F := by decide +kernel
theorem en_r : ∀ i < 9, Cond.stringRef RX3 (so_q i).1 (so_q i).2.1 ∈ lw_tbl := by
  intro i hi
  have h : i = 0 ∨ i = 1 ∨ i = 2 ∨ i = 3 ∨ i = 4 ∨ i = 5 ∨ i = 6 ∨ i = 7 ∨ i = 8 := by omega
  rcases h with rfl | rfl | rfl | rfl | rfl | rfl | rfl | rfl | rfl
  · exact wd_32
  · exact wd_496
  · exact wd_567
  · exact wd_568
  · exact wd_569
  · exact wd_570
  · exact wd_571
  · exact wd_572
  · exact wd_573
theorem cs_start {b : Nat} {s : State} (D : va_G) (hts : ∀ w ∈ lw_tbl, w.before #[Value.ref b] s = true) (hgv : (Jvm.Cond.and given_1 narrow_1).before #[Value.ref b] s = true) : ∃ g0 : GG, gg_D g0 = D ∧ cs_C g0 (fun q => s.heap.size ≤ q) s := by
  have hA : ∀ a : Nat, a < s.heap.size → ¬ (fun q : Nat => s.heap.size ≤ q) a := fun a h => Nat.not_le.mpr h
  have hf := flat_of_before _ hgv
  obtain ⟨t, ht, hT⟩ := va_Tof (tm := .static RX3 "MOST" "[I") (ty := .int) (N := 8) (f := fun j => .int (mo_C.getD j 0)) (by decide) (hf _ en_m1) (va_eqt (hf _ en_m2)) (fun j hj => va_eqt (hf _ (en_m j hj))) hA
  obtain ⟨adK, adV, hSt, hev⟩ := vk_Sof (N := 9) (tm := so_t) (len := sl_C) (byt := sb_C) (by decide) (fun i hi => hf _ (en_e i hi)) (fun i hi => hf _ (en_c i hi)) (fun i hi => hf _ (en_a i hi)) (fun i hi => hf _ (en_l i hi)) (fun i hi j hj => hf _ (en_s i hi j hj)) (fun i j hi hj hne => (en_n i hi j hj hne).elim (fun h => Or.inl (hf _ h)) (fun h => Or.inr (hf _ h))) hA
  refine ⟨(D, fun _ => 0, fun _ => 0, fun _ => 0, fun _ => 0, fun _ => 0, 0, 0, [], [], [], [], t, adK, adV), rfl, fun x hx => ?_, va_Zof (hts _ wd_31) (hts _ (gw_lw _ wd_2)) ht hA, hT, va_Zof (hts _ wd_42) (hts _ (gw_lw _ wd_3)) (va_eqi (hf _ en_k)) hA, hSt, fun i q h => ?_, va_Zqof (hts _ wd_58) (hts _ (gw_lw _ wd_5)) (hf _ en_p) hA⟩
  · have h1 := hts x (wd_T _ (List.mem_filter.mp hx).1)
    rcases nw_form x hx with ⟨_, _, _, _, _, _, rfl⟩ | ⟨_, _, _, _, rfl⟩
    · exact va_Nw.of rfl h1
    · exact va_Nw.of rfl h1
  · have hi : i < 9 := (List.getElem?_eq_some_iff.mp h).1
    have hq : so_q i = q := by
      unfold so_q
      rw [List.getD_eq_getElem?_getD, h]
      rfl
    rw [← hq]
    exact vk_R.of (hts _ (en_r i hi)) (hev i hi)
