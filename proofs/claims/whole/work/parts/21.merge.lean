/-! WORLDS PUT TOGETHER. -/
theorem vP_perm {D : va_G} {cl : List vw_C} {a b : va_W} {H : Heap} (hp : a.Perm b) (h : va_P D cl a H) : va_P D cl b H := vP_iff.mpr (fun x hx => vP_iff.mp h x (hp.mem_iff.mpr hx))
theorem vD_perm {A : Nat → Prop} {a b : va_W} (hp : a.Perm b) (h : va_D A a) : va_D A b := by
  rw [vD_iff] at h ⊢
  exact ⟨(hp.map Prod.fst).nodup_iff.mp h.1, fun x hx => h.2 x (hp.mem_iff.mpr hx)⟩
theorem vP_app {D : va_G} {cl : List vw_C} {a b : va_W} {H : Heap} : va_P D cl (a ++ b) H ↔ va_P D cl a H ∧ va_P D cl b H := by
  rw [vP_iff, vP_iff, vP_iff]
  exact ⟨fun h => ⟨fun x hx => h x (List.mem_append_left _ hx), fun x hx => h x (List.mem_append_right _ hx)⟩, fun h x hx => (List.mem_append.mp hx).elim (h.1 x) (h.2 x)⟩
theorem vD_app {A : Nat → Prop} {a b : va_W} : va_D A (a ++ b) ↔ va_D A a ∧ va_D A b ∧ ∀ x ∈ a, ∀ y ∈ b, x.1 ≠ y.1 := by
  rw [vD_iff, vD_iff, vD_iff, List.map_append, List.nodup_append]
  constructor
  · rintro ⟨⟨h1, h2, h3⟩, h4⟩
    exact ⟨⟨h1, fun x hx => h4 x (List.mem_append_left _ hx)⟩, ⟨h2, fun x hx => h4 x (List.mem_append_right _ hx)⟩, fun x hx y hy => h3 x.1 (List.mem_map_of_mem hx) y.1 (List.mem_map_of_mem hy)⟩
  · rintro ⟨⟨h1, h4⟩, ⟨h2, h5⟩, h3⟩
    refine ⟨⟨h1, h2, fun p hp q hq => ?_⟩, fun x hx => (List.mem_append.mp hx).elim (h4 x) (h5 x)⟩
    obtain ⟨x, hx, rfl⟩ := List.mem_map.mp hp
    obtain ⟨y, hy, rfl⟩ := List.mem_map.mp hq
    exact h3 x hx y hy
def gM (g1 g2 : GG) : GG := (gg_D g1, fun k => if k ∈ gg_os g1 then gg_o g1 k else gg_o g2 k, fun q => if q / 100 ∈ gg_os g1 then gg_a g1 q else gg_a g2 q, fun q => if q / 100 ∈ gg_os g1 then gg_c g1 q else gg_c g2 q, fun q => if q / 100 ∈ gg_os g1 then gg_l g1 q else gg_l g2 q, fun q => if q / 100 ∈ gg_os g1 then gg_d g1 q else gg_d g2 q, gg_q g2, gg_e g2, gg_os g1 ++ gg_os g2, gg_as g1 ++ gg_as g2, gg_ls g1 ++ gg_ls g2, gg_qs g2, gg_t g1, gg_k g1, gg_v g1)
/-- a world's keys are its objects' -/
def kb (g : GG) : Prop := (∀ q ∈ gg_as g, q / 100 ∈ gg_os g) ∧ ∀ q ∈ gg_ls g, q / 100 ∈ gg_os g
theorem gM_kb {g1 g2 : GG} (h1 : kb g1) (h2 : kb g2) : kb (gM g1 g2) := by
  refine ⟨fun q hq => ?_, fun q hq => ?_⟩
  · rcases List.mem_append.mp hq with h | h
    · exact List.mem_append_left _ (h1.1 q h)
    · exact List.mem_append_right _ (h2.1 q h)
  · rcases List.mem_append.mp hq with h | h
    · exact List.mem_append_left _ (h1.2 q h)
    · exact List.mem_append_right _ (h2.2 q h)
theorem gM_perm {w : WD} {g1 g2 : GG} {S : St} (hq2 : gg_qs g2 = []) (h1 : kb g1) (h2 : kb g2) (hd : ∀ k ∈ gg_os g2, k ∉ gg_os g1) (hf : ∀ k ∈ gg_os g2, fl w (gM g1 g2) S k = fl w g2 S k) : (wl w (gM g1 g2) S).Perm (((gg_os g1).map (fun k => (gg_o g1 k, Sum.inr (wk_c w k, fl w (gM g1 g2) S k))) ++ ((gg_as g1).map (e_a w g1 S) ++ (gg_ls g1).map (e_l w g1 S))) ++ wl w g2 S) := by
  have eo : (gg_os (gM g1 g2)).map (e_o w (gM g1 g2) S) = (gg_os g1).map (fun k => (gg_o g1 k, Sum.inr (wk_c w k, fl w (gM g1 g2) S k))) ++ (gg_os g2).map (e_o w g2 S) := by
    show (gg_os g1 ++ gg_os g2).map _ = _
    rw [List.map_append]
    congr 1
    · refine List.map_congr_left (fun k hk => ?_)
      show ((if k ∈ gg_os g1 then gg_o g1 k else gg_o g2 k), _) = _
      rw [if_pos hk]
    · refine List.map_congr_left (fun k hk => ?_)
      show ((if k ∈ gg_os g1 then gg_o g1 k else gg_o g2 k), Sum.inr (wk_c w k, fl w (gM g1 g2) S k)) = _
      rw [if_neg (hd k hk), hf k hk]
      rfl
  have ea : (gg_as (gM g1 g2)).map (e_a w (gM g1 g2) S) = (gg_as g1).map (e_a w g1 S) ++ (gg_as g2).map (e_a w g2 S) := by
    show (gg_as g1 ++ gg_as g2).map _ = _
    rw [List.map_append]
    congr 1
    · refine List.map_congr_left (fun q hq => ?_)
      show ((if q / 100 ∈ gg_os g1 then gg_a g1 q else gg_a g2 q), Sum.inl ((if q / 100 ∈ gg_os g1 then gg_c g1 q else gg_c g2 q), _)) = _
      rw [if_pos (h1.1 q hq), if_pos (h1.1 q hq)]
      rfl
    · refine List.map_congr_left (fun q hq => ?_)
      show ((if q / 100 ∈ gg_os g1 then gg_a g1 q else gg_a g2 q), Sum.inl ((if q / 100 ∈ gg_os g1 then gg_c g1 q else gg_c g2 q), _)) = _
      rw [if_neg (hd _ (h2.1 q hq)), if_neg (hd _ (h2.1 q hq))]
      rfl
  have el : (gg_ls (gM g1 g2)).map (e_l w (gM g1 g2) S) = (gg_ls g1).map (e_l w g1 S) ++ (gg_ls g2).map (e_l w g2 S) := by
    show (gg_ls g1 ++ gg_ls g2).map _ = _
    rw [List.map_append]
    congr 1
    · refine List.map_congr_left (fun q hq => ?_)
      show ((if q / 100 ∈ gg_os g1 then gg_l g1 q else gg_l g2 q), Sum.inl ((if q / 100 ∈ gg_os g1 then gg_d g1 q else gg_d g2 q), _)) = _
      rw [if_pos (h1.2 q hq), if_pos (h1.2 q hq)]
      rfl
    · refine List.map_congr_left (fun q hq => ?_)
      show ((if q / 100 ∈ gg_os g1 then gg_l g1 q else gg_l g2 q), Sum.inl ((if q / 100 ∈ gg_os g1 then gg_d g1 q else gg_d g2 q), _)) = _
      rw [if_neg (hd _ (h2.2 q hq)), if_neg (hd _ (h2.2 q hq))]
      rfl
  have e0 : wl w (gM g1 g2) S = (gg_os (gM g1 g2)).map (e_o w (gM g1 g2) S) ++ ((gg_as (gM g1 g2)).map (e_a w (gM g1 g2) S) ++ ((gg_ls (gM g1 g2)).map (e_l w (gM g1 g2) S) ++ (gg_qs g2).map (e_q w g2))) := by
    show _ ++ (_ ++ (_ ++ (gg_qs g2).map (e_q w (gM g1 g2)))) = _
    rw [hq2]
    rfl
  rw [e0, eo, ea, el]
  unfold wl
  simp only [List.append_assoc]
  refine List.Perm.append_left _ ?_
  refine (List.perm_append_comm_assoc _ _ _).trans (List.Perm.append_left _ ?_)
  refine ((List.Perm.append_left _ ((List.perm_append_comm_assoc _ _ _).trans (List.Perm.refl _))).trans (List.perm_append_comm_assoc _ _ _)).trans ?_
  exact List.Perm.refl _
theorem gM_tl {w : WD} {g1 g2 : GG} {U : State} (h1 : kb g1) (h2 : kb g2) (hd : ∀ k ∈ gg_os g2, k ∉ gg_os g1) (hq : gg_qs g1 = []) (hD : gg_D g1 = gg_D g2) (k1 : va_K (gg_D g1) vwCl (tl w g1) U) (k2 : va_K (gg_D g2) vwCl (tl w g2) U) : va_K (gg_D (gM g1 g2)) vwCl (tl w (gM g1 g2)) U := by
  refine ⟨k1.1, ?_⟩
  have all : ∀ x ∈ tl w (gM g1 g2), ArrOfT U x.1 x.2 ∧ va_RA U x.1 x.2 := by
    have a1 : ∀ x ∈ tl w g1, ArrOfT U x.1 x.2 ∧ va_RA U x.1 x.2 := fun x hx => by obtain ⟨i, hi⟩ := List.mem_iff_getElem?.mp hx; exact k1.2 i x hi
    have a2 : ∀ x ∈ tl w g2, ArrOfT U x.1 x.2 ∧ va_RA U x.1 x.2 := fun x hx => by obtain ⟨i, hi⟩ := List.mem_iff_getElem?.mp hx; exact k2.2 i x hi
    intro x hx
    rcases List.mem_append.mp hx with h | h
    · obtain ⟨q, hq, rfl⟩ := List.mem_map.mp h
      rcases List.mem_append.mp hq with hq | hq
      · refine a1 _ (List.mem_append_left _ (List.mem_map.mpr ⟨q, hq, ?_⟩))
        show _ = ((if q / 100 ∈ gg_os g1 then gg_c g1 q else gg_c g2 q), _)
        rw [if_pos (h1.1 q hq)]
      · refine a2 _ (List.mem_append_left _ (List.mem_map.mpr ⟨q, hq, ?_⟩))
        show _ = ((if q / 100 ∈ gg_os g1 then gg_c g1 q else gg_c g2 q), _)
        rw [if_neg (hd _ (h2.1 q hq))]
    · rcases List.mem_append.mp h with h | h
      · obtain ⟨q, hq, rfl⟩ := List.mem_map.mp h
        rcases List.mem_append.mp hq with hq | hq
        · refine a1 _ (List.mem_append_right _ (List.mem_append_left _ (List.mem_map.mpr ⟨q, hq, ?_⟩)))
          show _ = ((if q / 100 ∈ gg_os g1 then gg_d g1 q else gg_d g2 q), _)
          rw [if_pos (h1.2 q hq)]
        · refine a2 _ (List.mem_append_right _ (List.mem_append_left _ (List.mem_map.mpr ⟨q, hq, ?_⟩)))
          show _ = ((if q / 100 ∈ gg_os g1 then gg_d g1 q else gg_d g2 q), _)
          rw [if_neg (hd _ (h2.2 q hq))]
      · refine a2 _ (List.mem_append_right _ (List.mem_append_right _ ?_))
        exact h
  exact fun i x hx => all x (List.mem_of_getElem? hx)
/-- transports of what is constant beside the class's world -/
theorem nw_form : ∀ x ∈ nw_tbl, (∃ a i b n d h, x = Cond.fieldLinkNest a i b n d h) ∨ ∃ a i y h, x = Cond.methodLinkNest a i y h := by
  intro x hx
  have h := (List.mem_filter.mp hx).2
  cases x <;> first | exact absurd h (by decide) | exact Or.inl ⟨_, _, _, _, _, _, rfl⟩ | exact Or.inr ⟨_, _, _, _, rfl⟩ | (simp [nw_is] at h)
theorem cs_warm (g : GG) (A : Nat → Prop) (u U : State) (hW : u.WarmedH U.vm) (hq : ∀ a : Nat, a < u.heap.size → ¬ A a → U.heap[a]? = u.heap[a]?) (h : cs_C g A u) : cs_C g A U := by
  obtain ⟨h1, h2, h3, h4, h5, h6, h7⟩ := h
  refine ⟨fun x hx => ?_, (h2.moved hW.alike).kept hq, (h3.moved hW.alike).kept hq, (h4.moved hW.alike).kept hq, (h5.moved hW.alike).kept hq, fun i q hi => vk_R.warm hW (h6 i q hi), (h7.moved hW.alike).kept hq⟩
  have h0 := h1 x hx
  rcases nw_form x hx with ⟨a, i, b, n, d, hh, rfl⟩ | ⟨a, i, y, hh, rfl⟩
  · exact va_Nw.warmF hW h0
  · exact va_Nw.warmM hW h0
theorem cs_same (g : GG) (A : Nat → Prop) (u U : State) (hv : u.vm = U.vm) (hh : u.heap = U.heap) (h : cs_C g A u) : cs_C g A U := by
  obtain ⟨h1, h2, h3, h4, h5, h6, h7⟩ := h
  have ha : u.vm.Alike U.vm := by rw [hv]; exact Vm.Alike.refl _
  have hq : ∀ a : Nat, a < u.heap.size → ¬ A a → U.heap[a]? = u.heap[a]? := fun a _ _ => by rw [hh]
  refine ⟨fun x hx => ?_, (h2.moved ha).kept hq, (h3.moved ha).kept hq, (h4.moved ha).kept hq, (h5.moved ha).kept hq, fun i q hi => vk_R.same hv.symm (h6 i q hi), (h7.moved ha).kept hq⟩
  have h0 := h1 x hx
  rcases nw_form x hx with ⟨a, i, b, n, d, hh, rfl⟩ | ⟨a, i, y, hh, rfl⟩
  · exact va_Nw.same rfl hv h0
  · exact va_Nw.same rfl hv h0
theorem cs_narrow {g g' : GG} {A B : Nat → Prop} {U : State} (ht : gg_t g' = gg_t g) (hk : gg_k g' = gg_k g) (hv : gg_v g' = gg_v g) (hAB : ∀ q, B q → A q) (h : cs_C g A U) : cs_C g' B U := by
  obtain ⟨h1, h2, h3, h4, h5, h6, h7⟩ := h
  unfold cs_C
  rw [ht, hk, hv]
  exact ⟨h1, h2.narrow hAB, h3.narrow hAB, h4.narrow hAB, h5.narrow hAB, h6, h7.narrow hAB⟩
theorem gd_C {g : GG} (hn : (gg_os g).Nodup ∧ (gg_as g).Nodup ∧ (gg_ls g).Nodup) {A : Nat → Prop} {S : St} (hD : va_D A (wl wd_C g S)) : gd wd_C g := by
  refine ⟨fun c => ?_, hn, wD_self hD, cs_warm g, cs_same g⟩
  show (ks_C c).length < 100
  match c with
  | 0 => decide
  | 1 => decide
  | 2 => decide
  | 3 => decide
  | 4 => decide
  | 5 => decide
  | n + 6 => exact (by decide : ([] : List Nat).length < 100)
