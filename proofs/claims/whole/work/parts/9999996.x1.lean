/-! THE CLASS'S CONSTRUCTOR: the world out of its pieces. -/
theorem hs_gQ {w : WD} {g : GG} {q z ci : Nat} {e : ClassId} (h : hs w g z ci) : hs w (gQ g q e) z ci := ⟨h.1, h.2.1, h.2.2.1, h.2.2.2.1, fun _ _ => List.mem_singleton.mpr rfl⟩
theorem k2_5 : ∀ f : Nat, (ks_C 5)[f]? = some 2 → f ∈ [0, 11, 13, 14, 15] := fun f h => (by decide : ∀ f < 16, (ks_C 5)[f]? = some 2 → f ∈ [0, 11, 13, 14, 15]) f (List.getElem?_eq_some_iff.mp h).1 h
theorem k3_5 : ∀ f : Nat, ¬ (ks_C 5)[f]? = some 3 := fun f h => (by decide : ∀ f < 16, ¬ (ks_C 5)[f]? = some 3) f (List.getElem?_eq_some_iff.mp h).1 h
theorem k2_2 : ∀ f : Nat, (ks_C 2)[f]? = some 2 → f ∈ [0] := fun f h => (by decide : ∀ f < 3, (ks_C 2)[f]? = some 2 → f ∈ [0]) f (List.getElem?_eq_some_iff.mp h).1 h
theorem k3_2 : ∀ f : Nat, ¬ (ks_C 2)[f]? = some 3 := fun f h => (by decide : ∀ f < 3, ¬ (ks_C 2)[f]? = some 3) f (List.getElem?_eq_some_iff.mp h).1 h
theorem k4_2 : ∀ f : Nat, ¬ (ks_C 2)[f]? = some 4 := fun f h => (by decide : ∀ f < 3, ¬ (ks_C 2)[f]? = some 4) f (List.getElem?_eq_some_iff.mp h).1 h
theorem perm_f {α : Type} (o z a1 a2 a3 a4 a5 : α) (ws wp wb U : List α) (h : U.Perm (ws ++ (wp ++ wb))) : (o :: z :: (((((((([a1] ++ ws) ++ wp) ++ [a2]) ++ [a3]) ++ [a4]) ++ [a5])) ++ wb)).Perm ((o :: [a1, a2, a3, a4, a5]) ++ (z :: U)) := by
  classical
  show List.Perm ([o] ++ ([z] ++ (((((((([a1] ++ ws) ++ wp) ++ [a2]) ++ [a3]) ++ [a4]) ++ [a5])) ++ wb))) (([o] ++ ([a1] ++ ([a2] ++ ([a3] ++ ([a4] ++ [a5]))))) ++ ([z] ++ U))
  rw [List.perm_iff_count]
  intro x
  have h2 := h.count_eq x
  simp only [List.count_append] at h2 ⊢
  omega
theorem vD_fst {A : Nat → Prop} {a b : va_W} (h : a.map Prod.fst = b.map Prod.fst) (hD : va_D A a) : va_D A b := by
  rw [vD_iff] at hD ⊢
  refine ⟨by rw [← h]; exact hD.1, fun x hx => ?_⟩
  have h1 : x.1 ∈ a.map Prod.fst := by rw [h]; exact List.mem_map_of_mem hx
  obtain ⟨y, hy, e⟩ := List.mem_map.mp h1
  rw [← e]
  exact hD.2 y hy
def pst (b gp : GG) (a6 : Nat) : Prop := gg_os gp = [6] ∧ kb gp ∧ ndG gp ∧ gg_qs gp = [] ∧ hs wd_C gp 6 2 ∧ gg_o gp 6 = a6 ∧ gg_D gp = gg_D b
theorem gO_pst {b : GG} {a6 : Nat} (qa ca ql cl : List Nat) : pst b (gO b 6 a6 qa ca ql cl [0] []) a6 := ⟨rfl, ⟨fun q hq => by
  have := List.mem_singleton.mp (show q ∈ [ky 6 0] from hq)
  subst this
  exact List.mem_singleton.mpr rfl, fun q hq => by cases hq⟩, ⟨(by decide : ([6] : List Nat).Nodup), (by decide : (([0] : List Nat).map (ky 6)).Nodup), List.nodup_nil⟩, rfl, ⟨rfl, List.mem_cons_self, fun f h => List.mem_map_of_mem (k2_2 f h), fun f h => absurd h (k3_2 f), fun f h => absurd h (k4_2 f)⟩, rfl, rfl⟩
def gown (b : GG) (h0 q1 q2 q3 q4 q5 : Nat) (c1 c2 c3 c4 c5 : ClassId) : GG := gO b 0 h0 [q1, 0, 0, 0, 0, 0, 0, 0, 0, 0, 0, q2, 0, q3, q4, q5] [c1, 0, 0, 0, 0, 0, 0, 0, 0, 0, 0, c2, 0, c3, c4, c5] [] [] [0, 11, 13, 14, 15] []
set_option maxRecDepth 100000 in
set_option maxHeartbeats 8000000 in
theorem asm {b gs gp b5 : GG} {S : St} {H : Heap} {A : Nat → Prop} {s : State} {h0 qs q1 q2 q3 q4 q5 a1 a2 a3 a6 a10 a11 : Nat} {cs c1 c2 c3 c4 c5 : ClassId} {f : Nat → Option Nat} (Sc : scp b a1 gs) (Pp : pst b gp a6) (B5 : gd wd_C b5) (T5 : allT b5) (K5 : kb b5) (Q5 : gg_qs b5 = []) (O5 : gg_os b5 = [14, 13, 12, 11, 10, 2, 4, 3, 5]) (C5 : ∀ j, j < 5 → hs wd_C b5 (10 + j) 0) (N5 : kn b5 b) (P5 : ∀ z ∈ [14, 13, 12, 11, 10], st_P S (ky z 0) = 2)
    (v4 : st_P S (ky 0 4) = 2) (v5 : st_P S (ky 0 5) = 3) (i1 : st_I S (ky 0 1) = 0) (i2 : st_I S (ky 0 2) = -1) (i10 : st_I S (ky 0 10) = 0) (i12 : st_I S (ky 0 12) = 0) (aA : ∀ f ∈ [0, 11, 13, 14, 15], st_A S (ky 0 f) = fun _ => 0)
    (w2 : gg_o b5 2 = a2) (w3 : gg_o b5 3 = a3) (w10 : gg_o b5 10 = a10) (w11 : gg_o b5 11 = a11) (hf : ∀ j, j < 3 → f j = some (gg_o b5 (12 + j)))
    (hP : va_P (gg_D b) vwCl ((h0, .inr (5, [.ref q1, .int 0, .int (-1), .ref a1, .ref a2, .ref a3, .ref a10, .ref a11, .ref a6, .ref qs, .int 0, .ref q2, .int 0, .ref q3, .ref q4, .ref q5])) :: (qs, .inl (cs, 3, .inr (.inr (.inr (.inr f))))) :: (((((((([(q1, .inl (c1, 2000, .inl (fun _ => 0)))] ++ wl wd_C gs S) ++ wl wd_C gp S) ++ [(q2, .inl (c2, 80, .inl (fun _ => 0)))]) ++ [(q3, .inl (c3, 8, .inl (fun _ => 0)))]) ++ [(q4, .inl (c4, 8, .inl (fun _ => 0)))]) ++ [(q5, .inl (c5, 300, .inl (fun _ => 0)))])) ++ wl wd_C b5 S)) H)
    (hD : va_D A ((h0, .inr (5, [.ref q1, .int 0, .int (-1), .ref a1, .ref a2, .ref a3, .ref a10, .ref a11, .ref a6, .ref qs, .int 0, .ref q2, .int 0, .ref q3, .ref q4, .ref q5])) :: (qs, .inl (cs, 3, .inr (.inr (.inr (.inr f))))) :: (((((((([(q1, .inl (c1, 2000, .inl (fun _ => 0)))] ++ wl wd_C gs S) ++ wl wd_C gp S) ++ [(q2, .inl (c2, 80, .inl (fun _ => 0)))]) ++ [(q3, .inl (c3, 8, .inl (fun _ => 0)))]) ++ [(q4, .inl (c4, 8, .inl (fun _ => 0)))]) ++ [(q5, .inl (c5, 300, .inl (fun _ => 0)))])) ++ wl wd_C b5 S)))
    (hK : va_K (gg_D b) vwCl [(c1, FieldType.int), (cs, FieldType.object RX0), (c2, FieldType.int), (c3, FieldType.int), (c4, FieldType.int), (c5, FieldType.int)] s) (hKs : va_K (gg_D b) vwCl (tl wd_C gs) s) (hKp : va_K (gg_D b) vwCl (tl wd_C gp) s) (hK5 : va_K (gg_D b) vwCl (tl wd_C b5) s) : ∃ g, gd wd_C g ∧ hAll g ∧ kn g b ∧ gg_o g 0 = h0 ∧ va_P (gg_D g) vwCl (wl wd_C g S) H ∧ va_D A (wl wd_C g S) ∧ va_K (gg_D g) vwCl (tl wd_C g) s := by
  obtain ⟨sG, sH, sK, sN, sO, sS, sQ⟩ := Sc
  obtain ⟨pS, pK, pN, pQ, pH, pO, pD⟩ := Pp
  have d1 : ∀ k ∈ gg_os b5, k ∉ gg_os gp := by rw [O5, pS]; decide
  have kp := gM_kb pK K5
  have d2 : ∀ k ∈ gg_os (gM gp b5), k ∉ gg_os gs := by
    show ∀ k ∈ gg_os gp ++ gg_os b5, k ∉ gg_os gs
    rw [O5, pS, sS]
    decide
  have kr := gM_kb sK kp
  have oR : gg_os (gM gs (gM gp b5)) = [1, 6, 14, 13, 12, 11, 10, 2, 4, 3, 5] := by
    show gg_os gs ++ (gg_os gp ++ gg_os b5) = _
    rw [O5, pS, sS]
    rfl
  have ko : kb (gown b h0 q1 q2 q3 q4 q5 c1 c2 c3 c4 c5) := ⟨fun q hq => by
    obtain ⟨f, hf, rfl⟩ := List.mem_map.mp (show q ∈ ([0, 11, 13, 14, 15] : List Nat).map (ky 0) from hq)
    rw [ky_div 0 ((by decide : ∀ f ∈ ([0, 11, 13, 14, 15] : List Nat), f < 100) f hf)]
    exact List.mem_singleton.mpr rfl, fun q hq => by cases hq⟩
  have d3 : ∀ k ∈ gg_os (gM gs (gM gp b5)), k ∉ gg_os (gown b h0 q1 q2 q3 q4 q5 c1 c2 c3 c4 c5) := by
    rw [oR]
    show ∀ k ∈ ([1, 6, 14, 13, 12, 11, 10, 2, 4, 3, 5] : List Nat), k ∉ ([0] : List Nat)
    decide
  have cb5 : clo b5 S := clo_b (by rw [O5]; decide) (by rw [O5]; decide) (fun z hz h10 => P5 z ((by decide : ∀ z ∈ ([14, 13, 12, 11, 10, 2, 4, 3, 5] : List Nat), 10 ≤ z → z ∈ ([14, 13, 12, 11, 10] : List Nat)) z (by rw [← O5]; exact hz) h10))
  have cp : clo gp S := clo_6 pS
  have cs1 : clo gs S := clo_1 sS
  have cr : clo (gM gs (gM gp b5)) S := gM_clo cs1 (gM_clo cp cb5)
  have wr : (wl wd_C (gM gs (gM gp b5)) S).Perm (wl wd_C gs S ++ (wl wd_C gp S ++ wl wd_C b5 S)) := (gM_wl (g2 := gM gp b5) sQ Q5 sK kp d2 cs1 (gM_clo cp cb5)).trans (List.Perm.append_left _ (gM_wl pQ Q5 pK K5 d1 cp cb5))
  have wg := gQ_wl (go := gown b h0 q1 q2 q3 q4 q5 c1 c2 c3 c4 c5) (gr := gM gs (gM gp b5)) (q := qs) (e := cs) (S := S) rfl rfl Q5 ko kr d3 cr
  have gR : ∀ z, z ∈ ([1, 6, 14, 13, 12, 11, 10, 2, 4, 3, 5] : List Nat) → gg_o (gQ (gM (gown b h0 q1 q2 q3 q4 q5 c1 c2 c3 c4 c5) (gM gs (gM gp b5))) qs cs) z = gg_o (gM gs (gM gp b5)) z := fun z hz => gM_o2 (d3 z (by rw [oR]; exact hz))
  have g1 : gg_o (gQ (gM (gown b h0 q1 q2 q3 q4 q5 c1 c2 c3 c4 c5) (gM gs (gM gp b5))) qs cs) 1 = a1 := (gR 1 (by decide)).trans ((gM_o1 (by rw [sS]; decide)).trans sO)
  have gB : ∀ z, z ∈ ([14, 13, 12, 11, 10, 2, 4, 3, 5] : List Nat) → gg_o (gQ (gM (gown b h0 q1 q2 q3 q4 q5 c1 c2 c3 c4 c5) (gM gs (gM gp b5))) qs cs) z = gg_o b5 z := fun z hz => (gR z ((by decide : ∀ z ∈ ([14, 13, 12, 11, 10, 2, 4, 3, 5] : List Nat), z ∈ ([1, 6, 14, 13, 12, 11, 10, 2, 4, 3, 5] : List Nat)) z hz)).trans ((gM_o2 (d2 z (List.mem_append_right _ (by rw [O5]; exact hz)))).trans (gM_o2 (d1 z (by rw [O5]; exact hz))))
  have g6 : gg_o (gQ (gM (gown b h0 q1 q2 q3 q4 q5 c1 c2 c3 c4 c5) (gM gs (gM gp b5))) qs cs) 6 = a6 := (gR 6 (by decide)).trans ((gM_o2 (d2 6 (List.mem_append_left _ (by rw [pS]; decide)))).trans ((gM_o1 (by rw [pS]; decide)).trans pO))
  have nd := gM_nd ko kr d3 ⟨(by decide : ([0] : List Nat).Nodup), (by decide : (([0, 11, 13, 14, 15] : List Nat).map (ky 0)).Nodup), List.nodup_nil⟩ (gM_nd sK kp d2 sG.2.1 (gM_nd pK K5 d1 pN B5.2.1))
  have hk0 : va_K (gg_D b) vwCl (tl wd_C (gown b h0 q1 q2 q3 q4 q5 c1 c2 c3 c4 c5)) s := hK.sub [0, 2, 3, 4, 5] rfl
  have hkr : va_K (gg_D b) vwCl (tl wd_C (gM gs (gM gp b5))) s := by
    have x1 : va_K (gg_D gp) vwCl (tl wd_C gp) s := by rw [pD]; exact hKp
    have x2 : va_K (gg_D b5) vwCl (tl wd_C b5) s := by rw [N5.1]; exact hK5
    have x3 := gM_tl pK K5 d1 pQ (by rw [pD, N5.1]) x1 x2
    have x4 : va_K (gg_D gs) vwCl (tl wd_C gs) s := by rw [sN.1]; exact hKs
    have x5 := gM_tl sK kp d2 sQ (by rw [sN.1]; exact pD.symm) x4 x3
    have e5 : gg_D (gM gs (gM gp b5)) = gg_D b := sN.1
    rw [e5] at x5
    exact x5
  have hkf : va_K (gg_D b) vwCl (tl wd_C (gQ (gM (gown b h0 q1 q2 q3 q4 q5 c1 c2 c3 c4 c5) (gM gs (gM gp b5))) qs cs)) s := gQ_tl (D := gg_D b) Q5 (gM_tl (g1 := gown b h0 q1 q2 q3 q4 q5 c1 c2 c3 c4 c5) (g2 := gM gs (gM gp b5)) ko kr d3 rfl sN.1.symm hk0 (by
    have e5 : gg_D (gM gs (gM gp b5)) = gg_D b := sN.1
    rw [e5]
    exact hkr)) (hK.sub [1] rfl)
  have eo : e_o wd_C (gQ (gM (gown b h0 q1 q2 q3 q4 q5 c1 c2 c3 c4 c5) (gM gs (gM gp b5))) qs cs) S 0 = (h0, .inr (5, [.ref q1, .int 0, .int (-1), .ref a1, .ref a2, .ref a3, .ref a10, .ref a11, .ref a6, .ref qs, .int 0, .ref q2, .int 0, .ref q3, .ref q4, .ref q5])) := by
    have e1 : e_o wd_C (gQ (gM (gown b h0 q1 q2 q3 q4 q5 c1 c2 c3 c4 c5) (gM gs (gM gp b5))) qs cs) S 0 = (h0, .inr (5, [.ref q1, .int (st_I S (ky 0 1)), .int (st_I S (ky 0 2)), .ref (gg_o (gQ (gM (gown b h0 q1 q2 q3 q4 q5 c1 c2 c3 c4 c5) (gM gs (gM gp b5))) qs cs) 1), .ref (gg_o (gQ (gM (gown b h0 q1 q2 q3 q4 q5 c1 c2 c3 c4 c5) (gM gs (gM gp b5))) qs cs) (st_P S (ky 0 4))), .ref (gg_o (gQ (gM (gown b h0 q1 q2 q3 q4 q5 c1 c2 c3 c4 c5) (gM gs (gM gp b5))) qs cs) (st_P S (ky 0 5))), .ref (gg_o (gQ (gM (gown b h0 q1 q2 q3 q4 q5 c1 c2 c3 c4 c5) (gM gs (gM gp b5))) qs cs) 10), .ref (gg_o (gQ (gM (gown b h0 q1 q2 q3 q4 q5 c1 c2 c3 c4 c5) (gM gs (gM gp b5))) qs cs) 11), .ref (gg_o (gQ (gM (gown b h0 q1 q2 q3 q4 q5 c1 c2 c3 c4 c5) (gM gs (gM gp b5))) qs cs) 6), .ref qs, .int (st_I S (ky 0 10)), .ref q2, .int (st_I S (ky 0 12)), .ref q3, .ref q4, .ref q5])) := rfl
    rw [e1, v4, v5, i1, i2, i10, i12, g1, g6, gB 2 (by decide), gB 3 (by decide), gB 10 (by decide), gB 11 (by decide), w2, w3, w10, w11]
  have ea : (gg_as (gown b h0 q1 q2 q3 q4 q5 c1 c2 c3 c4 c5)).map (e_a wd_C (gown b h0 q1 q2 q3 q4 q5 c1 c2 c3 c4 c5) S) = [(q1, .inl (c1, 2000, .inl (fun _ => 0))), (q2, .inl (c2, 80, .inl (fun _ => 0))), (q3, .inl (c3, 8, .inl (fun _ => 0))), (q4, .inl (c4, 8, .inl (fun _ => 0))), (q5, .inl (c5, 300, .inl (fun _ => 0)))] := by
    have e1 : (gg_as (gown b h0 q1 q2 q3 q4 q5 c1 c2 c3 c4 c5)).map (e_a wd_C (gown b h0 q1 q2 q3 q4 q5 c1 c2 c3 c4 c5) S) = [(q1, .inl (c1, 2000, .inl (st_A S (ky 0 0)))), (q2, .inl (c2, 80, .inl (st_A S (ky 0 11)))), (q3, .inl (c3, 8, .inl (st_A S (ky 0 13)))), (q4, .inl (c4, 8, .inl (st_A S (ky 0 14)))), (q5, .inl (c5, 300, .inl (st_A S (ky 0 15))))] := rfl
    rw [e1, aA 0 (by decide), aA 11 (by decide), aA 13 (by decide), aA 14 (by decide), aA 15 (by decide)]
  have eq : e_q wd_C (gQ (gM (gown b h0 q1 q2 q3 q4 q5 c1 c2 c3 c4 c5) (gM gs (gM gp b5))) qs cs) 0 = (qs, .inl (cs, 3, .inr (.inr (.inr (.inr (fun j => some (gg_o (gQ (gM (gown b h0 q1 q2 q3 q4 q5 c1 c2 c3 c4 c5) (gM gs (gM gp b5))) qs cs) (12 + j)))))))) := rfl
  rw [eo, ea, eq] at wg
  have hfq : ∀ j, j < 3 → f j = some (gg_o (gQ (gM (gown b h0 q1 q2 q3 q4 q5 c1 c2 c3 c4 c5) (gM gs (gM gp b5))) qs cs) (12 + j)) := fun j hj => by
    rw [gB (12 + j) (by
      have : j = 0 ∨ j = 1 ∨ j = 2 := by omega
      rcases this with rfl | rfl | rfl <;> decide)]
    exact hf j hj
  have p1 := perm_f (h0, (.inr (5, [.ref q1, .int 0, .int (-1), .ref a1, .ref a2, .ref a3, .ref a10, .ref a11, .ref a6, .ref qs, .int 0, .ref q2, .int 0, .ref q3, .ref q4, .ref q5]) : va_E)) (qs, .inl (cs, 3, .inr (.inr (.inr (.inr f))))) (q1, .inl (c1, 2000, .inl (fun _ => 0))) (q2, .inl (c2, 80, .inl (fun _ => 0))) (q3, .inl (c3, 8, .inl (fun _ => 0))) (q4, .inl (c4, 8, .inl (fun _ => 0))) (q5, .inl (c5, 300, .inl (fun _ => 0))) (wl wd_C gs S) (wl wd_C gp S) (wl wd_C b5 S) (wl wd_C (gM gs (gM gp b5)) S) wr
  have P2 := vP_perm p1 hP
  have D2 := vD_perm p1 hD
  have P3 : va_P (gg_D b) vwCl (wl wd_C (gQ (gM (gown b h0 q1 q2 q3 q4 q5 c1 c2 c3 c4 c5) (gM gs (gM gp b5))) qs cs) S) H := by
    obtain ⟨x1, x2⟩ := vP_app.mp P2
    refine vP_perm wg.symm (vP_app.mpr ⟨x1, ?_⟩)
    rw [vP_iff] at x2 ⊢
    intro x hx
    rcases List.mem_cons.mp hx with rfl | hx
    · exact vat_q hfq (x2 _ List.mem_cons_self)
    · exact x2 x (List.mem_cons_of_mem _ hx)
  have D3 : va_D A (wl wd_C (gQ (gM (gown b h0 q1 q2 q3 q4 q5 c1 c2 c3 c4 c5) (gM gs (gM gp b5))) qs cs) S) := by
    refine vD_perm wg.symm (vD_fst ?_ D2)
    rfl
  have hgd : gd wd_C (gQ (gM (gown b h0 q1 q2 q3 q4 q5 c1 c2 c3 c4 c5) (gM gs (gM gp b5))) qs cs) := gd_C nd D3
  refine ⟨gQ (gM (gown b h0 q1 q2 q3 q4 q5 c1 c2 c3 c4 c5) (gM gs (gM gp b5))) qs cs, hgd, ⟨?_, hs_gQ (hs_gM2 (hs_gM1 sH sQ)), hs_gQ (hs_gM2 (hs_gM2 (hs_gM1 pH pQ))), fun j hj => hs_gQ (hs_gM2 (hs_gM2 (hs_gM2 (C5 j hj)))), ⟨hs_gQ (hs_gM2 (hs_gM2 (hs_gM2 T5.1.1))), hs_gQ (hs_gM2 (hs_gM2 (hs_gM2 T5.1.2)))⟩, ⟨hs_gQ (hs_gM2 (hs_gM2 (hs_gM2 T5.2.1))), hs_gQ (hs_gM2 (hs_gM2 (hs_gM2 T5.2.2)))⟩⟩, ⟨rfl, rfl, rfl, rfl⟩, rfl, P3, D3, hkf⟩
  exact ⟨rfl, List.mem_append_left _ List.mem_cons_self, fun f h => List.mem_append_left _ (List.mem_map_of_mem (k2_5 f h)), fun f h => absurd h (k3_5 f), fun f h => List.mem_singleton.mpr rfl⟩
