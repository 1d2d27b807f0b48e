/-! WORLDS PUT TOGETHER, WHOLE. -/
theorem ks_d {c f d : Nat} (h : (ks_C c)[f]? = some d) : f < (ks_C c).length ∧ d = (ks_C c).getD f 0 := ⟨(List.getElem?_eq_some_iff.mp h).1, by rw [List.getD_eq_getElem?_getD, h]; rfl⟩
/-- what a world's objects point at is in it -/
def clo (g : GG) (S : St) : Prop := ∀ k ∈ gg_os g, ∀ f d : Nat, (ks_C (cl_C k))[f]? = some d → d < 4 ∨ (d = 5 ∧ st_P S (ky k f) ∈ gg_os g) ∨ (6 ≤ d ∧ d < 200 ∧ d - 100 ∈ gg_os g) ∨ (200 ≤ d ∧ k + (d - 200) ∈ gg_os g)
theorem kv_6 (g : GG) (S : St) (k f n : Nat) (h : 6 ≤ n) : kv g S k f n = if n < 200 then .ref (gg_o g (n - 100)) else .ref (gg_o g (k + (n - 200))) := by
  obtain ⟨m, rfl⟩ : ∃ m, n = m + 6 := ⟨n - 6, by omega⟩
  rfl
theorem fl_clo {g g' : GG} {S : St} {k : Nat} (ho : ∀ z ∈ gg_os g, gg_o g' z = gg_o g z) (ha : ∀ f, f < 100 → gg_a g' (ky k f) = gg_a g (ky k f) ∧ gg_l g' (ky k f) = gg_l g (ky k f)) (hk : k ∈ gg_os g) (hc : clo g S) : fl wd_C g' S k = fl wd_C g S k := by
  unfold fl
  refine List.map_congr_left (fun f hf => ?_)
  have hf1 : f < (ks_C (cl_C k)).length := List.mem_range.mp hf
  have hf2 : f < 100 := Nat.lt_trans hf1 (ks_len _)
  obtain ⟨a1, a2⟩ := ha f hf2
  have hd : (ks_C (cl_C k))[f]? = some ((ks_C (cl_C k)).getD f 0) := by
    rw [List.getD_eq_getElem?_getD, List.getElem?_eq_getElem hf1]
    rfl
  show kv g' S k f ((ks_C (cl_C k)).getD f 0) = kv g S k f ((ks_C (cl_C k)).getD f 0)
  have h := hc k hk f _ hd
  generalize (ks_C (cl_C k)).getD f 0 = d at h ⊢
  rcases h with h | ⟨h, h2⟩ | ⟨h, h2, h3⟩ | ⟨h, h2⟩
  · have h4 : d = 0 ∨ d = 1 ∨ d = 2 ∨ d = 3 := by omega
    rcases h4 with rfl | rfl | rfl | rfl
    · rfl
    · rfl
    · show Value.ref (gg_a g' (ky k f)) = Value.ref (gg_a g (ky k f))
      rw [a1]
    · show Value.ref (gg_l g' (ky k f)) = Value.ref (gg_l g (ky k f))
      rw [a2]
  · subst h
    show Value.ref (gg_o g' (st_P S (ky k f))) = Value.ref (gg_o g (st_P S (ky k f)))
    rw [ho _ h2]
  · rw [kv_6 _ _ _ _ _ h, kv_6 _ _ _ _ _ h, if_pos h2, if_pos h2, ho _ h3]
  · rw [kv_6 _ _ _ _ _ (by omega), kv_6 _ _ _ _ _ (by omega), if_neg (by omega), if_neg (by omega), ho _ h2]
theorem gM_o1 {g1 g2 : GG} {z : Nat} (h : z ∈ gg_os g1) : gg_o (gM g1 g2) z = gg_o g1 z := if_pos h
theorem gM_o2 {g1 g2 : GG} {z : Nat} (h : z ∉ gg_os g1) : gg_o (gM g1 g2) z = gg_o g2 z := if_neg h
theorem gM_a1 {g1 g2 : GG} {k f : Nat} (h : k ∈ gg_os g1) (hf : f < 100) : gg_a (gM g1 g2) (ky k f) = gg_a g1 (ky k f) ∧ gg_l (gM g1 g2) (ky k f) = gg_l g1 (ky k f) := by
  have h1 : ky k f / 100 ∈ gg_os g1 := by rw [ky_div k hf]; exact h
  exact ⟨if_pos h1, if_pos h1⟩
theorem gM_a2 {g1 g2 : GG} {k f : Nat} (h : k ∉ gg_os g1) (hf : f < 100) : gg_a (gM g1 g2) (ky k f) = gg_a g2 (ky k f) ∧ gg_l (gM g1 g2) (ky k f) = gg_l g2 (ky k f) := by
  have h1 : ¬ ky k f / 100 ∈ gg_os g1 := by rw [ky_div k hf]; exact h
  exact ⟨if_neg h1, if_neg h1⟩
theorem gM_wl {g1 g2 : GG} {S : St} (q1 : gg_qs g1 = []) (q2 : gg_qs g2 = []) (k1 : kb g1) (k2 : kb g2) (hd : ∀ k ∈ gg_os g2, k ∉ gg_os g1) (c1 : clo g1 S) (c2 : clo g2 S) : (wl wd_C (gM g1 g2) S).Perm (wl wd_C g1 S ++ wl wd_C g2 S) := by
  have h := gM_perm (w := wd_C) (S := S) q2 k1 k2 hd (fun k hk => fl_clo (fun z hz => gM_o2 (fun hz1 => hd z hz hz1)) (fun f hf => gM_a2 (hd k hk) hf) hk c2)
  refine h.trans (List.Perm.append_right _ (List.Perm.of_eq ?_))
  have e2 : wl wd_C g1 S = (gg_os g1).map (e_o wd_C g1 S) ++ ((gg_as g1).map (e_a wd_C g1 S) ++ (gg_ls g1).map (e_l wd_C g1 S)) := by
    unfold wl
    rw [q1]
    show _ ++ (_ ++ (_ ++ [])) = _
    rw [List.append_nil]
  rw [e2]
  congr 1
  refine List.map_congr_left (fun k hk => ?_)
  rw [fl_clo (g := g1) (fun z hz => gM_o1 hz) (fun f hf => gM_a1 hk hf) hk c1]
  rfl
theorem gM_clo {g1 g2 : GG} {S : St} (c1 : clo g1 S) (c2 : clo g2 S) : clo (gM g1 g2) S := by
  intro k hk f d h
  rcases List.mem_append.mp hk with hk | hk
  · rcases c1 k hk f d h with h | ⟨h, h2⟩ | ⟨h, h2, h3⟩ | ⟨h, h2⟩
    · exact Or.inl h
    · exact Or.inr (Or.inl ⟨h, List.mem_append_left _ h2⟩)
    · exact Or.inr (Or.inr (Or.inl ⟨h, h2, List.mem_append_left _ h3⟩))
    · exact Or.inr (Or.inr (Or.inr ⟨h, List.mem_append_left _ h2⟩))
  · rcases c2 k hk f d h with h | ⟨h, h2⟩ | ⟨h, h2, h3⟩ | ⟨h, h2⟩
    · exact Or.inl h
    · exact Or.inr (Or.inl ⟨h, List.mem_append_right _ h2⟩)
    · exact Or.inr (Or.inr (Or.inl ⟨h, h2, List.mem_append_right _ h3⟩))
    · exact Or.inr (Or.inr (Or.inr ⟨h, List.mem_append_right _ h2⟩))
abbrev ndG (g : GG) : Prop := (gg_os g).Nodup ∧ (gg_as g).Nodup ∧ (gg_ls g).Nodup
theorem gM_nd {g1 g2 : GG} (k1 : kb g1) (k2 : kb g2) (hd : ∀ k ∈ gg_os g2, k ∉ gg_os g1) (n1 : ndG g1) (n2 : ndG g2) : ndG (gM g1 g2) :=
  ⟨List.nodup_append.mpr ⟨n1.1, n2.1, fun x hx y hy e => hd y hy (by rw [← e]; exact hx)⟩, List.nodup_append.mpr ⟨n1.2.1, n2.2.1, fun x hx y hy e => hd _ (k2.1 y hy) (by rw [← e]; exact k1.1 x hx)⟩, List.nodup_append.mpr ⟨n1.2.2, n2.2.2, fun x hx y hy e => hd _ (k2.2 y hy) (by rw [← e]; exact k1.2 x hx)⟩⟩
/-- a world with the array of courts -/
def gQ (g : GG) (q : Nat) (e : ClassId) : GG := (gg_D g, gg_o g, gg_a g, gg_c g, gg_l g, gg_d g, q, e, gg_os g, gg_as g, gg_ls g, [0], gg_t g, gg_k g, gg_v g)
theorem perm_q {α : Type} (o z : α) (O A B L : List α) : ((o :: O) ++ ((A ++ B) ++ (L ++ [z]))).Perm (o :: (A ++ (z :: (O ++ (B ++ L))))) := by
  refine List.Perm.cons o ?_
  have h1 : (O ++ ((A ++ B) ++ (L ++ [z]))).Perm (A ++ (O ++ (B ++ (L ++ [z])))) := by
    rw [List.append_assoc A B]
    exact List.perm_append_comm_assoc _ _ _
  refine h1.trans (List.Perm.append_left A ?_)
  have h2 : O ++ (B ++ (L ++ [z])) = (O ++ (B ++ L)) ++ [z] := by simp only [List.append_assoc]
  rw [h2]
  exact List.perm_append_comm
theorem gQ_wl {go gr : GG} {q : Nat} {e : ClassId} {S : St} (ho : gg_os go = [0]) (hl : gg_ls go = []) (q2 : gg_qs gr = []) (k1 : kb go) (k2 : kb gr) (hd : ∀ k ∈ gg_os gr, k ∉ gg_os go) (c2 : clo gr S) : (wl wd_C (gQ (gM go gr) q e) S).Perm (e_o wd_C (gQ (gM go gr) q e) S 0 :: ((gg_as go).map (e_a wd_C go S) ++ (e_q wd_C (gQ (gM go gr) q e) 0 :: wl wd_C gr S))) := by
  have eo : (gg_os (gQ (gM go gr) q e)).map (e_o wd_C (gQ (gM go gr) q e) S) = e_o wd_C (gQ (gM go gr) q e) S 0 :: (gg_os gr).map (e_o wd_C gr S) := by
    show (gg_os go ++ gg_os gr).map _ = _
    rw [ho, List.singleton_append, List.map_cons]
    congr 1
    refine List.map_congr_left (fun k hk => ?_)
    show (gg_o (gQ (gM go gr) q e) k, Sum.inr (cl_C k, fl wd_C (gQ (gM go gr) q e) S k)) = (gg_o gr k, Sum.inr (cl_C k, fl wd_C gr S k))
    rw [fl_clo (g := gr) (g' := gQ (gM go gr) q e) (fun z hz => gM_o2 (hd z hz)) (fun f hf => gM_a2 (hd k hk) hf) hk c2, show gg_o (gQ (gM go gr) q e) k = gg_o gr k from gM_o2 (hd k hk)]
  have ea : (gg_as (gQ (gM go gr) q e)).map (e_a wd_C (gQ (gM go gr) q e) S) = (gg_as go).map (e_a wd_C go S) ++ (gg_as gr).map (e_a wd_C gr S) := by
    show (gg_as go ++ gg_as gr).map _ = _
    rw [List.map_append]
    congr 1
    · refine List.map_congr_left (fun x hx => ?_)
      show ((if x / 100 ∈ gg_os go then gg_a go x else gg_a gr x), Sum.inl ((if x / 100 ∈ gg_os go then gg_c go x else gg_c gr x), _)) = _
      rw [if_pos (k1.1 x hx), if_pos (k1.1 x hx)]
      rfl
    · refine List.map_congr_left (fun x hx => ?_)
      show ((if x / 100 ∈ gg_os go then gg_a go x else gg_a gr x), Sum.inl ((if x / 100 ∈ gg_os go then gg_c go x else gg_c gr x), _)) = _
      rw [if_neg (hd _ (k2.1 x hx)), if_neg (hd _ (k2.1 x hx))]
      rfl
  have el : (gg_ls (gQ (gM go gr) q e)).map (e_l wd_C (gQ (gM go gr) q e) S) = (gg_ls gr).map (e_l wd_C gr S) := by
    show (gg_ls go ++ gg_ls gr).map _ = _
    rw [hl, List.nil_append]
    refine List.map_congr_left (fun x hx => ?_)
    show ((if x / 100 ∈ gg_os go then gg_l go x else gg_l gr x), Sum.inl ((if x / 100 ∈ gg_os go then gg_d go x else gg_d gr x), _)) = _
    rw [if_neg (hd _ (k2.2 x hx)), if_neg (hd _ (k2.2 x hx))]
    rfl
  have e0 : wl wd_C (gQ (gM go gr) q e) S = (gg_os (gQ (gM go gr) q e)).map (e_o wd_C (gQ (gM go gr) q e) S) ++ ((gg_as (gQ (gM go gr) q e)).map (e_a wd_C (gQ (gM go gr) q e) S) ++ ((gg_ls (gQ (gM go gr) q e)).map (e_l wd_C (gQ (gM go gr) q e) S) ++ [e_q wd_C (gQ (gM go gr) q e) 0])) := rfl
  have er : wl wd_C gr S = (gg_os gr).map (e_o wd_C gr S) ++ ((gg_as gr).map (e_a wd_C gr S) ++ (gg_ls gr).map (e_l wd_C gr S)) := by
    unfold wl
    rw [q2]
    show _ ++ (_ ++ (_ ++ [])) = _
    rw [List.append_nil]
  rw [e0, eo, ea, el, er]
  exact perm_q _ _ _ _ _ _
theorem gQ_tl {g : GG} {q : Nat} {e : ClassId} {D : va_G} {U : State} (q2 : gg_qs g = []) (h1 : va_K D vwCl (tl wd_C g) U) (h2 : va_K D vwCl [(e, FieldType.object RX0)] U) : va_K D vwCl (tl wd_C (gQ g q e)) U := by
  have e1 : tl wd_C (gQ g q e) = tl wd_C g ++ [(e, FieldType.object RX0)] := by
    show _ ++ (_ ++ [(e, FieldType.object RX0)]) = (_ ++ (_ ++ (gg_qs g).map _)) ++ _
    rw [q2, List.map_nil, List.append_nil, List.append_assoc]
    rfl
  rw [e1]
  exact h1.app h2
theorem wl_on {g : GG} {K : Nat → Prop} {S S' : St} (hb : kb g) (o : on K S S') (hk : ∀ q, q / 100 ∈ gg_os g → ¬ K q) : wl wd_C g S = wl wd_C g S' := wl_S hb ks_len (fun q hq => by
  have h := o q (hk q hq)
  exact ⟨h.1.symm, h.2.2.1.symm, h.2.2.2.2.symm, h.2.1.symm, h.2.2.2.1.symm⟩)
theorem arrV_cg {c : ClassId} {n : Nat} {f f' : Nat → Value} (h : ∀ j, j < n → f j = f' j) : arrV c n f = arrV c n f' := by
  have e : (fun j : Fin n => f j.val) = fun j : Fin n => f' j.val := funext (fun j => h j.val j.isLt)
  unfold arrV
  rw [e]
theorem vat_q {D : va_G} {cl : List vw_C} {q : Nat} {c : ClassId} {n : Nat} {f f' : Nat → Option Nat} {H : Heap} (h : ∀ j, j < n → f j = f' j) (hP : va_at D cl (q, .inl (c, n, .inr (.inr (.inr (.inr f))))) H) : va_at D cl (q, .inl (c, n, .inr (.inr (.inr (.inr f'))))) H := by
  have h1 : H[q]? = some (arrV c n (fun j => va_rf (f j))) := hP
  show H[q]? = some (arrV c n (fun j => va_rf (f' j)))
  rw [h1, arrV_cg (fun j hj => by rw [h j hj])]
/-! closed worlds -/
theorem ks4 {f d : Nat} (h : (ks_C 4)[f]? = some d) : d < 4 ∨ d = 202 := by
  obtain ⟨h1, rfl⟩ := ks_d h
  exact (by decide : ∀ f < 19, (ks_C 4).getD f 0 < 4 ∨ (ks_C 4).getD f 0 = 202) f h1
theorem ks1 {f d : Nat} (h : (ks_C 1)[f]? = some d) : d < 4 := by
  obtain ⟨h1, rfl⟩ := ks_d h
  exact (by decide : ∀ f < 7, (ks_C 1).getD f 0 < 4) f h1
theorem ks2 {f d : Nat} (h : (ks_C 2)[f]? = some d) : d < 4 := by
  obtain ⟨h1, rfl⟩ := ks_d h
  exact (by decide : ∀ f < 3, (ks_C 2).getD f 0 < 4) f h1
theorem ks3 {f d : Nat} (h : (ks_C 3)[f]? = some d) : d < 4 := by
  obtain ⟨h1, rfl⟩ := ks_d h
  exact (by decide : ∀ f < 15, (ks_C 3).getD f 0 < 4) f h1
theorem ks0 {f d : Nat} (h : (ks_C 0)[f]? = some d) : d < 4 ∨ (d = 5 ∧ f = 0) := by
  obtain ⟨h1, rfl⟩ := ks_d h
  exact (by decide : ∀ f < 9, (ks_C 0).getD f 0 < 4 ∨ ((ks_C 0).getD f 0 = 5 ∧ f = 0)) f h1
theorem clo_T {g : GG} {S : St} {k : Nat} (hk : k = 2 ∨ k = 3) (ho : gg_os g = [k, k + 2]) : clo g S := by
  intro z hz f d h
  rw [ho] at hz ⊢
  rcases List.mem_cons.mp hz with rfl | hz
  · have hc : cl_C z = 4 := by rcases hk with rfl | rfl <;> rfl
    rw [hc] at h
    rcases ks4 h with h | rfl
    · exact Or.inl h
    · exact Or.inr (Or.inr (Or.inr ⟨by decide, List.mem_cons_of_mem _ (List.mem_singleton.mpr rfl)⟩))
  · have hz2 := List.mem_singleton.mp hz
    subst hz2
    have hc : cl_C (k + 2) = 1 := by rcases hk with rfl | rfl <;> rfl
    rw [hc] at h
    exact Or.inl (ks1 h)
theorem clo_1 {g : GG} {S : St} (ho : gg_os g = [1]) : clo g S := by
  intro z hz f d h
  rw [ho] at hz
  have hz2 := List.mem_singleton.mp hz
  subst hz2
  exact Or.inl (ks3 h)
theorem clo_6 {g : GG} {S : St} (ho : gg_os g = [6]) : clo g S := by
  intro z hz f d h
  rw [ho] at hz
  have hz2 := List.mem_singleton.mp hz
  subst hz2
  exact Or.inl (ks2 h)
theorem clo_b {g : GG} {S : St} (ho : ∀ z ∈ gg_os g, z ∈ [2, 3, 4, 5, 10, 11, 12, 13, 14]) (h4 : 2 ∈ gg_os g ∧ 3 ∈ gg_os g ∧ 4 ∈ gg_os g ∧ 5 ∈ gg_os g) (hp : ∀ z ∈ gg_os g, 10 ≤ z → st_P S (ky z 0) = 2) : clo g S := by
  intro z hz f d h
  have hz2 : (z = 2 ∨ z = 3) ∨ (z = 4 ∨ z = 5) ∨ (10 ≤ z ∧ cl_C z = 0) := (by decide : ∀ z ∈ ([2, 3, 4, 5, 10, 11, 12, 13, 14] : List Nat), (z = 2 ∨ z = 3) ∨ (z = 4 ∨ z = 5) ∨ (10 ≤ z ∧ cl_C z = 0)) z (ho z hz)
  rcases hz2 with hz2 | hz2 | ⟨h10, hc⟩
  · have hc : cl_C z = 4 := by rcases hz2 with rfl | rfl <;> rfl
    rw [hc] at h
    rcases ks4 h with h | rfl
    · exact Or.inl h
    · refine Or.inr (Or.inr (Or.inr ⟨by decide, ?_⟩))
      rcases hz2 with rfl | rfl
      · exact h4.2.2.1
      · exact h4.2.2.2
  · have hc : cl_C z = 1 := by rcases hz2 with rfl | rfl <;> rfl
    rw [hc] at h
    exact Or.inl (ks1 h)
  · rw [hc] at h
    rcases ks0 h with h | ⟨rfl, rfl⟩
    · exact Or.inl h
    · refine Or.inr (Or.inl ⟨rfl, ?_⟩)
      rw [hp z hz h10]
      exact h4.1
theorem pm1 {α : Type} (a R W X : List α) : ((a ++ (R ++ W)) ++ X).Perm (a ++ ((R ++ X) ++ W)) := by
  rw [List.append_assoc]
  refine List.Perm.append_left a ?_
  rw [List.append_assoc, List.append_assoc]
  exact List.Perm.append_left R List.perm_append_comm
theorem pm2 {α : Type} (o z : α) (Y : List α) : ((o :: Y) ++ [z]).Perm (o :: z :: Y) := List.Perm.cons o List.perm_append_comm
/-! A constructor called out of the class's own: by what it leaves. -/
section RS
variable {p : Program} {l : Launch} {e : Env} {R : Room} {s : State} {m : MethodId} {args : Array Value} {below : List Frame} {meth : Method} {c : Code} {H : Heap} {locs : List Loc} {cells slots : Nat} {Q : State → Prop}
variable {cc : ByteArray} {nL pc : Nat} {own : String} {ls : Array Slot} {rest : List Value} {A : Nat → Prop} {b : GG} {pre : va_W} {q : Nat}
theorem r_sub {ci index maxL mc ms : Nat} {fs : List Value} {y : MethodName} {bytes : ByteArray} {rm : Room} {post : GG → St → Prop} (hx : p.tables.exec = Jvm.exec) (hb : c.code = cc) (hml : c.maxLocals = nL) (hown : s.vm.findClass own = some m.cls) (hts : ∀ z ∈ gw_tbl, z.before args s = true) (hcs : cs_C b A s) (lk : LnI own index "LateMirrors" y bytes maxL 0) (hM : Met l y (Cond.code y bytes maxL none :: gw_tbl) rm (va_Pc [.ref q] (pr_n b q H.size ci fs)) (qc_n q H.size post) mc ms (nwA q H.size)) (hrm : rm.cells = mc ∧ rm.slots = ms) (hR : rm.frames + 1 ≤ R.frames ∧ 8 + (maxL + 11) + rm.locals ≤ R.locals) (hpD : ∀ g S, post g S → gg_D g = gg_D b) (hP : va_P (gg_D b) vwCl (pre ++ [(q, .inr (ci, fs))]) H) (hD : va_D A (pre ++ [(q, .inr (ci, fs))])) (hK : va_K (gg_D b) vwCl [] s) (hS : va_S A s.heap H locs) (hA : ∀ z, s.heap.size ≤ z → A z) (hsz : ls.size = nL) (hroom : (rest.map fun v => v.category).sum ≤ 8) (hdg : decode cc pc = .ok (.invokespecial index, 3)) (hfit : cells + mc ≤ R.cells ∧ slots + ms ≤ R.slots)
    (kk : ∀ (g : GG) (S1 : St) (H1 : Heap) (locs1 : List Loc), post g S1 → va_P (gg_D b) vwCl (pre ++ wl wd_C g S1) H1 → va_D A (pre ++ wl wd_C g S1) → va_K (gg_D b) vwCl (tl wd_C g) s → va_S A s.heap H1 locs1 → W p l e R s m args below meth c H1 locs1 (cells + mc) (slots + ms) Q (F0 m (pc + 3) ls rest)) : W p l e R s m args below meth c H locs cells slots Q (F0 m pc ls (.ref q :: rest)) := by
  obtain ⟨l1, l2, l3, l4, l5, l6⟩ := lk
  have hap := nw_apart hP hD
  have hq9 : A q := (vD_iff.mp hD).2 _ (List.mem_append_right _ (List.mem_singleton.mpr rfl))
  have hF : ∀ z, nwA q H.size z → A z := fun z h => by
    rcases h with rfl | h
    · exact hq9
    · exact hA z (Nat.le_trans hS.1 h)
  have hPc := (vP_app.mp hP).2
  have hPr := (vP_app.mp hP).1
  have hDr := (vD_app.mp hD).1
  refine va_callv (va_runIN (Ts := gw_tbl) (host := "LateMirrors") (As := []) (rest := rest) ⟨hx, hb, hml, hown, hts⟩ hM ⟨va_cnB 0 hts (gw_inG l4) rfl hrm.1 hrm.2 (hcs.1 _ l1) (hts _ l3) l5 hR, l6, hts _ l2⟩ ⟨pr_blind, fun U hU hW => ⟨rfl, by rw [hU], by rw [hU]; exact hPc, va_K.moved hW.alike hK, cs_narrow rfl rfl rfl hF (cs_warm b _ s U hW (by rw [hU]; exact hS.2.1) hcs)⟩⟩ rfl rfl hsz rfl (lv_room hroom) hdg hfit) hS (fun z _ h => hF z h) hF (fun u t H1 locs1 ht hvm hw hB hz1 hk1 hS1 => ?_)
  obtain ⟨hp, hD1⟩ := hw
  obtain ⟨hP1, hK1⟩ := hB
  have eD := hpD _ _ hp
  rw [ht, eD] at hP1
  rw [eD] at hK1
  have hK1 := va_K.moved hvm.symm hK1
  obtain ⟨hP2, hD2⟩ := w_join hPr hDr hap hk1 hF hP1 hD1
  exact kk u.1 u.2 H1 locs1 hp hP2 hD2 hK1 hS1
theorem r_crt {b' : GG} {k kt : Nat} {S S1 : St} (hx : p.tables.exec = Jvm.exec) (hb : c.code = cc) (hml : c.maxLocals = nL) (hown : s.vm.findClass own = some m.cls) (hts : ∀ z ∈ gw_tbl, z.before args s = true) (hcs : cs_C b A s) {index : Nat} (lk : LnI own index "LateMirrors" yX0_init cX0_init 2 1) (hR : rm_X0_init.frames + 1 ≤ R.frames ∧ 8 + (2 + 11) + rm_X0_init.locals ≤ R.locals) (hb0 : bas b' S) (hkn : kn b' b) (hk : k ∈ [10, 11, 12, 13, 14]) (hkt : isT kt) (hnk : k ∉ gg_os b') (hf : f_X0_begin k kt (rs_C k kt S) = some S1) (hP : va_P (gg_D b) vwCl ((pre ++ wl wd_C b' S) ++ [(q, .inr (0, [.null, .int 0, .null, .null, .null, .null, .null, .null, .null]))]) H) (hD : va_D A ((pre ++ wl wd_C b' S) ++ [(q, .inr (0, [.null, .int 0, .null, .null, .null, .null, .null, .null, .null]))])) (hK : va_K (gg_D b) vwCl (tl wd_C b') s) (hS : va_S A s.heap H locs) (hA : ∀ z, s.heap.size ≤ z → A z) (hsz : ls.size = nL) (hroom : (rest.map fun v => v.category).sum ≤ 8) (hdg : decode cc pc = .ok (.invokespecial index, 3)) (hfit : cells + 7 ≤ R.cells ∧ slots + 8716 ≤ R.slots)
    (kk : ∀ (g : GG) (H1 : Heap) (locs1 : List Loc), crp b' k q g → kn g b → va_P (gg_D b) vwCl (pre ++ wl wd_C g S1) H1 → va_D A (pre ++ wl wd_C g S1) → va_K (gg_D b) vwCl (tl wd_C g) s → va_S A s.heap H1 locs1 → W p l e R s m args below meth c H1 locs1 (cells + 7) (slots + 8716) Q (F0 m (pc + 3) ls rest)) : W p l e R s m args below meth c H locs cells slots Q (F0 m pc ls (.ref (gg_o b' kt) :: .ref q :: rest)) := by
  obtain ⟨l1, l2, l3, l4, l5, l6⟩ := lk
  have hap := nw_apart hP hD
  have hq9 : A q := (vD_iff.mp hD).2 _ (List.mem_append_right _ (List.mem_singleton.mpr rfl))
  have hPc := (vP_app.mp hP).2
  obtain ⟨hPr, hPb⟩ := vP_app.mp (vP_app.mp hP).1
  obtain ⟨hDr, hDb, hdj⟩ := vD_app.mp (vD_app.mp hD).1
  have hF : ∀ z, (nwA q H.size z ∨ aw b' z) → A z := fun z h => by
    rcases h with (rfl | h) | h
    · exact hq9
    · exact hA z (Nat.le_trans hS.1 h)
    · obtain ⟨x, hx1, rfl⟩ := aw_of (w := wd_C) (S := S) h
      exact (vD_iff.mp hDb).2 x hx1
  have hap2 : ∀ x ∈ pre, ¬ (nwA q H.size x.1 ∨ aw b' x.1) := fun x hx1 h => by
    rcases h with h | h
    · exact hap x (List.mem_append_left _ hx1) h
    · obtain ⟨y, hy1, e1⟩ := aw_of (w := wd_C) (S := S) h
      exact hdj x hx1 y hy1 e1.symm
  have hno : ¬ aw b' q := fun h => by
    obtain ⟨y, hy1, e1⟩ := aw_of (w := wd_C) (S := S) h
    exact hap y (List.mem_append_right _ hy1) (Or.inl e1)
  have hM := c_X0_init l b' k kt q H.size S S1 hb0 hk hkt hnk hno hf
  refine va_callv (va_runIN (Ts := gw_tbl) (host := "LateMirrors") (As := [.ref (gg_o b' kt)]) (rest := rest) ⟨hx, hb, hml, hown, hts⟩ hM ⟨va_cnB 1 hts (gw_inG l4) rfl rfl rfl (hcs.1 _ l1) (hts _ l3) l5 hR, l6, hts _ l2⟩ ⟨pc_blind, fun U hU hW => ⟨rfl, by rw [hU], by rw [hU, hkn.1]; exact hPc, by rw [hU, hkn.1]; exact hPb, by rw [hkn.1]; exact va_K.moved hW.alike hK, cs_narrow hkn.2.1 hkn.2.2.1 hkn.2.2.2 hF (cs_warm b _ s U hW (by rw [hU]; exact hS.2.1) hcs)⟩⟩ rfl rfl hsz rfl (lv_room hroom) hdg hfit) hS (fun z _ h => hF z h) hF (fun u t H1 locs1 ht hvm hw hB hz1 hk1 hS1 => ?_)
  obtain ⟨g, S2⟩ := u
  obtain ⟨⟨hc, e2⟩, hD1⟩ := hw
  dsimp only at hc e2 hD1 hB
  subst e2
  obtain ⟨hP1, hK1⟩ := hB
  have hkg : kn g b := ⟨hc.2.2.2.1.1.trans hkn.1, hc.2.2.2.1.2.1.trans hkn.2.1, hc.2.2.2.1.2.2.1.trans hkn.2.2.1, hc.2.2.2.1.2.2.2.trans hkn.2.2.2⟩
  rw [ht, hkg.1] at hP1
  rw [hkg.1] at hK1
  have hK1 := va_K.moved hvm.symm hK1
  obtain ⟨hP2, hD2⟩ := w_join hPr hDr hap2 hk1 hF hP1 hD1
  exact kk g H1 locs1 hc hkg hP2 hD2 hK1 hS1
end RS
