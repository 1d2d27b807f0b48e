/-! THE CLASS TAKES A TELL: what stands then. -/
def lawAt (o : CL) (d0 : Nat) (x : Option (List BR)) (p : Nat) : Prop := match x with
  | none => p = d0
  | some brs => ∃ o1 o2, o = o1 ++ (clB o1.length brs ++ o2) ∧ p = o1.length
theorem lawAt_app {o : CL} {d0 : Nat} {x : Option (List BR)} {p : Nat} (h : lawAt o d0 x p) (o' : CL) : lawAt (o ++ o') d0 x p := by
  cases x with
  | none => exact h
  | some brs =>
    obtain ⟨o1, o2, e, f⟩ := h
    exact ⟨o1, o2 ++ o', by rw [e, List.append_assoc, List.append_assoc], f⟩
def CBi (kt : Nat) (S : St) (P : TP) : Prop := st_I S (ky kt 0) = nI (pc P 0) ∧ st_I S (ky kt 1) = nI (pc P 1) ∧ st_I S (ky kt 2) = nI (pc P 2) ∧ st_I S (ky kt 3) = nI (pc P 4)
def CBk (kt : Nat) (S : St) (P : TP) : Prop := st_I S (ky kt 4) = nI (pk P) ∧ st_I S (ky kt 5) = nI (pd P)
def CBd (kt : Nat) (S : St) (P : TP) : Prop := ∀ d, d < pc P 1 → st_A S (ky kt 7) (d * 2) = nI (pr P 0 d) ∧ st_A S (ky kt 7) (d * 2 + 1) = nI (pr P 1 d)
def CBm (kt : Nat) (S : St) (P : TP) : Prop := ∀ a, a < pc P 2 → st_A S (ky kt 8) a = nI (pr P 2 a) ∧ st_A S (ky kt 9) a = nI (pr P 3 a)
def CBh (kt : Nat) (S : St) (P : TP) : Prop := ∀ m, m < pc P 4 → st_A S (ky kt 11) m = nI (pr P 4 m) ∧ st_A S (ky kt 12) m = nI (pr P 5 m)
def CBl (kt : Nat) (S : St) (P : TP) (o : CL) : Prop := (∀ a, a < pc P 2 → ∃ p, p < 512 ∧ st_A S (ky kt 10) a = nI p ∧ lawAt o 0 (pl P a) p) ∧ (∃ p, p < 512 ∧ st_I S (ky kt 6) = nI p ∧ lawAt o 2 (pl P 6) p) ∧ clO (kt + 2) S o
def CB (kt : Nat) (S : St) (P : TP) (o : CL) : Prop := CBi kt S P ∧ CBk kt S P ∧ CN kt S (nN P) (pn P) ∧ CBd kt S P ∧ CBm kt S P ∧ CBh kt S P ∧ CBl kt S P o
/-- what the numbers of names and laws must keep -/
def gP (P : TP) : Prop := UN (nN P) (pn P) ∧ (∀ i, pc P 2 ≤ i → i < 6 → pl P i = none) ∧ ∀ j, j < nN P → (pn P j).2.1 = 1 → (pn P j).2.2 < pc P 2
theorem CBi_on {kt : Nat} {S S' : St} {P P' : TP} {fs : List Nat} (e : pc P' 0 = pc P 0 ∧ pc P' 1 = pc P 1 ∧ pc P' 2 = pc P 2 ∧ pc P' 4 = pc P 4) (hf : ∀ f ∈ fs, f < 100 ∧ 4 ≤ f) (o : on (kO kt fs) S S') (h : CBi kt S P) : CBi kt S' P' := by
  have g : ∀ f, f < 4 → st_I S' (ky kt f) = st_I S (ky kt f) := fun f h1 => (o _ (kO_n (fun f hf2 => (hf f hf2).1) (by omega) (Or.inr (fun z => by have := hf f z; omega)))).1
  unfold CBi
  rw [e.1, e.2.1, e.2.2.1, e.2.2.2, g 0 (by decide), g 1 (by decide), g 2 (by decide), g 3 (by decide)]
  exact h
theorem CBk_on {kt : Nat} {S S' : St} {P P' : TP} {fs : List Nat} (e : pk P' = pk P ∧ pd P' = pd P) (hf : ∀ f ∈ fs, f < 100 ∧ f ≠ 4 ∧ f ≠ 5) (o : on (kO kt fs) S S') (h : CBk kt S P) : CBk kt S' P' := by
  have g : ∀ f, f = 4 ∨ f = 5 → st_I S' (ky kt f) = st_I S (ky kt f) := fun f h1 => (o _ (kO_n (fun f hf2 => (hf f hf2).1) (by omega) (Or.inr (fun z => by have := hf f z; omega)))).1
  unfold CBk
  rw [e.1, e.2, g 4 (by decide), g 5 (by decide)]
  exact h
theorem CBd_on {kt : Nat} {S S' : St} {P P' : TP} {fs : List Nat} (e : pc P' 1 = pc P 1 ∧ ∀ d, d < pc P 1 → pr P' 0 d = pr P 0 d ∧ pr P' 1 d = pr P 1 d) (hf : ∀ f ∈ fs, f < 100 ∧ f ≠ 7) (o : on (kO kt fs) S S') (h : CBd kt S P) : CBd kt S' P' := by
  have g : st_A S' (ky kt 7) = st_A S (ky kt 7) := (o _ (kO_n (fun f hf2 => (hf f hf2).1) (by omega) (Or.inr (fun z => by have := hf 7 z; omega)))).2.1
  intro d hd
  rw [e.1] at hd
  rw [(e.2 d hd).1, (e.2 d hd).2, g]
  exact h d hd
theorem CBm_on {kt : Nat} {S S' : St} {P P' : TP} {fs : List Nat} (e : pc P' 2 = pc P 2 ∧ ∀ d, d < pc P 2 → pr P' 2 d = pr P 2 d ∧ pr P' 3 d = pr P 3 d) (hf : ∀ f ∈ fs, f < 100 ∧ f ≠ 8 ∧ f ≠ 9) (o : on (kO kt fs) S S') (h : CBm kt S P) : CBm kt S' P' := by
  have g : st_A S' (ky kt 8) = st_A S (ky kt 8) := (o _ (kO_n (fun f hf2 => (hf f hf2).1) (by omega) (Or.inr (fun z => by have := hf 8 z; omega)))).2.1
  have g2 : st_A S' (ky kt 9) = st_A S (ky kt 9) := (o _ (kO_n (fun f hf2 => (hf f hf2).1) (by omega) (Or.inr (fun z => by have := hf 9 z; omega)))).2.1
  intro d hd
  rw [e.1] at hd
  rw [(e.2 d hd).1, (e.2 d hd).2, g, g2]
  exact h d hd
theorem CBh_on {kt : Nat} {S S' : St} {P P' : TP} {fs : List Nat} (e : pc P' 4 = pc P 4 ∧ ∀ d, d < pc P 4 → pr P' 4 d = pr P 4 d ∧ pr P' 5 d = pr P 5 d) (hf : ∀ f ∈ fs, f < 100 ∧ f ≠ 11 ∧ f ≠ 12) (o : on (kO kt fs) S S') (h : CBh kt S P) : CBh kt S' P' := by
  have g : st_A S' (ky kt 11) = st_A S (ky kt 11) := (o _ (kO_n (fun f hf2 => (hf f hf2).1) (by omega) (Or.inr (fun z => by have := hf 11 z; omega)))).2.1
  have g2 : st_A S' (ky kt 12) = st_A S (ky kt 12) := (o _ (kO_n (fun f hf2 => (hf f hf2).1) (by omega) (Or.inr (fun z => by have := hf 12 z; omega)))).2.1
  intro d hd
  rw [e.1] at hd
  rw [(e.2 d hd).1, (e.2 d hd).2, g, g2]
  exact h d hd
theorem CBl_on {kt : Nat} {S S' : St} {P P' : TP} {o : CL} {fs : List Nat} (e : pc P' 2 = pc P 2 ∧ pl P' = pl P) (hf : ∀ f ∈ fs, f < 100 ∧ f ≠ 6 ∧ f ≠ 10) (oo : on (kO kt fs) S S') (h : CBl kt S P o) : CBl kt S' P' o := by
  have g : st_A S' (ky kt 10) = st_A S (ky kt 10) := (oo _ (kO_n (fun f hf2 => (hf f hf2).1) (by omega) (Or.inr (fun z => by have := hf 10 z; omega)))).2.1
  have g2 : st_I S' (ky kt 6) = st_I S (ky kt 6) := (oo _ (kO_n (fun f hf2 => (hf f hf2).1) (by omega) (Or.inr (fun z => by have := hf 6 z; omega)))).1
  have g3 : ∀ f, f < 5 → ¬ kO kt fs (ky (kt + 2) f) := fun f h1 => kO_n (fun f hf2 => (hf f hf2).1) (by omega) (Or.inl (by omega))
  unfold CBl clO
  rw [e.1, e.2, g, g2, (oo _ (g3 2 (by decide))).1, (oo _ (g3 0 (by decide))).2.1, (oo _ (g3 1 (by decide))).2.1]
  exact h
theorem CN_kO {kt : Nat} {S S' : St} {N : Nat} {nl : NL} {fs : List Nat} (hf : ∀ f ∈ fs, f < 100 ∧ (f < 13 ∨ 15 < f)) (o : on (kO kt fs) S S') (h : CN kt S N nl) : CN kt S' N nl := CN_on (fun f h1 h2 => kO_n (fun g hg => (hf g hg).1) (by omega) (Or.inr (fun z => by have := hf f z; omega))) o h
theorem TKC_kO {B : Nat → Nat} {n N kt : Nat} {S S' : St} {fs : List Nat} (hkt : isTx kt) (hf : ∀ f ∈ fs, f < 100) (o : on (kO kt fs) S S') (h : TKC B n N S) : TKC B n N S' := TKC_on (fun f hf1 => kO_n hf hf1 (Or.inl (by rcases hkt with rfl | rfl <;> decide))) o h
theorem cwst_kO {B : Nat → Nat} {n kt : Nat} {S S' : St} {w : Option (Nat × Nat)} {fs : List Nat} (hf : ∀ f ∈ fs, f < 100 ∧ f ≠ 17 ∧ f ≠ 18) (o : on (kO kt fs) S S') (h : cwst B n kt S w) : cwst B n kt S' w := cwst_on (kO_n (fun g hg => (hf g hg).1) (by decide) (Or.inr (fun z => (hf 17 z).2.1 rfl))) (kO_n (fun g hg => (hf g hg).1) (by decide) (Or.inr (fun z => (hf 18 z).2.2 rfl))) o h
/-- all that taking a tell may write -/
def kTx (kt : Nat) : Nat → Prop := fun q => (∃ f, f < 19 ∧ q = ky kt f) ∨ kLw (kt + 2) q
theorem kTx_kO {kt : Nat} {fs : List Nat} {S S' : St} (hf : ∀ f ∈ fs, f < 19) (o : on (kO kt fs) S S') : on (kTx kt) S S' := on_mono (fun q ⟨f, h1, h2⟩ => Or.inl ⟨f, hf f h1, h2⟩) o
theorem kTx_Lw {kt : Nat} {S S' : St} (o : on (kLw (kt + 2)) S S') : on (kTx kt) S S' := on_mono (fun _ h => Or.inr h) o
section CT
variable {B : Nat → Nat} {n N kt : Nat}
/-- what taking a tell comes to -/
def CTc (B : Nat → Nat) (n kt : Nat) (S : St) (P : TP) (o : CL) (t d : Nat) (brs : List BR) : Prop := ∃ S', f_X4_take kt S (nI t) = some (nI d, S') ∧ on (kTx kt) S S' ∧ cwst B n kt S' (tkF (tkK B n) (tkL B n) (tkV B n) P t) ∧ (tkF (tkK B n) (tkL B n) (tkV B n) P t = none → ∃ o', CB kt S' (tkP (tkK B n) (tkL B n) (tkV B n) P t brs) (o ++ o') ∧ o'.length + t ≤ d)
theorem take_e (hkt : isTx kt) {S : St} {t k : Nat} (T : TKC B n N S) (ht : t < N) (ek : tkK B n t = k) : f_X4_take kt S (nI t) = (if ckd k = 200 then ((f_X4_declare kt S (nI t + (1 : Int32)) (0 : Int32) (st_I S (ky kt 0))).bind (fun (q3 : St) => lt_v (up_I q3 (ky kt 0) ((st_I q3 (ky kt 0)) + (1 : Int32))) (fun (S4 : St) => some ((nI t + (3 : Int32)), S4)))) else (if ckd k = 201 then ((f_X4_takeDoor kt S (nI t)).bind (fun (q5 : St) => some ((nI t + (4 : Int32)), q5))) else (if ckd k = 202 then ((f_X4_takeMan kt S (nI t)).bind (fun (q6 : St) => some ((nI t + (5 : Int32)), q6))) else (if ckd k = 203 then ((f_X4_named kt S (nI t + (1 : Int32)) (1 : Int32)).bind (fun (q7 : Int32 × St) => (f_X5_put (ky kt 10) q7.2 q7.1 (st_I q7.2 (ky (kt + 2) 2))).bind (fun (q8 : St) => (f_X1_compile (kt + 2) q8 (nI t + (2 : Int32))).bind (fun (q9 : Int32 × St) => some (q9.1, q9.2))))) else (if ckd k = 204 then ((f_X4_takeMirror kt S (nI t)).bind (fun (q10 : St) => some ((nI t + (5 : Int32)), q10))) else (if ckd k = 205 then (lt_v (up_I S (ky kt 6) (st_I S (ky (kt + 2) 2))) (fun (S11 : St) => (f_X1_compile (kt + 2) S11 (nI t + (1 : Int32))).bind (fun (q12 : Int32 × St) => some (q12.1, q12.2)))) else (if ckd k = 206 then ((f_X4_number kt S (nI t + (1 : Int32)) (100 : Int32)).bind (fun (q13 : Int32 × St) => lt_v (up_I q13.2 (ky kt 4) q13.1) (fun (S14 : St) => some ((nI t + (3 : Int32)), S14)))) else ((f_X4_number kt S (nI t + (1 : Int32)) (9999 : Int32)).bind (fun (q15 : Int32 × St) => lt_v (up_I q15.2 (ky kt 5) q15.1) (fun (S16 : St) => some ((nI t + (3 : Int32)), S16))))))))))) := by
  unfold f_X4_take
  rw [tok_k T ht, ek, bnd]
/-- rooms -/
theorem C_take20 (hkt : isTx kt) {S : St} {P : TP} {o : CL} {t d : Nat} {brs : List BR} (T : TKC B n N S) (hd : d ≤ N) (hb : pc P 0 < 8 ∧ nN P < 22) (hg : gP P) (h : CB kt S P o) (hw : cwst B n kt S none) (c20 : tkK B n t = 20) (k1 : tkK B n (t + 1) = 1) (hdt : d = t + 3) : CTc B n kt S P o t d brs := by
  obtain ⟨hi, hk, hn, hd1, hm, hh, hl⟩ := h
  obtain ⟨S1, M', nl', e1, o1, w1, n1, u1, _, a1⟩ := C_declare hkt T (u := t + 1) (s := 0) (c := pc P 0) (by omega) k1 (by decide) hb.1 hb.2 hn hg.1 hw
  have eF : tkF (tkK B n) (tkL B n) (tkV B n) P t = dupP P (tkL B n (t + 1)) (t + 1) := by unfold tkF; rw [if_pos c20]
  have eP : tkP (tkK B n) (tkL B n) (tkV B n) P t brs = (inc (pc P) 0, addN (pn P) (nN P) (tkL B n (t + 1), 0, pc P 0), pr P, pl P, pk P, pd P) := by unfold tkP; rw [if_pos c20]
  have h0 : st_I S1 (ky kt 0) = nI (pc P 0) := by
    rw [(o1 _ (kO_n (by decide) (by decide) (Or.inr (by decide)))).1]; exact hi.1
  refine ⟨up_I S1 (ky kt 0) (nI (pc P 0 + 1)), ?_, ?_, ?_, fun z => ⟨[], ?_, by show 0 + t ≤ d; omega⟩⟩
  · rw [take_e hkt T (by omega) c20, if_pos (show ckd 20 = 200 from rfl), nI_1, hi.1, show f_X4_declare kt S (nI (t + 1)) (0 : Int32) (nI (pc P 0)) = some S1 from e1, bnd, lt_e, h0, nI_1, hdt, show nI t + (3 : Int32) = nI (t + 3) from nI_add t 3]
  · exact on_trans (kTx_kO (by decide) o1) (kTx_kO (fs := [0]) (by decide) (kO_I _ 0 _ (by decide)))
  · rw [eF]
    exact cwst_kO (fs := [0]) (by decide) (kO_I _ 0 _ (by decide)) w1
  · rw [eF] at z
    obtain ⟨rfl, rfl⟩ := a1 z
    have oo : on (kO kt [0, 13, 14, 15, 17, 18]) S (up_I S1 (ky kt 0) (nI (pc P 0 + 1))) := on_trans (kO_mono (by decide) o1) (kO_I _ 0 _ (by decide))
    rw [eP, List.append_nil]
    refine ⟨⟨?_, ?_, ?_, ?_⟩, CBk_on ⟨rfl, rfl⟩ (by decide) oo hk, ?_, CBd_on ⟨rfl, fun _ _ => ⟨rfl, rfl⟩⟩ (by decide) oo hd1, CBm_on ⟨rfl, fun _ _ => ⟨rfl, rfl⟩⟩ (by decide) oo hm, CBh_on ⟨rfl, fun _ _ => ⟨rfl, rfl⟩⟩ (by decide) oo hh, CBl_on ⟨rfl, rfl⟩ (by decide) oo hl⟩
    · exact (gI_I ..).trans (if_pos rfl)
    · rw [gI_I, if_neg (ky_ne (by decide) (by decide) (by omega)), (o1 _ (kO_n (by decide) (by decide) (Or.inr (by decide)))).1]; exact hi.2.1
    · rw [gI_I, if_neg (ky_ne (by decide) (by decide) (by omega)), (o1 _ (kO_n (by decide) (by decide) (Or.inr (by decide)))).1]; exact hi.2.2.1
    · rw [gI_I, if_neg (ky_ne (by decide) (by decide) (by omega)), (o1 _ (kO_n (by decide) (by decide) (Or.inr (by decide)))).1]; exact hi.2.2.2
    · have en : nN (inc (pc P) 0, addN (pn P) (nN P) (tkL B n (t + 1), 0, pc P 0), pr P, pl P, pk P, pd P) = nN P + 1 := by
        show (pc P 0 + 1) + pc P 2 + pc P 4 = pc P 0 + pc P 2 + pc P 4 + 1
        omega
      rw [en]
      exact CN_kO (fs := [0]) (by decide) (kO_I _ 0 _ (by decide)) n1
/-- numbers -/
theorem C_take26 (hkt : isTx kt) {S : St} {P : TP} {o : CL} {t d : Nat} {brs : List BR} (T : TKC B n N S) (hd : d ≤ N) (h : CB kt S P o) (hw : cwst B n kt S none) (hv : tkV B n (t + 1) < 2 ^ 31) (c26 : tkK B n t = 26 ∨ tkK B n t = 27) (k2 : tkK B n (t + 1) = 2) (hdt : d = t + 3) : CTc B n kt S P o t d brs := by
  obtain ⟨hi, hk, hn, hd1, hm, hh, hl⟩ := h
  rcases c26 with c26 | c26
  · obtain ⟨S1, e1, o1, w1⟩ := C_number hkt T (u := t + 1) (m := 100) (by omega) k2 hv (by decide) hw
    have eF : tkF (tkK B n) (tkL B n) (tkV B n) P t = numF 100 (tkV B n (t + 1)) (t + 1) := by unfold tkF; rw [c26]; rfl
    have eP : tkP (tkK B n) (tkL B n) (tkV B n) P t brs = (inc (pc P) 6, pn P, pr P, pl P, tkV B n (t + 1), pd P) := by unfold tkP; rw [c26]; rfl
    have oo : on (kO kt [4, 17, 18]) S (up_I S1 (ky kt 4) (nI (tkV B n (t + 1)))) := on_trans (kO_mono (by decide) o1) (kO_I _ 4 _ (by decide))
    refine ⟨up_I S1 (ky kt 4) (nI (tkV B n (t + 1))), ?_, kTx_kO (by decide) oo, ?_, fun z => ⟨[], ?_, by show 0 + t ≤ d; omega⟩⟩
    · rw [take_e hkt T (by omega) c26, if_neg (by decide), if_neg (by decide), if_neg (by decide), if_neg (by decide), if_neg (by decide), if_neg (by decide), if_pos (show ckd 26 = 206 from rfl), nI_1, show f_X4_number kt S (nI (t + 1)) (100 : Int32) = _ from e1, bnd, lt_e, hdt, show nI t + (3 : Int32) = nI (t + 3) from nI_add t 3]
    · rw [eF]
      exact cwst_kO (fs := [4]) (by decide) (kO_I _ 4 _ (by decide)) w1
    · rw [eP, List.append_nil]
      refine ⟨CBi_on (P := P) ⟨rfl, rfl, rfl, rfl⟩ (by decide) oo hi, ⟨?_, ?_⟩, CN_kO (by decide) oo hn, CBd_on ⟨rfl, fun _ _ => ⟨rfl, rfl⟩⟩ (by decide) oo hd1, CBm_on ⟨rfl, fun _ _ => ⟨rfl, rfl⟩⟩ (by decide) oo hm, CBh_on ⟨rfl, fun _ _ => ⟨rfl, rfl⟩⟩ (by decide) oo hh, CBl_on ⟨rfl, rfl⟩ (by decide) oo hl⟩
      · exact (gI_I ..).trans (if_pos rfl)
      · rw [(oo _ (kO_n (by decide) (by decide) (Or.inr (by decide)))).1]; exact hk.2
  · obtain ⟨S1, e1, o1, w1⟩ := C_number hkt T (u := t + 1) (m := 9999) (by omega) k2 hv (by decide) hw
    have eF : tkF (tkK B n) (tkL B n) (tkV B n) P t = numF 9999 (tkV B n (t + 1)) (t + 1) := by unfold tkF; rw [c26]; rfl
    have eP : tkP (tkK B n) (tkL B n) (tkV B n) P t brs = (inc (pc P) 7, pn P, pr P, pl P, pk P, tkV B n (t + 1)) := by unfold tkP; rw [c26]; rfl
    have oo : on (kO kt [5, 17, 18]) S (up_I S1 (ky kt 5) (nI (tkV B n (t + 1)))) := on_trans (kO_mono (by decide) o1) (kO_I _ 5 _ (by decide))
    refine ⟨up_I S1 (ky kt 5) (nI (tkV B n (t + 1))), ?_, kTx_kO (by decide) oo, ?_, fun z => ⟨[], ?_, by show 0 + t ≤ d; omega⟩⟩
    · rw [take_e hkt T (by omega) c26, if_neg (by decide), if_neg (by decide), if_neg (by decide), if_neg (by decide), if_neg (by decide), if_neg (by decide), if_neg (by decide), nI_1, show f_X4_number kt S (nI (t + 1)) (9999 : Int32) = _ from e1, bnd, lt_e, hdt, show nI t + (3 : Int32) = nI (t + 3) from nI_add t 3]
    · rw [eF]
      exact cwst_kO (fs := [5]) (by decide) (kO_I _ 5 _ (by decide)) w1
    · rw [eP, List.append_nil]
      refine ⟨CBi_on (P := P) ⟨rfl, rfl, rfl, rfl⟩ (by decide) oo hi, ⟨?_, ?_⟩, CN_kO (by decide) oo hn, CBd_on ⟨rfl, fun _ _ => ⟨rfl, rfl⟩⟩ (by decide) oo hd1, CBm_on ⟨rfl, fun _ _ => ⟨rfl, rfl⟩⟩ (by decide) oo hm, CBh_on ⟨rfl, fun _ _ => ⟨rfl, rfl⟩⟩ (by decide) oo hh, CBl_on ⟨rfl, rfl⟩ (by decide) oo hl⟩
      · rw [(oo _ (kO_n (by decide) (by decide) (Or.inr (by decide)))).1]; exact hk.1
      · exact (gI_I ..).trans (if_pos rfl)
end CT
