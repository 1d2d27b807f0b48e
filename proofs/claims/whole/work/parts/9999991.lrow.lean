/-! THE LAW: a call in one world, the other beside it. -/
section LR
variable {w : WD} {g : GG} {p : Program} {l : Launch} {e : Env} {R : Room} {s : State} {m : MethodId} {args : Array Value} {below : List Frame} {meth : Method} {c : Code} {H : Heap} {locs : List Loc} {cells slots : Nat} {Q : State → Prop}
variable {cc : ByteArray} {nL pc : Nat} {own : String} {ls : Array Slot} {rest st0 : List Value} {S : St}
theorem r_L_w {y : MethodName} {bytes : ByteArray} {maxL index n : Nat} {ret : Option FieldType} {rm : Room} {As : List Value} (hx : p.tables.exec = Jvm.exec) (hb : c.code = cc) (hml : c.maxLocals = nL) (hown : s.vm.findClass own = some m.cls) (hts : ∀ z ∈ gw_tbl, z.before args s = true) (hK : va_K (gg_D g) vwCl (tl w g) s) (hs : wk_s w g (aw g) s) (hg : gd w g) {wr : va_W} {D2 : va_G} (hP : va_P (gg_D g) vwCl (wl w g S) H) (hP2 : va_P D2 vwCl wr H) (hap : ∀ x ∈ wr, ¬ aw g x.1) (hS : va_S (fun z => s.heap.size ≤ z) s.heap H locs) (hA : ∀ z, aw g z → s.heap.size ≤ z) {k N : Nat} {C : String} {T : u_T} (hk : k ∈ gg_os g) (hcl : vwCl[wk_c w k]? = some (C, T, N)) (lk : LkV own index C y bytes maxL ret n) {q : Int32 × St} (hM : Met l y (Cond.code y bytes maxL ret :: gw_tbl) rm (va_Pc (.ref (gg_o g k) :: As) (wI w g S)) (qc_w w g q) 0 0 (aw g)) (hR : rmFit rm R maxL) (hn : As.length = n) (hsz : ls.size = nL) (hst : st0 = As.reverse ++ .ref (gg_o g k) :: rest) (hroom : (rest.map fun v => v.category).sum ≤ 8) (hdg : decode cc pc = .ok (.invokevirtual index, 3)) (hfit : cells + 0 ≤ R.cells ∧ slots + 0 ≤ R.slots)
    (kk : ∀ (H1 : Heap) (locs1 : List Loc), va_P (gg_D g) vwCl (wl w g q.2) H1 → va_P D2 vwCl wr H1 → va_S (fun z => s.heap.size ≤ z) s.heap H1 locs1 → W p l e R s m args below meth c H1 locs1 cells slots Q (F0 m (pc + 3) ls (.int q.1 :: rest))) : W p l e R s m args below meth c H locs cells slots Q (F0 m pc ls st0) := by
  obtain ⟨l1, l2, l3, l4, l5, l6⟩ := lk
  obtain ⟨i, hi, h1⟩ := wl_o (w := w) (g := g) S hk
  refine va_calli (va_runV (Ts := gw_tbl) ⟨hx, hb, hml, hown, hts⟩ hM ⟨callB_of n hts (gw_inG l5) rfl hR.1.1 hR.1.2 (hts _ l4) (hts _ l1) l6 hR.2, hts _ l2, hts _ l3⟩ ⟨wI_blind hg, va_recv hK hP hcl h1, fun U hU hW => ⟨rfl, by rw [hU]; exact hP, va_K.moved hW.alike hK, hg.2.2.2.1 (aw g) s U hW (by
    rw [hU]
    intro a h2 _
    exact hS.2.1 a h2 (Nat.not_le.mpr h2)) hs⟩⟩ rfl hn hsz hst (lv_room hroom) hdg hfit) hS (fun z _ h => hA z h) hA (fun r u t H1 locs1 ht hvm hp hb1 hz1 hk1 hS1 => ?_)
  rw [hp]
  refine kk H1 locs1 ?_ (vP_iff.mpr (fun x hx2 => ?_)) hS1
  · rw [← ht]
    exact hb1.1
  · have h3 := vP_iff.mp hP2 x hx2
    exact h3.kept (hk1 x.1 h3.lt (hap x hx2))
theorem r_L_i {y : MethodName} {bytes : ByteArray} {maxL index n : Nat} {ret : Option FieldType} {rm : Room} {As : List Value} (hx : p.tables.exec = Jvm.exec) (hb : c.code = cc) (hml : c.maxLocals = nL) (hown : s.vm.findClass own = some m.cls) (hts : ∀ z ∈ gw_tbl, z.before args s = true) (hK : va_K (gg_D g) vwCl (tl w g) s) (hs : wk_s w g (aw g) s) (hg : gd w g) {wr : va_W} {D2 : va_G} (hP : va_P (gg_D g) vwCl (wl w g S) H) (hP2 : va_P D2 vwCl wr H) (hap : ∀ x ∈ wr, ¬ aw g x.1) (hS : va_S (fun z => s.heap.size ≤ z) s.heap H locs) (hA : ∀ z, aw g z → s.heap.size ≤ z) {k N : Nat} {C : String} {T : u_T} (hk : k ∈ gg_os g) (hcl : vwCl[wk_c w k]? = some (C, T, N)) (lk : LkV own index C y bytes maxL ret n) {q : Int32} (hM : Met l y (Cond.code y bytes maxL ret :: gw_tbl) rm (va_Pc (.ref (gg_o g k) :: As) (wI w g S)) (qc_i w g S q) 0 0 (aw g)) (hR : rmFit rm R maxL) (hn : As.length = n) (hsz : ls.size = nL) (hst : st0 = As.reverse ++ .ref (gg_o g k) :: rest) (hroom : (rest.map fun v => v.category).sum ≤ 8) (hdg : decode cc pc = .ok (.invokevirtual index, 3)) (hfit : cells + 0 ≤ R.cells ∧ slots + 0 ≤ R.slots)
    (kk : ∀ (H1 : Heap) (locs1 : List Loc), va_P (gg_D g) vwCl (wl w g S) H1 → va_P D2 vwCl wr H1 → va_S (fun z => s.heap.size ≤ z) s.heap H1 locs1 → W p l e R s m args below meth c H1 locs1 cells slots Q (F0 m (pc + 3) ls (.int q :: rest))) : W p l e R s m args below meth c H locs cells slots Q (F0 m pc ls st0) := by
  obtain ⟨l1, l2, l3, l4, l5, l6⟩ := lk
  obtain ⟨i, hi, h1⟩ := wl_o (w := w) (g := g) S hk
  refine va_calli (va_runV (Ts := gw_tbl) ⟨hx, hb, hml, hown, hts⟩ hM ⟨callB_of n hts (gw_inG l5) rfl hR.1.1 hR.1.2 (hts _ l4) (hts _ l1) l6 hR.2, hts _ l2, hts _ l3⟩ ⟨wI_blind hg, va_recv hK hP hcl h1, fun U hU hW => ⟨rfl, by rw [hU]; exact hP, va_K.moved hW.alike hK, hg.2.2.2.1 (aw g) s U hW (by
    rw [hU]
    intro a h2 _
    exact hS.2.1 a h2 (Nat.not_le.mpr h2)) hs⟩⟩ rfl hn hsz hst (lv_room hroom) hdg hfit) hS (fun z _ h => hA z h) hA (fun r u t H1 locs1 ht hvm hp hb1 hz1 hk1 hS1 => ?_)
  rw [hp]
  refine kk H1 locs1 ?_ (vP_iff.mpr (fun x hx2 => ?_)) hS1
  · rw [← ht]
    exact hb1.1
  · have h3 := vP_iff.mp hP2 x hx2
    exact h3.kept (hk1 x.1 h3.lt (hap x hx2))
end LR
/-- what stays for the whole of the law: both worlds, apart -/
def LC (g gm : GG) (s : State) : Prop := gd wd_C g ∧ hAll g ∧ gd wd_M gm ∧ hs wd_M gm 0 6 ∧ va_K (gg_D g) vwCl (tl wd_C g) s ∧ va_K (gg_D gm) vwCl (tl wd_M gm) s ∧ cs_C g (aw g) s ∧ (∀ z, aw g z → ¬ aw gm z) ∧ (∀ z, aw g z → s.heap.size ≤ z) ∧ ∀ z, aw gm z → s.heap.size ≤ z
def LSw (g gm : GG) (s : State) (S M : St) (H : Heap) (locs : List Loc) : Prop := va_P (gg_D g) vwCl (wl wd_C g S) H ∧ va_P (gg_D gm) vwCl (wl wd_M gm M) H ∧ va_S (fun z => s.heap.size ≤ z) s.heap H locs
theorem LC_1 {g gm : GG} {s : State} (h : LC g gm s) (M : St) : ∀ x ∈ wl wd_M gm M, ¬ aw g x.1 := fun x hx h2 => h.2.2.2.2.2.2.2.1 x.1 h2 (aw_in hx)
theorem LC_2 {g gm : GG} {s : State} (h : LC g gm s) (S : St) : ∀ x ∈ wl wd_C g S, ¬ aw gm x.1 := fun x hx h2 => h.2.2.2.2.2.2.2.1 x.1 (aw_in hx) h2
theorem pu_s {S S' : St} {f : Option Int32} {v : Int32} (h : pu S f = some (v, S')) : f = some v ∧ S' = S := by
  unfold pu at h
  cases f with
  | none => cases h
  | some x =>
    have h2 : some (x, S) = some (v, S') := h
    have h3 := Option.some.inj h2
    exact ⟨by rw [(Prod.mk.inj h3).1], (Prod.mk.inj h3).2.symm⟩
theorem lkL_13 : LkV RL 13 RX5 yX5_feed cX5_feed 6 (some .int) 5 := ⟨wd_443, wd_444, wd_445, wd_1, wd_446, by decide +kernel⟩
theorem lkL_17 : LkV RL 17 RX6 yX6_feed cX6_feed 6 (some .int) 5 := ⟨wd_1354, wd_1355, wd_1356, wd_14, wd_1357, by decide +kernel⟩
theorem lkL_18 : LkV RL 18 RX5 yX5_back cX5_back 2 (some .int) 1 := ⟨wd_452, wd_453, wd_454, wd_1, wd_455, by decide +kernel⟩
theorem lkL_22 : LkV RL 22 RX6 yX6_back cX6_back 2 (some .int) 1 := ⟨wd_1362, wd_1363, wd_1364, wd_14, wd_1365, by decide +kernel⟩
theorem lkL_23 : LkV RL 23 RX5 yX5_read cX5_read 2 (some .int) 0 := ⟨wd_456, wd_457, wd_458, wd_1, wd_459, by decide +kernel⟩
theorem lkL_27 : LkV RL 27 RX6 yX6_read cX6_read 2 (some .int) 0 := ⟨wd_1366, wd_1367, wd_1368, wd_14, wd_1369, by decide +kernel⟩
theorem lkL_28 : LkV RL 28 RX5 yX5_place cX5_place 1 (some .int) 0 := ⟨wd_681, wd_682, wd_683, wd_1, wd_684, by decide +kernel⟩
theorem lkL_31 : LkV RL 31 RX6 yX6_place cX6_place 1 (some .int) 0 := ⟨wd_1472, wd_1473, wd_1474, wd_14, wd_1475, by decide +kernel⟩
theorem lkL_32 : LkV RL 32 RX5 yX5_man cX5_man 4 (some .int) 3 := ⟨wd_685, wd_686, wd_687, wd_1, wd_688, by decide +kernel⟩
theorem lkL_36 : LkV RL 36 RX6 yX6_man cX6_man 4 (some .int) 3 := ⟨wd_1476, wd_1477, wd_1478, wd_14, wd_1479, by decide +kernel⟩
theorem lkL_37 : LkV RL 37 RX5 yX5_mirror cX5_mirror 4 (some .int) 3 := ⟨wd_703, wd_704, wd_705, wd_1, wd_706, by decide +kernel⟩
theorem lkL_40 : LkV RL 40 RX6 yX6_mirror cX6_mirror 5 (some .int) 3 := ⟨wd_1491, wd_1492, wd_1493, wd_14, wd_1494, by decide +kernel⟩
theorem lkL_41 : LkV RL 41 RX5 yX5_minutes cX5_minutes 2 (some .int) 1 := ⟨wd_743, wd_744, wd_745, wd_1, wd_746, by decide +kernel⟩
theorem lkL_44 : LkV RL 44 RX6 yX6_minutes cX6_minutes 2 (some .int) 1 := ⟨wd_1519, wd_1520, wd_1521, wd_14, wd_1522, by decide +kernel⟩
theorem lkL_45 : LkV RL 45 RX5 yX5_go cX5_go 4 (some .boolean) 2 := ⟨wd_787, wd_788, wd_789, wd_1, wd_790, by decide +kernel⟩
theorem lkL_49 : LkV RL 49 RX6 yX6_go cX6_go 3 (some .boolean) 2 := ⟨wd_1555, wd_1556, wd_1557, wd_14, wd_1558, by decide +kernel⟩
theorem lkL_50 : LkV RL 50 RX5 yX5_raise cX5_raise 3 (some .boolean) 2 := ⟨wd_796, wd_797, wd_798, wd_1, wd_799, by decide +kernel⟩
theorem lkL_53 : LkV RL 53 RX6 yX6_raise cX6_raise 3 (some .boolean) 2 := ⟨wd_1567, wd_1568, wd_1569, wd_14, wd_1570, by decide +kernel⟩
theorem lkL_54 : LkV RL 54 RX5 yX5_carry cX5_carry 3 (some .boolean) 2 := ⟨wd_807, wd_808, wd_809, wd_1, wd_810, by decide +kernel⟩
theorem lkL_57 : LkV RL 57 RX6 yX6_carry cX6_carry 3 (some .boolean) 2 := ⟨wd_1571, wd_1572, wd_1573, wd_14, wd_1574, by decide +kernel⟩
theorem lkL_58 : LkV RL 58 RX5 yX5_turn cX5_turn 3 (some .boolean) 2 := ⟨wd_819, wd_820, wd_821, wd_1, wd_822, by decide +kernel⟩
theorem lkL_62 : LkV RL 62 RX6 yX6_turn cX6_turn 3 (some .boolean) 2 := ⟨wd_1579, wd_1580, wd_1581, wd_14, wd_1582, by decide +kernel⟩
theorem lkL_63 : LkV RL 63 RX5 yX5_smash cX5_smash 2 (some .boolean) 1 := ⟨wd_827, wd_828, wd_829, wd_1, wd_830, by decide +kernel⟩
theorem lkL_67 : LkV RL 67 RX6 yX6_smash cX6_smash 2 (some .boolean) 1 := ⟨wd_1583, wd_1584, wd_1585, wd_14, wd_1586, by decide +kernel⟩
theorem lkL_68 : LkV RL 68 RX5 yX5_undo cX5_undo 1 (some .boolean) 0 := ⟨wd_832, wd_833, wd_834, wd_1, wd_835, by decide +kernel⟩
theorem lkL_72 : LkV RL 72 RX6 yX6_undo cX6_undo 3 (some .boolean) 0 := ⟨wd_1587, wd_1588, wd_1589, wd_14, wd_1590, by decide +kernel⟩
theorem lkL_73 : LkV RL 73 RX5 yX5_look cX5_look 9 (some .int) 4 := ⟨wd_844, wd_845, wd_846, wd_1, wd_847, by decide +kernel⟩
theorem lkL_77 : LkV RL 77 RX6 yX6_look cX6_look 7 (some .int) 4 := ⟨wd_1591, wd_1592, wd_1593, wd_14, wd_1594, by decide +kernel⟩
theorem lkL_78 : LkV RL 78 RX5 yX5_last cX5_last 4 (some .int) 2 := ⟨wd_900, wd_901, wd_902, wd_1, wd_903, by decide +kernel⟩
theorem lkL_82 : LkV RL 82 RX6 yX6_last cX6_last 4 (some .int) 2 := ⟨wd_1607, wd_1608, wd_1609, wd_14, wd_1610, by decide +kernel⟩
theorem lkL_83 : LkV RL 83 RX5 yX5_visits cX5_visits 7 (some .int) 2 := ⟨wd_904, wd_905, wd_906, wd_1, wd_907, by decide +kernel⟩
theorem lkL_86 : LkV RL 86 RX6 yX6_visits cX6_visits 6 (some .int) 2 := ⟨wd_1611, wd_1612, wd_1613, wd_14, wd_1614, by decide +kernel⟩
theorem lkL_87 : LkV RL 87 RX5 yX5_alone cX5_alone 3 (some .int) 2 := ⟨wd_908, wd_909, wd_910, wd_1, wd_911, by decide +kernel⟩
theorem lkL_91 : LkV RL 91 RX6 yX6_alone cX6_alone 6 (some .int) 2 := ⟨wd_1615, wd_1616, wd_1617, wd_14, wd_1618, by decide +kernel⟩
theorem lkL_92 : LkV RL 92 RX5 yX5_lonely cX5_lonely 5 (some .int) 0 := ⟨wd_917, wd_918, wd_919, wd_1, wd_920, by decide +kernel⟩
theorem lkL_95 : LkV RL 95 RX6 yX6_lonely cX6_lonely 3 (some .int) 0 := ⟨wd_1627, wd_1628, wd_1629, wd_14, wd_1630, by decide +kernel⟩
theorem lkL_96 : LkV RL 96 RX5 yX5_together cX5_together 7 (some .int) 3 := ⟨wd_921, wd_922, wd_923, wd_1, wd_924, by decide +kernel⟩
theorem lkL_99 : LkV RL 99 RX6 yX6_together cX6_together 7 (some .int) 3 := ⟨wd_1631, wd_1632, wd_1633, wd_14, wd_1634, by decide +kernel⟩
theorem lkL_100 : LkV RL 100 RX5 yX5_facing cX5_facing 5 (some .int) 3 := ⟨wd_853, wd_854, wd_855, wd_1, wd_856, by decide +kernel⟩
theorem lkL_103 : LkV RL 103 RX6 yX6_facing cX6_facing 6 (some .int) 3 := ⟨wd_1599, wd_1600, wd_1601, wd_14, wd_1602, by decide +kernel⟩
theorem lkL_104 : LkV RL 104 RX5 yX5_glimpses cX5_glimpses 8 (some .int) 3 := ⟨wd_865, wd_866, wd_867, wd_1, wd_868, by decide +kernel⟩
theorem lkL_107 : LkV RL 107 RX6 yX6_glimpses cX6_glimpses 7 (some .int) 3 := ⟨wd_1635, wd_1636, wd_1637, wd_14, wd_1638, by decide +kernel⟩
theorem lkL_108 : LkV RL 108 RX5 yX5_ghosts cX5_ghosts 6 (some .int) 1 := ⟨wd_875, wd_876, wd_877, wd_1, wd_878, by decide +kernel⟩
theorem lkL_111 : LkV RL 111 RX6 yX6_ghosts cX6_ghosts 5 (some .int) 1 := ⟨wd_1647, wd_1648, wd_1649, wd_14, wd_1650, by decide +kernel⟩
theorem lkL_112 : LkV RL 112 RX5 yX5_oldest cX5_oldest 6 (some .int) 1 := ⟨wd_879, wd_880, wd_881, wd_1, wd_882, by decide +kernel⟩
theorem lkL_115 : LkV RL 115 RX6 yX6_oldest cX6_oldest 6 (some .int) 1 := ⟨wd_1651, wd_1652, wd_1653, wd_14, wd_1654, by decide +kernel⟩
theorem lkL_116 : LkV RL 116 RX5 yX5_shown cX5_shown 9 (some .int) 2 := ⟨wd_883, wd_884, wd_885, wd_1, wd_886, by decide +kernel⟩
theorem lkL_119 : LkV RL 119 RX6 yX6_shown cX6_shown 7 (some .int) 2 := ⟨wd_1655, wd_1656, wd_1657, wd_14, wd_1658, by decide +kernel⟩
theorem lkL_120 : LkV RL 120 RX5 yX5_deepest cX5_deepest 6 (some .int) 2 := ⟨wd_893, wd_894, wd_895, wd_1, wd_896, by decide +kernel⟩
theorem lkL_123 : LkV RL 123 RX6 yX6_deepest cX6_deepest 9 (some .int) 2 := ⟨wd_1603, wd_1604, wd_1605, wd_14, wd_1606, by decide +kernel⟩
theorem lkL_124 : LkV RL 124 RX5 yX5_crowd cX5_crowd 7 (some .int) 2 := ⟨wd_925, wd_926, wd_927, wd_1, wd_928, by decide +kernel⟩
theorem lkL_127 : LkV RL 127 RX6 yX6_crowd cX6_crowd 5 (some .int) 2 := ⟨wd_1643, wd_1644, wd_1645, wd_14, wd_1646, by decide +kernel⟩
theorem lkL_128 : LkV RL 128 RX5 yX5_rankFor cX5_rankFor 5 (some .int) 2 := ⟨wd_930, wd_931, wd_932, wd_1, wd_933, by decide +kernel⟩
theorem lkL_131 : LkV RL 131 RX6 yX6_rankFor cX6_rankFor 4 (some .int) 2 := ⟨wd_1659, wd_1660, wd_1661, wd_14, wd_1662, by decide +kernel⟩
theorem lkL_132 : LkV RL 132 RX5 yX5_view cX5_view 7 (some .int) 4 := ⟨wd_963, wd_964, wd_965, wd_1, wd_966, by decide +kernel⟩
theorem lkL_135 : LkV RL 135 RX6 yX6_view cX6_view 8 (some .int) 4 := ⟨wd_1702, wd_1703, wd_1704, wd_14, wd_1705, by decide +kernel⟩
theorem lkL_136 : LkV RL 136 RX5 yX5_willBe cX5_willBe 4 (some .int) 2 := ⟨wd_979, wd_980, wd_981, wd_1, wd_982, by decide +kernel⟩
theorem lkL_139 : LkV RL 139 RX6 yX6_willBe cX6_willBe 3 (some .int) 2 := ⟨wd_1694, wd_1695, wd_1696, wd_14, wd_1697, by decide +kernel⟩
theorem lkL_140 : LkV RL 140 RX5 yX5_rests cX5_rests 8 (some .int) 3 := ⟨wd_1020, wd_1021, wd_1022, wd_1, wd_1023, by decide +kernel⟩
theorem lkL_143 : LkV RL 143 RX6 yX6_rests cX6_rests 7 (some .int) 3 := ⟨wd_1726, wd_1727, wd_1728, wd_14, wd_1729, by decide +kernel⟩
theorem lkL_144 : LkV RL 144 RX5 yX5_still cX5_still 5 (some .int) 2 := ⟨wd_940, wd_941, wd_942, wd_1, wd_943, by decide +kernel⟩
theorem lkL_147 : LkV RL 147 RX6 yX6_still cX6_still 6 (some .int) 2 := ⟨wd_1663, wd_1664, wd_1665, wd_14, wd_1666, by decide +kernel⟩
theorem lkL_148 : LkV RL 148 RX5 yX5_soonest cX5_soonest 6 (some .int) 3 := ⟨wd_956, wd_957, wd_958, wd_1, wd_959, by decide +kernel⟩
theorem lkL_151 : LkV RL 151 RX6 yX6_soonest cX6_soonest 6 (some .int) 3 := ⟨wd_1675, wd_1676, wd_1677, wd_14, wd_1678, by decide +kernel⟩
theorem lkL_152 : LkV RL 152 RX5 yX5_seen cX5_seen 6 (some .int) 2 := ⟨wd_983, wd_984, wd_985, wd_1, wd_986, by decide +kernel⟩
theorem lkL_155 : LkV RL 155 RX6 yX6_seen cX6_seen 6 (some .int) 2 := ⟨wd_1679, wd_1680, wd_1681, wd_14, wd_1682, by decide +kernel⟩
theorem lkL_156 : LkV RL 156 RX5 yX5_jolt cX5_jolt 10 (some .int) 3 := ⟨wd_935, wd_936, wd_937, wd_1, wd_938, by decide +kernel⟩
theorem lkL_159 : LkV RL 159 RX6 yX6_jolt cX6_jolt 10 (some .int) 3 := ⟨wd_1738, wd_1739, wd_1740, wd_14, wd_1741, by decide +kernel⟩
theorem lkL_160 : LkV RL 160 RX5 yX5_hidden cX5_hidden 5 (some .int) 3 := ⟨wd_1004, wd_1005, wd_1006, wd_1, wd_1007, by decide +kernel⟩
theorem lkL_163 : LkV RL 163 RX6 yX6_hidden cX6_hidden 6 (some .int) 3 := ⟨wd_1710, wd_1711, wd_1712, wd_14, wd_1713, by decide +kernel⟩
theorem lkL_164 : LkV RL 164 RX5 yX5_stand cX5_stand 6 (some .int) 1 := ⟨wd_1016, wd_1017, wd_1018, wd_1, wd_1019, by decide +kernel⟩
theorem lkL_167 : LkV RL 167 RX6 yX6_stand cX6_stand 4 (some .int) 1 := ⟨wd_1718, wd_1719, wd_1720, wd_14, wd_1721, by decide +kernel⟩
theorem lkL_168 : LkV RL 168 RX5 yX5_turned cX5_turned 5 (some .int) 2 := ⟨wd_991, wd_992, wd_993, wd_1, wd_994, by decide +kernel⟩
theorem lkL_171 : LkV RL 171 RX6 yX6_turned cX6_turned 6 (some .int) 2 := ⟨wd_1690, wd_1691, wd_1692, wd_14, wd_1693, by decide +kernel⟩
theorem lkL_172 : LkV RL 172 RX5 yX5_odds cX5_odds 7 (some .int) 3 := ⟨wd_995, wd_996, wd_997, wd_1, wd_998, by decide +kernel⟩
theorem lkL_175 : LkV RL 175 RX6 yX6_odds cX6_odds 6 (some .int) 3 := ⟨wd_1698, wd_1699, wd_1700, wd_14, wd_1701, by decide +kernel⟩
theorem lkL_176 : LkV RL 176 RX5 yX5_tell cX5_tell 7 (some .int) 4 := ⟨wd_1032, wd_1033, wd_1034, wd_1, wd_1035, by decide +kernel⟩
theorem lkL_180 : LkV RL 180 RX6 yX6_tell cX6_tell 5 (some .int) 4 := ⟨wd_1742, wd_1743, wd_1744, wd_14, wd_1745, by decide +kernel⟩
theorem lkL_181 : LkV RL 181 RX5 yX5_forget cX5_forget 2 (some .int) 0 := ⟨wd_1036, wd_1037, wd_1038, wd_1, wd_1039, by decide +kernel⟩
theorem lkL_184 : LkV RL 184 RX6 yX6_forget cX6_forget 2 (some .int) 0 := ⟨wd_1746, wd_1747, wd_1748, wd_14, wd_1749, by decide +kernel⟩
theorem lkL_185 : LkV RL 185 RX5 yX5_began cX5_began 6 (some .int) 3 := ⟨wd_1040, wd_1041, wd_1042, wd_1, wd_1043, by decide +kernel⟩
theorem lkL_188 : LkV RL 188 RX6 yX6_began cX6_began 6 (some .int) 3 := ⟨wd_1750, wd_1751, wd_1752, wd_14, wd_1753, by decide +kernel⟩
theorem lkL_189 : LkV RL 189 RX5 yX5_hold cX5_hold 2 (some .boolean) 1 := ⟨wd_1048, wd_1049, wd_1050, wd_1, wd_1051, by decide +kernel⟩
theorem lkL_192 : LkV RL 192 RX6 yX6_hold cX6_hold 3 (some .boolean) 1 := ⟨wd_1758, wd_1759, wd_1760, wd_14, wd_1761, by decide +kernel⟩
theorem lkL_193 : LkV RL 193 RX5 yX5_restore cX5_restore 2 (some .boolean) 1 := ⟨wd_1052, wd_1053, wd_1054, wd_1, wd_1055, by decide +kernel⟩
theorem lkL_196 : LkV RL 196 RX6 yX6_restore cX6_restore 3 (some .boolean) 1 := ⟨wd_1762, wd_1763, wd_1764, wd_14, wd_1765, by decide +kernel⟩
theorem lkL_197 : LkV RL 197 RX5 yX5_count cX5_count 2 (some .int) 1 := ⟨wd_1056, wd_1057, wd_1058, wd_1, wd_1059, by decide +kernel⟩
theorem lkL_200 : LkV RL 200 RX6 yX6_count cX6_count 4 (some .int) 1 := ⟨wd_1766, wd_1767, wd_1768, wd_14, wd_1769, by decide +kernel⟩
