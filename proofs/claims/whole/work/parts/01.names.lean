-- ===== PART A: goes FIRST, ahead of the names: the tables' words, and 'selects' of the private methods out of them =====
/-- a private method of a class that the tables say can be made, by its rows of tables_1 -/
def lw_okq (q : MethodName × Nat) : Prop := (q.1.cls ≠ "java/lang/invoke/MethodHandle" ∧ q.1.cls ≠ "java/lang/invoke/VarHandle") ∧ Cond.instantiable q.1.cls q.2 ∈ tables_1 ∧ Cond.privateMethod q.1 ∈ tables_1 ∧ Cond.instanceMethod q.1 ∈ tables_1
theorem lw_p0 : lw_okq (⟨"LateMirrors$Text", "clear", "()V"⟩, 19) := ⟨⟨by decide +kernel, by decide +kernel⟩, List.mem_of_getElem? (i := 152) (by decide +kernel), List.mem_of_getElem? (i := 187) (by decide +kernel), List.mem_of_getElem? (i := 188) (by decide +kernel)⟩
theorem lw_p1 : lw_okq (⟨"LateMirrors$Laws", "clear", "()V"⟩, 7) := ⟨⟨by decide +kernel, by decide +kernel⟩, List.mem_of_getElem? (i := 158) (by decide +kernel), List.mem_of_getElem? (i := 191) (by decide +kernel), List.mem_of_getElem? (i := 192) (by decide +kernel)⟩
theorem lw_p2 : lw_okq (⟨"LateMirrors$Laws", "emit", "(II)V"⟩, 7) := ⟨⟨by decide +kernel, by decide +kernel⟩, List.mem_of_getElem? (i := 158) (by decide +kernel), List.mem_of_getElem? (i := 195) (by decide +kernel), List.mem_of_getElem? (i := 196) (by decide +kernel)⟩
theorem lw_p3 : lw_okq (⟨"LateMirrors$Court", "begin", "(LLateMirrors$Text;)V"⟩, 9) := ⟨⟨by decide +kernel, by decide +kernel⟩, List.mem_of_getElem? (i := 275) (by decide +kernel), List.mem_of_getElem? (i := 281) (by decide +kernel), List.mem_of_getElem? (i := 282) (by decide +kernel)⟩
theorem lw_p4 : lw_okq (⟨"LateMirrors$Court", "setLates", "()V"⟩, 9) := ⟨⟨by decide +kernel, by decide +kernel⟩, List.mem_of_getElem? (i := 275) (by decide +kernel), List.mem_of_getElem? (i := 293) (by decide +kernel), List.mem_of_getElem? (i := 294) (by decide +kernel)⟩
theorem lw_p5 : lw_okq (⟨"LateMirrors$Text", "ownerOf", "(I)I"⟩, 19) := ⟨⟨by decide +kernel, by decide +kernel⟩, List.mem_of_getElem? (i := 152) (by decide +kernel), List.mem_of_getElem? (i := 297) (by decide +kernel), List.mem_of_getElem? (i := 298) (by decide +kernel)⟩
theorem lw_p6 : lw_okq (⟨"LateMirrors$Court", "rankOf", "(II)I"⟩, 9) := ⟨⟨by decide +kernel, by decide +kernel⟩, List.mem_of_getElem? (i := 275) (by decide +kernel), List.mem_of_getElem? (i := 304) (by decide +kernel), List.mem_of_getElem? (i := 305) (by decide +kernel)⟩
theorem lw_p7 : lw_okq (⟨"LateMirrors$Court", "lateWith", "(II)I"⟩, 9) := ⟨⟨by decide +kernel, by decide +kernel⟩, List.mem_of_getElem? (i := 275) (by decide +kernel), List.mem_of_getElem? (i := 309) (by decide +kernel), List.mem_of_getElem? (i := 310) (by decide +kernel)⟩
theorem lw_p8 : lw_okq (⟨"LateMirrors$Court", "hangOf", "(II)I"⟩, 9) := ⟨⟨by decide +kernel, by decide +kernel⟩, List.mem_of_getElem? (i := 275) (by decide +kernel), List.mem_of_getElem? (i := 313) (by decide +kernel), List.mem_of_getElem? (i := 314) (by decide +kernel)⟩
theorem lw_p9 : lw_okq (⟨"LateMirrors$Court", "menIn", "(II)I"⟩, 9) := ⟨⟨by decide +kernel, by decide +kernel⟩, List.mem_of_getElem? (i := 275) (by decide +kernel), List.mem_of_getElem? (i := 317) (by decide +kernel), List.mem_of_getElem? (i := 318) (by decide +kernel)⟩
theorem lw_p10 : lw_okq (⟨"LateMirrors$Text", "waysOf", "(I)I"⟩, 19) := ⟨⟨by decide +kernel, by decide +kernel⟩, List.mem_of_getElem? (i := 152) (by decide +kernel), List.mem_of_getElem? (i := 327) (by decide +kernel), List.mem_of_getElem? (i := 328) (by decide +kernel)⟩
theorem lw_p11 : lw_okq (⟨"LateMirrors$Laws", "setVars", "(IIIIII)V"⟩, 7) := ⟨⟨by decide +kernel, by decide +kernel⟩, List.mem_of_getElem? (i := 158) (by decide +kernel), List.mem_of_getElem? (i := 331) (by decide +kernel), List.mem_of_getElem? (i := 332) (by decide +kernel)⟩
theorem lw_p12 : lw_okq (⟨"LateMirrors$Laws", "valueOf", "(I)I"⟩, 7) := ⟨⟨by decide +kernel, by decide +kernel⟩, List.mem_of_getElem? (i := 158) (by decide +kernel), List.mem_of_getElem? (i := 335) (by decide +kernel), List.mem_of_getElem? (i := 336) (by decide +kernel)⟩
theorem lw_p13 : lw_okq (⟨"LateMirrors", "addBytes", "(I)V"⟩, 16) := ⟨⟨by decide +kernel, by decide +kernel⟩, List.mem_of_getElem? (i := 17) (by decide +kernel), List.mem_of_getElem? (i := 448) (by decide +kernel), List.mem_of_getElem? (i := 449) (by decide +kernel)⟩
theorem lw_p14 : lw_okq (⟨"LateMirrors$Scanner", "scan", "([II)I"⟩, 15) := ⟨⟨by decide +kernel, by decide +kernel⟩, List.mem_of_getElem? (i := 25) (by decide +kernel), List.mem_of_getElem? (i := 461) (by decide +kernel), List.mem_of_getElem? (i := 462) (by decide +kernel)⟩
theorem lw_p15 : lw_okq (⟨"LateMirrors$Scanner", "clear", "()V"⟩, 15) := ⟨⟨by decide +kernel, by decide +kernel⟩, List.mem_of_getElem? (i := 25) (by decide +kernel), List.mem_of_getElem? (i := 465) (by decide +kernel), List.mem_of_getElem? (i := 466) (by decide +kernel)⟩
def lw_privs_1 : List (MethodName × Nat) := [(⟨"LateMirrors$Text", "clear", "()V"⟩, 19), (⟨"LateMirrors$Laws", "clear", "()V"⟩, 7), (⟨"LateMirrors$Laws", "emit", "(II)V"⟩, 7), (⟨"LateMirrors$Court", "begin", "(LLateMirrors$Text;)V"⟩, 9), (⟨"LateMirrors$Court", "setLates", "()V"⟩, 9), (⟨"LateMirrors$Text", "ownerOf", "(I)I"⟩, 19), (⟨"LateMirrors$Court", "rankOf", "(II)I"⟩, 9), (⟨"LateMirrors$Court", "lateWith", "(II)I"⟩, 9), (⟨"LateMirrors$Court", "hangOf", "(II)I"⟩, 9), (⟨"LateMirrors$Court", "menIn", "(II)I"⟩, 9), (⟨"LateMirrors$Text", "waysOf", "(I)I"⟩, 19), (⟨"LateMirrors$Laws", "setVars", "(IIIIII)V"⟩, 7), (⟨"LateMirrors$Laws", "valueOf", "(I)I"⟩, 7), (⟨"LateMirrors", "addBytes", "(I)V"⟩, 16), (⟨"LateMirrors$Scanner", "scan", "([II)I"⟩, 15), (⟨"LateMirrors$Scanner", "clear", "()V"⟩, 15)]
theorem lw_r1 : ∀ q ∈ lw_privs_1, lw_okq q := List.forall_mem_cons.mpr ⟨lw_p0, List.forall_mem_cons.mpr ⟨lw_p1, List.forall_mem_cons.mpr ⟨lw_p2, List.forall_mem_cons.mpr ⟨lw_p3, List.forall_mem_cons.mpr ⟨lw_p4, List.forall_mem_cons.mpr ⟨lw_p5, List.forall_mem_cons.mpr ⟨lw_p6, List.forall_mem_cons.mpr ⟨lw_p7, List.forall_mem_cons.mpr ⟨lw_p8, List.forall_mem_cons.mpr ⟨lw_p9, List.forall_mem_cons.mpr ⟨lw_p10, List.forall_mem_cons.mpr ⟨lw_p11, List.forall_mem_cons.mpr ⟨lw_p12, List.forall_mem_cons.mpr ⟨lw_p13, List.forall_mem_cons.mpr ⟨lw_p14, List.forall_mem_cons.mpr ⟨lw_p15, fun _ h => absurd h List.not_mem_nil⟩⟩⟩⟩⟩⟩⟩⟩⟩⟩⟩⟩⟩⟩⟩⟩
theorem lw_p16 : lw_okq (⟨"LateMirrors$Scanner", "kindOf", "([III)I"⟩, 15) := ⟨⟨by decide +kernel, by decide +kernel⟩, List.mem_of_getElem? (i := 25) (by decide +kernel), List.mem_of_getElem? (i := 486) (by decide +kernel), List.mem_of_getElem? (i := 487) (by decide +kernel)⟩
theorem lw_p17 : lw_okq (⟨"LateMirrors$Scanner", "kindOfName", "([III)I"⟩, 15) := ⟨⟨by decide +kernel, by decide +kernel⟩, List.mem_of_getElem? (i := 25) (by decide +kernel), List.mem_of_getElem? (i := 490) (by decide +kernel), List.mem_of_getElem? (i := 491) (by decide +kernel)⟩
theorem lw_p18 : lw_okq (⟨"LateMirrors$Scanner", "goesOn", "(I)Z"⟩, 15) := ⟨⟨by decide +kernel, by decide +kernel⟩, List.mem_of_getElem? (i := 25) (by decide +kernel), List.mem_of_getElem? (i := 554) (by decide +kernel), List.mem_of_getElem? (i := 555) (by decide +kernel)⟩
theorem lw_p19 : lw_okq (⟨"LateMirrors$Scanner", "tellBegins", "(I)Z"⟩, 15) := ⟨⟨by decide +kernel, by decide +kernel⟩, List.mem_of_getElem? (i := 25) (by decide +kernel), List.mem_of_getElem? (i := 558) (by decide +kernel), List.mem_of_getElem? (i := 559) (by decide +kernel)⟩
theorem lw_p20 : lw_okq (⟨"LateMirrors$Scanner", "lawGoesOn", "(I)Z"⟩, 15) := ⟨⟨by decide +kernel, by decide +kernel⟩, List.mem_of_getElem? (i := 25) (by decide +kernel), List.mem_of_getElem? (i := 575) (by decide +kernel), List.mem_of_getElem? (i := 576) (by decide +kernel)⟩
theorem lw_p21 : lw_okq (⟨"LateMirrors$Scanner", "beginE", "(I)V"⟩, 15) := ⟨⟨by decide +kernel, by decide +kernel⟩, List.mem_of_getElem? (i := 25) (by decide +kernel), List.mem_of_getElem? (i := 579) (by decide +kernel), List.mem_of_getElem? (i := 580) (by decide +kernel)⟩
theorem lw_p22 : lw_okq (⟨"LateMirrors$Scanner", "unitBegins", "(I)Z"⟩, 15) := ⟨⟨by decide +kernel, by decide +kernel⟩, List.mem_of_getElem? (i := 25) (by decide +kernel), List.mem_of_getElem? (i := 583) (by decide +kernel), List.mem_of_getElem? (i := 584) (by decide +kernel)⟩
theorem lw_p23 : lw_okq (⟨"LateMirrors$Scanner", "unitEnded", "(I)Z"⟩, 15) := ⟨⟨by decide +kernel, by decide +kernel⟩, List.mem_of_getElem? (i := 25) (by decide +kernel), List.mem_of_getElem? (i := 587) (by decide +kernel), List.mem_of_getElem? (i := 588) (by decide +kernel)⟩
theorem lw_p24 : lw_okq (⟨"LateMirrors$Scanner", "partEnds", "(I)Z"⟩, 15) := ⟨⟨by decide +kernel, by decide +kernel⟩, List.mem_of_getElem? (i := 25) (by decide +kernel), List.mem_of_getElem? (i := 591) (by decide +kernel), List.mem_of_getElem? (i := 592) (by decide +kernel)⟩
theorem lw_p25 : lw_okq (⟨"LateMirrors$Scanner", "fail", "(II)I"⟩, 15) := ⟨⟨by decide +kernel, by decide +kernel⟩, List.mem_of_getElem? (i := 25) (by decide +kernel), List.mem_of_getElem? (i := 595) (by decide +kernel), List.mem_of_getElem? (i := 596) (by decide +kernel)⟩
theorem lw_p26 : lw_okq (⟨"LateMirrors$Scanner", "tooMany", "()Z"⟩, 15) := ⟨⟨by decide +kernel, by decide +kernel⟩, List.mem_of_getElem? (i := 25) (by decide +kernel), List.mem_of_getElem? (i := 599) (by decide +kernel), List.mem_of_getElem? (i := 600) (by decide +kernel)⟩
theorem lw_p27 : lw_okq (⟨"LateMirrors$Scanner", "add", "(II)V"⟩, 15) := ⟨⟨by decide +kernel, by decide +kernel⟩, List.mem_of_getElem? (i := 25) (by decide +kernel), List.mem_of_getElem? (i := 603) (by decide +kernel), List.mem_of_getElem? (i := 604) (by decide +kernel)⟩
theorem lw_p28 : lw_okq (⟨"LateMirrors$Text", "build", "(LLateMirrors$Scanner;)I"⟩, 19) := ⟨⟨by decide +kernel, by decide +kernel⟩, List.mem_of_getElem? (i := 152) (by decide +kernel), List.mem_of_getElem? (i := 607) (by decide +kernel), List.mem_of_getElem? (i := 608) (by decide +kernel)⟩
theorem lw_p29 : lw_okq (⟨"LateMirrors$Text", "take", "(LLateMirrors$Scanner;I)I"⟩, 19) := ⟨⟨by decide +kernel, by decide +kernel⟩, List.mem_of_getElem? (i := 152) (by decide +kernel), List.mem_of_getElem? (i := 611) (by decide +kernel), List.mem_of_getElem? (i := 612) (by decide +kernel)⟩
theorem lw_p30 : lw_okq (⟨"LateMirrors$Text", "declare", "(LLateMirrors$Scanner;III)V"⟩, 19) := ⟨⟨by decide +kernel, by decide +kernel⟩, List.mem_of_getElem? (i := 152) (by decide +kernel), List.mem_of_getElem? (i := 615) (by decide +kernel), List.mem_of_getElem? (i := 616) (by decide +kernel)⟩
theorem lw_p31 : lw_okq (⟨"LateMirrors$Text", "meaningOf", "(J)I"⟩, 19) := ⟨⟨by decide +kernel, by decide +kernel⟩, List.mem_of_getElem? (i := 152) (by decide +kernel), List.mem_of_getElem? (i := 620) (by decide +kernel), List.mem_of_getElem? (i := 621) (by decide +kernel)⟩
def lw_privs_2 : List (MethodName × Nat) := [(⟨"LateMirrors$Scanner", "kindOf", "([III)I"⟩, 15), (⟨"LateMirrors$Scanner", "kindOfName", "([III)I"⟩, 15), (⟨"LateMirrors$Scanner", "goesOn", "(I)Z"⟩, 15), (⟨"LateMirrors$Scanner", "tellBegins", "(I)Z"⟩, 15), (⟨"LateMirrors$Scanner", "lawGoesOn", "(I)Z"⟩, 15), (⟨"LateMirrors$Scanner", "beginE", "(I)V"⟩, 15), (⟨"LateMirrors$Scanner", "unitBegins", "(I)Z"⟩, 15), (⟨"LateMirrors$Scanner", "unitEnded", "(I)Z"⟩, 15), (⟨"LateMirrors$Scanner", "partEnds", "(I)Z"⟩, 15), (⟨"LateMirrors$Scanner", "fail", "(II)I"⟩, 15), (⟨"LateMirrors$Scanner", "tooMany", "()Z"⟩, 15), (⟨"LateMirrors$Scanner", "add", "(II)V"⟩, 15), (⟨"LateMirrors$Text", "build", "(LLateMirrors$Scanner;)I"⟩, 19), (⟨"LateMirrors$Text", "take", "(LLateMirrors$Scanner;I)I"⟩, 19), (⟨"LateMirrors$Text", "declare", "(LLateMirrors$Scanner;III)V"⟩, 19), (⟨"LateMirrors$Text", "meaningOf", "(J)I"⟩, 19)]
theorem lw_r2 : ∀ q ∈ lw_privs_2, lw_okq q := List.forall_mem_cons.mpr ⟨lw_p16, List.forall_mem_cons.mpr ⟨lw_p17, List.forall_mem_cons.mpr ⟨lw_p18, List.forall_mem_cons.mpr ⟨lw_p19, List.forall_mem_cons.mpr ⟨lw_p20, List.forall_mem_cons.mpr ⟨lw_p21, List.forall_mem_cons.mpr ⟨lw_p22, List.forall_mem_cons.mpr ⟨lw_p23, List.forall_mem_cons.mpr ⟨lw_p24, List.forall_mem_cons.mpr ⟨lw_p25, List.forall_mem_cons.mpr ⟨lw_p26, List.forall_mem_cons.mpr ⟨lw_p27, List.forall_mem_cons.mpr ⟨lw_p28, List.forall_mem_cons.mpr ⟨lw_p29, List.forall_mem_cons.mpr ⟨lw_p30, List.forall_mem_cons.mpr ⟨lw_p31, fun _ h => absurd h List.not_mem_nil⟩⟩⟩⟩⟩⟩⟩⟩⟩⟩⟩⟩⟩⟩⟩⟩
theorem lw_p32 : lw_okq (⟨"LateMirrors$Text", "fail", "(ILLateMirrors$Scanner;I)V"⟩, 19) := ⟨⟨by decide +kernel, by decide +kernel⟩, List.mem_of_getElem? (i := 152) (by decide +kernel), List.mem_of_getElem? (i := 624) (by decide +kernel), List.mem_of_getElem? (i := 625) (by decide +kernel)⟩
theorem lw_p33 : lw_okq (⟨"LateMirrors$Text", "takeDoor", "(LLateMirrors$Scanner;I)V"⟩, 19) := ⟨⟨by decide +kernel, by decide +kernel⟩, List.mem_of_getElem? (i := 152) (by decide +kernel), List.mem_of_getElem? (i := 630) (by decide +kernel), List.mem_of_getElem? (i := 631) (by decide +kernel)⟩
theorem lw_p34 : lw_okq (⟨"LateMirrors$Text", "named", "(LLateMirrors$Scanner;II)I"⟩, 19) := ⟨⟨by decide +kernel, by decide +kernel⟩, List.mem_of_getElem? (i := 152) (by decide +kernel), List.mem_of_getElem? (i := 634) (by decide +kernel), List.mem_of_getElem? (i := 635) (by decide +kernel)⟩
theorem lw_p35 : lw_okq (⟨"LateMirrors$Text", "takeMan", "(LLateMirrors$Scanner;I)V"⟩, 19) := ⟨⟨by decide +kernel, by decide +kernel⟩, List.mem_of_getElem? (i := 152) (by decide +kernel), List.mem_of_getElem? (i := 638) (by decide +kernel), List.mem_of_getElem? (i := 639) (by decide +kernel)⟩
theorem lw_p36 : lw_okq (⟨"LateMirrors$Text", "number", "(LLateMirrors$Scanner;II)I"⟩, 19) := ⟨⟨by decide +kernel, by decide +kernel⟩, List.mem_of_getElem? (i := 152) (by decide +kernel), List.mem_of_getElem? (i := 642) (by decide +kernel), List.mem_of_getElem? (i := 643) (by decide +kernel)⟩
theorem lw_p37 : lw_okq (⟨"LateMirrors$Laws", "compile", "(LLateMirrors$Scanner;I)I"⟩, 7) := ⟨⟨by decide +kernel, by decide +kernel⟩, List.mem_of_getElem? (i := 158) (by decide +kernel), List.mem_of_getElem? (i := 646) (by decide +kernel), List.mem_of_getElem? (i := 647) (by decide +kernel)⟩
theorem lw_p38 : lw_okq (⟨"LateMirrors$Laws", "putOff", "(I)V"⟩, 7) := ⟨⟨by decide +kernel, by decide +kernel⟩, List.mem_of_getElem? (i := 158) (by decide +kernel), List.mem_of_getElem? (i := 651) (by decide +kernel), List.mem_of_getElem? (i := 652) (by decide +kernel)⟩
theorem lw_p39 : lw_okq (⟨"LateMirrors$Laws", "unwind", "(I)V"⟩, 7) := ⟨⟨by decide +kernel, by decide +kernel⟩, List.mem_of_getElem? (i := 158) (by decide +kernel), List.mem_of_getElem? (i := 661) (by decide +kernel), List.mem_of_getElem? (i := 662) (by decide +kernel)⟩
theorem lw_p40 : lw_okq (⟨"LateMirrors$Laws", "endPart", "(II)I"⟩, 7) := ⟨⟨by decide +kernel, by decide +kernel⟩, List.mem_of_getElem? (i := 158) (by decide +kernel), List.mem_of_getElem? (i := 665) (by decide +kernel), List.mem_of_getElem? (i := 666) (by decide +kernel)⟩
theorem lw_p41 : lw_okq (⟨"LateMirrors$Text", "takeMirror", "(LLateMirrors$Scanner;I)V"⟩, 19) := ⟨⟨by decide +kernel, by decide +kernel⟩, List.mem_of_getElem? (i := 152) (by decide +kernel), List.mem_of_getElem? (i := 669) (by decide +kernel), List.mem_of_getElem? (i := 670) (by decide +kernel)⟩
theorem lw_p42 : lw_okq (⟨"LateMirrors", "takeSpare", "()V"⟩, 16) := ⟨⟨by decide +kernel, by decide +kernel⟩, List.mem_of_getElem? (i := 17) (by decide +kernel), List.mem_of_getElem? (i := 673) (by decide +kernel), List.mem_of_getElem? (i := 674) (by decide +kernel)⟩
theorem lw_p43 : lw_okq (⟨"LateMirrors$Past", "clear", "()V"⟩, 3) := ⟨⟨by decide +kernel, by decide +kernel⟩, List.mem_of_getElem? (i := 377) (by decide +kernel), List.mem_of_getElem? (i := 678) (by decide +kernel), List.mem_of_getElem? (i := 679) (by decide +kernel)⟩
theorem lw_p44 : lw_okq (⟨"LateMirrors", "isMan", "(I)Z"⟩, 16) := ⟨⟨by decide +kernel, by decide +kernel⟩, List.mem_of_getElem? (i := 17) (by decide +kernel), List.mem_of_getElem? (i := 690) (by decide +kernel), List.mem_of_getElem? (i := 691) (by decide +kernel)⟩
theorem lw_p45 : lw_okq (⟨"LateMirrors", "isPast", "(I)Z"⟩, 16) := ⟨⟨by decide +kernel, by decide +kernel⟩, List.mem_of_getElem? (i := 17) (by decide +kernel), List.mem_of_getElem? (i := 695) (by decide +kernel), List.mem_of_getElem? (i := 696) (by decide +kernel)⟩
theorem lw_p46 : lw_okq (⟨"LateMirrors$Court", "roomOf", "(II)I"⟩, 9) := ⟨⟨by decide +kernel, by decide +kernel⟩, List.mem_of_getElem? (i := 275) (by decide +kernel), List.mem_of_getElem? (i := 699) (by decide +kernel), List.mem_of_getElem? (i := 700) (by decide +kernel)⟩
theorem lw_p47 : lw_okq (⟨"LateMirrors", "isMirror", "(I)Z"⟩, 16) := ⟨⟨by decide +kernel, by decide +kernel⟩, List.mem_of_getElem? (i := 17) (by decide +kernel), List.mem_of_getElem? (i := 708) (by decide +kernel), List.mem_of_getElem? (i := 709) (by decide +kernel)⟩
def lw_privs_3 : List (MethodName × Nat) := [(⟨"LateMirrors$Text", "fail", "(ILLateMirrors$Scanner;I)V"⟩, 19), (⟨"LateMirrors$Text", "takeDoor", "(LLateMirrors$Scanner;I)V"⟩, 19), (⟨"LateMirrors$Text", "named", "(LLateMirrors$Scanner;II)I"⟩, 19), (⟨"LateMirrors$Text", "takeMan", "(LLateMirrors$Scanner;I)V"⟩, 19), (⟨"LateMirrors$Text", "number", "(LLateMirrors$Scanner;II)I"⟩, 19), (⟨"LateMirrors$Laws", "compile", "(LLateMirrors$Scanner;I)I"⟩, 7), (⟨"LateMirrors$Laws", "putOff", "(I)V"⟩, 7), (⟨"LateMirrors$Laws", "unwind", "(I)V"⟩, 7), (⟨"LateMirrors$Laws", "endPart", "(II)I"⟩, 7), (⟨"LateMirrors$Text", "takeMirror", "(LLateMirrors$Scanner;I)V"⟩, 19), (⟨"LateMirrors", "takeSpare", "()V"⟩, 16), (⟨"LateMirrors$Past", "clear", "()V"⟩, 3), (⟨"LateMirrors", "isMan", "(I)Z"⟩, 16), (⟨"LateMirrors", "isPast", "(I)Z"⟩, 16), (⟨"LateMirrors$Court", "roomOf", "(II)I"⟩, 9), (⟨"LateMirrors", "isMirror", "(I)Z"⟩, 16)]
theorem lw_r3 : ∀ q ∈ lw_privs_3, lw_okq q := List.forall_mem_cons.mpr ⟨lw_p32, List.forall_mem_cons.mpr ⟨lw_p33, List.forall_mem_cons.mpr ⟨lw_p34, List.forall_mem_cons.mpr ⟨lw_p35, List.forall_mem_cons.mpr ⟨lw_p36, List.forall_mem_cons.mpr ⟨lw_p37, List.forall_mem_cons.mpr ⟨lw_p38, List.forall_mem_cons.mpr ⟨lw_p39, List.forall_mem_cons.mpr ⟨lw_p40, List.forall_mem_cons.mpr ⟨lw_p41, List.forall_mem_cons.mpr ⟨lw_p42, List.forall_mem_cons.mpr ⟨lw_p43, List.forall_mem_cons.mpr ⟨lw_p44, List.forall_mem_cons.mpr ⟨lw_p45, List.forall_mem_cons.mpr ⟨lw_p46, List.forall_mem_cons.mpr ⟨lw_p47, fun _ h => absurd h List.not_mem_nil⟩⟩⟩⟩⟩⟩⟩⟩⟩⟩⟩⟩⟩⟩⟩⟩
theorem lw_p48 : lw_okq (⟨"LateMirrors$Court", "lateOf", "(II)I"⟩, 9) := ⟨⟨by decide +kernel, by decide +kernel⟩, List.mem_of_getElem? (i := 275) (by decide +kernel), List.mem_of_getElem? (i := 713) (by decide +kernel), List.mem_of_getElem? (i := 714) (by decide +kernel)⟩
theorem lw_p49 : lw_okq (⟨"LateMirrors$Court", "isTurned", "(II)Z"⟩, 9) := ⟨⟨by decide +kernel, by decide +kernel⟩, List.mem_of_getElem? (i := 275) (by decide +kernel), List.mem_of_getElem? (i := 717) (by decide +kernel), List.mem_of_getElem? (i := 718) (by decide +kernel)⟩
theorem lw_p50 : lw_okq (⟨"LateMirrors$Court", "isBroken", "(II)Z"⟩, 9) := ⟨⟨by decide +kernel, by decide +kernel⟩, List.mem_of_getElem? (i := 275) (by decide +kernel), List.mem_of_getElem? (i := 724) (by decide +kernel), List.mem_of_getElem? (i := 725) (by decide +kernel)⟩
theorem lw_p51 : lw_okq (⟨"LateMirrors$Court", "showing", "(II)I"⟩, 9) := ⟨⟨by decide +kernel, by decide +kernel⟩, List.mem_of_getElem? (i := 275) (by decide +kernel), List.mem_of_getElem? (i := 728) (by decide +kernel), List.mem_of_getElem? (i := 729) (by decide +kernel)⟩
theorem lw_p52 : lw_okq (⟨"LateMirrors$Court", "roomShown", "(II)I"⟩, 9) := ⟨⟨by decide +kernel, by decide +kernel⟩, List.mem_of_getElem? (i := 275) (by decide +kernel), List.mem_of_getElem? (i := 735) (by decide +kernel), List.mem_of_getElem? (i := 736) (by decide +kernel)⟩
theorem lw_p53 : lw_okq (⟨"LateMirrors$Court", "menShown", "(II)I"⟩, 9) := ⟨⟨by decide +kernel, by decide +kernel⟩, List.mem_of_getElem? (i := 275) (by decide +kernel), List.mem_of_getElem? (i := 740) (by decide +kernel), List.mem_of_getElem? (i := 741) (by decide +kernel)⟩
theorem lw_p54 : lw_okq (⟨"LateMirrors$Past", "keep", "(LLateMirrors$Court;)V"⟩, 3) := ⟨⟨by decide +kernel, by decide +kernel⟩, List.mem_of_getElem? (i := 377) (by decide +kernel), List.mem_of_getElem? (i := 748) (by decide +kernel), List.mem_of_getElem? (i := 749) (by decide +kernel)⟩
theorem lw_p55 : lw_okq (⟨"LateMirrors$Court", "keepIn", "([II)V"⟩, 9) := ⟨⟨by decide +kernel, by decide +kernel⟩, List.mem_of_getElem? (i := 275) (by decide +kernel), List.mem_of_getElem? (i := 752) (by decide +kernel), List.mem_of_getElem? (i := 753) (by decide +kernel)⟩
theorem lw_p56 : lw_okq (⟨"LateMirrors$Court", "goTo", "(I)V"⟩, 9) := ⟨⟨by decide +kernel, by decide +kernel⟩, List.mem_of_getElem? (i := 275) (by decide +kernel), List.mem_of_getElem? (i := 756) (by decide +kernel), List.mem_of_getElem? (i := 757) (by decide +kernel)⟩
theorem lw_p57 : lw_okq (⟨"LateMirrors$Court", "moveMen", "()V"⟩, 9) := ⟨⟨by decide +kernel, by decide +kernel⟩, List.mem_of_getElem? (i := 275) (by decide +kernel), List.mem_of_getElem? (i := 760) (by decide +kernel), List.mem_of_getElem? (i := 761) (by decide +kernel)⟩
theorem lw_p58 : lw_okq (⟨"LateMirrors$Court", "roomAfter", "(I)I"⟩, 9) := ⟨⟨by decide +kernel, by decide +kernel⟩, List.mem_of_getElem? (i := 275) (by decide +kernel), List.mem_of_getElem? (i := 764) (by decide +kernel), List.mem_of_getElem? (i := 765) (by decide +kernel)⟩
theorem lw_p59 : lw_okq (⟨"LateMirrors$Text", "wayTo", "(II)I"⟩, 19) := ⟨⟨by decide +kernel, by decide +kernel⟩, List.mem_of_getElem? (i := 152) (by decide +kernel), List.mem_of_getElem? (i := 769) (by decide +kernel), List.mem_of_getElem? (i := 770) (by decide +kernel)⟩
theorem lw_p60 : lw_okq (⟨"LateMirrors$Text", "breaksAt", "(III)Z"⟩, 19) := ⟨⟨by decide +kernel, by decide +kernel⟩, List.mem_of_getElem? (i := 152) (by decide +kernel), List.mem_of_getElem? (i := 773) (by decide +kernel), List.mem_of_getElem? (i := 774) (by decide +kernel)⟩
theorem lw_p61 : lw_okq (⟨"LateMirrors$Court", "breakNow", "(I)V"⟩, 9) := ⟨⟨by decide +kernel, by decide +kernel⟩, List.mem_of_getElem? (i := 275) (by decide +kernel), List.mem_of_getElem? (i := 784) (by decide +kernel), List.mem_of_getElem? (i := 785) (by decide +kernel)⟩
theorem lw_p62 : lw_okq (⟨"LateMirrors$Court", "putMan", "(II)V"⟩, 9) := ⟨⟨by decide +kernel, by decide +kernel⟩, List.mem_of_getElem? (i := 275) (by decide +kernel), List.mem_of_getElem? (i := 793) (by decide +kernel), List.mem_of_getElem? (i := 794) (by decide +kernel)⟩
theorem lw_p63 : lw_okq (⟨"LateMirrors$Court", "putRank", "(II)V"⟩, 9) := ⟨⟨by decide +kernel, by decide +kernel⟩, List.mem_of_getElem? (i := 275) (by decide +kernel), List.mem_of_getElem? (i := 804) (by decide +kernel), List.mem_of_getElem? (i := 805) (by decide +kernel)⟩
def lw_privs_4 : List (MethodName × Nat) := [(⟨"LateMirrors$Court", "lateOf", "(II)I"⟩, 9), (⟨"LateMirrors$Court", "isTurned", "(II)Z"⟩, 9), (⟨"LateMirrors$Court", "isBroken", "(II)Z"⟩, 9), (⟨"LateMirrors$Court", "showing", "(II)I"⟩, 9), (⟨"LateMirrors$Court", "roomShown", "(II)I"⟩, 9), (⟨"LateMirrors$Court", "menShown", "(II)I"⟩, 9), (⟨"LateMirrors$Past", "keep", "(LLateMirrors$Court;)V"⟩, 3), (⟨"LateMirrors$Court", "keepIn", "([II)V"⟩, 9), (⟨"LateMirrors$Court", "goTo", "(I)V"⟩, 9), (⟨"LateMirrors$Court", "moveMen", "()V"⟩, 9), (⟨"LateMirrors$Court", "roomAfter", "(I)I"⟩, 9), (⟨"LateMirrors$Text", "wayTo", "(II)I"⟩, 19), (⟨"LateMirrors$Text", "breaksAt", "(III)Z"⟩, 19), (⟨"LateMirrors$Court", "breakNow", "(I)V"⟩, 9), (⟨"LateMirrors$Court", "putMan", "(II)V"⟩, 9), (⟨"LateMirrors$Court", "putRank", "(II)V"⟩, 9)]
theorem lw_r4 : ∀ q ∈ lw_privs_4, lw_okq q := List.forall_mem_cons.mpr ⟨lw_p48, List.forall_mem_cons.mpr ⟨lw_p49, List.forall_mem_cons.mpr ⟨lw_p50, List.forall_mem_cons.mpr ⟨lw_p51, List.forall_mem_cons.mpr ⟨lw_p52, List.forall_mem_cons.mpr ⟨lw_p53, List.forall_mem_cons.mpr ⟨lw_p54, List.forall_mem_cons.mpr ⟨lw_p55, List.forall_mem_cons.mpr ⟨lw_p56, List.forall_mem_cons.mpr ⟨lw_p57, List.forall_mem_cons.mpr ⟨lw_p58, List.forall_mem_cons.mpr ⟨lw_p59, List.forall_mem_cons.mpr ⟨lw_p60, List.forall_mem_cons.mpr ⟨lw_p61, List.forall_mem_cons.mpr ⟨lw_p62, List.forall_mem_cons.mpr ⟨lw_p63, fun _ h => absurd h List.not_mem_nil⟩⟩⟩⟩⟩⟩⟩⟩⟩⟩⟩⟩⟩⟩⟩⟩
theorem lw_p64 : lw_okq (⟨"LateMirrors", "isRoom", "(I)Z"⟩, 16) := ⟨⟨by decide +kernel, by decide +kernel⟩, List.mem_of_getElem? (i := 17) (by decide +kernel), List.mem_of_getElem? (i := 812) (by decide +kernel), List.mem_of_getElem? (i := 813) (by decide +kernel)⟩
theorem lw_p65 : lw_okq (⟨"LateMirrors$Court", "putMirror", "(II)V"⟩, 9) := ⟨⟨by decide +kernel, by decide +kernel⟩, List.mem_of_getElem? (i := 275) (by decide +kernel), List.mem_of_getElem? (i := 816) (by decide +kernel), List.mem_of_getElem? (i := 817) (by decide +kernel)⟩
theorem lw_p66 : lw_okq (⟨"LateMirrors$Court", "putWall", "(IZ)V"⟩, 9) := ⟨⟨by decide +kernel, by decide +kernel⟩, List.mem_of_getElem? (i := 275) (by decide +kernel), List.mem_of_getElem? (i := 824) (by decide +kernel), List.mem_of_getElem? (i := 825) (by decide +kernel)⟩
theorem lw_p67 : lw_okq (⟨"LateMirrors$Past", "takeBack", "(LLateMirrors$Court;)Z"⟩, 3) := ⟨⟨by decide +kernel, by decide +kernel⟩, List.mem_of_getElem? (i := 377) (by decide +kernel), List.mem_of_getElem? (i := 837) (by decide +kernel), List.mem_of_getElem? (i := 838) (by decide +kernel)⟩
theorem lw_p68 : lw_okq (⟨"LateMirrors$Court", "goBackTo", "([II)V"⟩, 9) := ⟨⟨by decide +kernel, by decide +kernel⟩, List.mem_of_getElem? (i := 275) (by decide +kernel), List.mem_of_getElem? (i := 841) (by decide +kernel), List.mem_of_getElem? (i := 842) (by decide +kernel)⟩
theorem lw_p69 : lw_okq (⟨"LateMirrors$Court", "seenIn", "(III)I"⟩, 9) := ⟨⟨by decide +kernel, by decide +kernel⟩, List.mem_of_getElem? (i := 275) (by decide +kernel), List.mem_of_getElem? (i := 849) (by decide +kernel), List.mem_of_getElem? (i := 850) (by decide +kernel)⟩
theorem lw_p70 : lw_okq (⟨"LateMirrors", "facingTimes", "(II)I"⟩, 16) := ⟨⟨by decide +kernel, by decide +kernel⟩, List.mem_of_getElem? (i := 17) (by decide +kernel), List.mem_of_getElem? (i := 858) (by decide +kernel), List.mem_of_getElem? (i := 859) (by decide +kernel)⟩
theorem lw_p71 : lw_okq (⟨"LateMirrors", "facingMinute", "(III)I"⟩, 16) := ⟨⟨by decide +kernel, by decide +kernel⟩, List.mem_of_getElem? (i := 17) (by decide +kernel), List.mem_of_getElem? (i := 862) (by decide +kernel), List.mem_of_getElem? (i := 863) (by decide +kernel)⟩
theorem lw_p72 : lw_okq (⟨"LateMirrors$Court", "menShownIn", "(II)I"⟩, 9) := ⟨⟨by decide +kernel, by decide +kernel⟩, List.mem_of_getElem? (i := 275) (by decide +kernel), List.mem_of_getElem? (i := 870) (by decide +kernel), List.mem_of_getElem? (i := 871) (by decide +kernel)⟩
theorem lw_p73 : lw_okq (⟨"LateMirrors", "tallyShown", "(I)V"⟩, 16) := ⟨⟨by decide +kernel, by decide +kernel⟩, List.mem_of_getElem? (i := 17) (by decide +kernel), List.mem_of_getElem? (i := 888) (by decide +kernel), List.mem_of_getElem? (i := 889) (by decide +kernel)⟩
theorem lw_p74 : lw_okq (⟨"LateMirrors", "aloneTimes", "(IZ)I"⟩, 16) := ⟨⟨by decide +kernel, by decide +kernel⟩, List.mem_of_getElem? (i := 17) (by decide +kernel), List.mem_of_getElem? (i := 913) (by decide +kernel), List.mem_of_getElem? (i := 914) (by decide +kernel)⟩
theorem lw_p75 : lw_okq (⟨"LateMirrors", "forecast", "(I)V"⟩, 16) := ⟨⟨by decide +kernel, by decide +kernel⟩, List.mem_of_getElem? (i := 17) (by decide +kernel), List.mem_of_getElem? (i := 945) (by decide +kernel), List.mem_of_getElem? (i := 946) (by decide +kernel)⟩
theorem lw_p76 : lw_okq (⟨"LateMirrors$Court", "copyOf", "(LLateMirrors$Court;)V"⟩, 9) := ⟨⟨by decide +kernel, by decide +kernel⟩, List.mem_of_getElem? (i := 275) (by decide +kernel), List.mem_of_getElem? (i := 949) (by decide +kernel), List.mem_of_getElem? (i := 950) (by decide +kernel)⟩
theorem lw_p77 : lw_okq (⟨"LateMirrors", "showersOf", "(III)I"⟩, 16) := ⟨⟨by decide +kernel, by decide +kernel⟩, List.mem_of_getElem? (i := 17) (by decide +kernel), List.mem_of_getElem? (i := 953) (by decide +kernel), List.mem_of_getElem? (i := 954) (by decide +kernel)⟩
theorem lw_p78 : lw_okq (⟨"LateMirrors", "countSteps", "(II)V"⟩, 16) := ⟨⟨by decide +kernel, by decide +kernel⟩, List.mem_of_getElem? (i := 17) (by decide +kernel), List.mem_of_getElem? (i := 968) (by decide +kernel), List.mem_of_getElem? (i := 969) (by decide +kernel)⟩
theorem lw_p79 : lw_okq (⟨"LateMirrors$Text", "doorEnd", "(II)I"⟩, 19) := ⟨⟨by decide +kernel, by decide +kernel⟩, List.mem_of_getElem? (i := 152) (by decide +kernel), List.mem_of_getElem? (i := 972) (by decide +kernel), List.mem_of_getElem? (i := 973) (by decide +kernel)⟩
def lw_privs_5 : List (MethodName × Nat) := [(⟨"LateMirrors", "isRoom", "(I)Z"⟩, 16), (⟨"LateMirrors$Court", "putMirror", "(II)V"⟩, 9), (⟨"LateMirrors$Court", "putWall", "(IZ)V"⟩, 9), (⟨"LateMirrors$Past", "takeBack", "(LLateMirrors$Court;)Z"⟩, 3), (⟨"LateMirrors$Court", "goBackTo", "([II)V"⟩, 9), (⟨"LateMirrors$Court", "seenIn", "(III)I"⟩, 9), (⟨"LateMirrors", "facingTimes", "(II)I"⟩, 16), (⟨"LateMirrors", "facingMinute", "(III)I"⟩, 16), (⟨"LateMirrors$Court", "menShownIn", "(II)I"⟩, 9), (⟨"LateMirrors", "tallyShown", "(I)V"⟩, 16), (⟨"LateMirrors", "aloneTimes", "(IZ)I"⟩, 16), (⟨"LateMirrors", "forecast", "(I)V"⟩, 16), (⟨"LateMirrors$Court", "copyOf", "(LLateMirrors$Court;)V"⟩, 9), (⟨"LateMirrors", "showersOf", "(III)I"⟩, 16), (⟨"LateMirrors", "countSteps", "(II)V"⟩, 16), (⟨"LateMirrors$Text", "doorEnd", "(II)I"⟩, 19)]
theorem lw_r5 : ∀ q ∈ lw_privs_5, lw_okq q := List.forall_mem_cons.mpr ⟨lw_p64, List.forall_mem_cons.mpr ⟨lw_p65, List.forall_mem_cons.mpr ⟨lw_p66, List.forall_mem_cons.mpr ⟨lw_p67, List.forall_mem_cons.mpr ⟨lw_p68, List.forall_mem_cons.mpr ⟨lw_p69, List.forall_mem_cons.mpr ⟨lw_p70, List.forall_mem_cons.mpr ⟨lw_p71, List.forall_mem_cons.mpr ⟨lw_p72, List.forall_mem_cons.mpr ⟨lw_p73, List.forall_mem_cons.mpr ⟨lw_p74, List.forall_mem_cons.mpr ⟨lw_p75, List.forall_mem_cons.mpr ⟨lw_p76, List.forall_mem_cons.mpr ⟨lw_p77, List.forall_mem_cons.mpr ⟨lw_p78, List.forall_mem_cons.mpr ⟨lw_p79, fun _ h => absurd h List.not_mem_nil⟩⟩⟩⟩⟩⟩⟩⟩⟩⟩⟩⟩⟩⟩⟩⟩
theorem lw_p80 : lw_okq (⟨"LateMirrors", "mirrorsInReach", "(I)I"⟩, 16) := ⟨⟨by decide +kernel, by decide +kernel⟩, List.mem_of_getElem? (i := 17) (by decide +kernel), List.mem_of_getElem? (i := 976) (by decide +kernel), List.mem_of_getElem? (i := 977) (by decide +kernel)⟩
theorem lw_p81 : lw_okq (⟨"LateMirrors", "mirrorsWith", "(II)I"⟩, 16) := ⟨⟨by decide +kernel, by decide +kernel⟩, List.mem_of_getElem? (i := 17) (by decide +kernel), List.mem_of_getElem? (i := 988) (by decide +kernel), List.mem_of_getElem? (i := 989) (by decide +kernel)⟩
theorem lw_p82 : lw_okq (⟨"LateMirrors", "breaksBy", "(III)Z"⟩, 16) := ⟨⟨by decide +kernel, by decide +kernel⟩, List.mem_of_getElem? (i := 17) (by decide +kernel), List.mem_of_getElem? (i := 1000) (by decide +kernel), List.mem_of_getElem? (i := 1001) (by decide +kernel)⟩
theorem lw_p83 : lw_okq (⟨"LateMirrors$Court", "darkRooms", "()I"⟩, 9) := ⟨⟨by decide +kernel, by decide +kernel⟩, List.mem_of_getElem? (i := 275) (by decide +kernel), List.mem_of_getElem? (i := 1009) (by decide +kernel), List.mem_of_getElem? (i := 1010) (by decide +kernel)⟩
theorem lw_p84 : lw_okq (⟨"LateMirrors", "nextRoom", "(II)I"⟩, 16) := ⟨⟨by decide +kernel, by decide +kernel⟩, List.mem_of_getElem? (i := 17) (by decide +kernel), List.mem_of_getElem? (i := 1013) (by decide +kernel), List.mem_of_getElem? (i := 1014) (by decide +kernel)⟩
theorem lw_p85 : lw_okq (⟨"LateMirrors", "isRest", "(II)Z"⟩, 16) := ⟨⟨by decide +kernel, by decide +kernel⟩, List.mem_of_getElem? (i := 17) (by decide +kernel), List.mem_of_getElem? (i := 1025) (by decide +kernel), List.mem_of_getElem? (i := 1026) (by decide +kernel)⟩
theorem lw_p86 : lw_okq (⟨"LateMirrors", "worth", "(II)I"⟩, 16) := ⟨⟨by decide +kernel, by decide +kernel⟩, List.mem_of_getElem? (i := 17) (by decide +kernel), List.mem_of_getElem? (i := 1029) (by decide +kernel), List.mem_of_getElem? (i := 1030) (by decide +kernel)⟩
theorem lw_p87 : lw_okq (⟨"LateMirrors", "canHaveBegun", "(III)Z"⟩, 16) := ⟨⟨by decide +kernel, by decide +kernel⟩, List.mem_of_getElem? (i := 17) (by decide +kernel), List.mem_of_getElem? (i := 1045) (by decide +kernel), List.mem_of_getElem? (i := 1046) (by decide +kernel)⟩
theorem lw_p88 : lw_okq (⟨"LateMirrors$Court", "brokenOnes", "()I"⟩, 9) := ⟨⟨by decide +kernel, by decide +kernel⟩, List.mem_of_getElem? (i := 275) (by decide +kernel), List.mem_of_getElem? (i := 1061) (by decide +kernel), List.mem_of_getElem? (i := 1062) (by decide +kernel)⟩
theorem lw_p89 : lw_okq (⟨"LateMirrors$Court", "turnedOnes", "()I"⟩, 9) := ⟨⟨by decide +kernel, by decide +kernel⟩, List.mem_of_getElem? (i := 275) (by decide +kernel), List.mem_of_getElem? (i := 1065) (by decide +kernel), List.mem_of_getElem? (i := 1066) (by decide +kernel)⟩
theorem lw_p90 : lw_okq (⟨"LateMirrorsModel", "plain", "(I)V"⟩, 75) := ⟨⟨by decide +kernel, by decide +kernel⟩, List.mem_of_getElem? (i := 1069) (by decide +kernel), List.mem_of_getElem? (i := 1075) (by decide +kernel), List.mem_of_getElem? (i := 1076) (by decide +kernel)⟩
theorem lw_p91 : lw_okq (⟨"LateMirrorsModel", "begins", "()V"⟩, 75) := ⟨⟨by decide +kernel, by decide +kernel⟩, List.mem_of_getElem? (i := 1069) (by decide +kernel), List.mem_of_getElem? (i := 1086) (by decide +kernel), List.mem_of_getElem? (i := 1087) (by decide +kernel)⟩
theorem lw_p92 : lw_okq (⟨"LateMirrorsModel", "beginsWith", "(II)V"⟩, 75) := ⟨⟨by decide +kernel, by decide +kernel⟩, List.mem_of_getElem? (i := 1069) (by decide +kernel), List.mem_of_getElem? (i := 1090) (by decide +kernel), List.mem_of_getElem? (i := 1091) (by decide +kernel)⟩
theorem lw_p93 : lw_okq (⟨"LateMirrorsModel", "fillsLate", "()V"⟩, 75) := ⟨⟨by decide +kernel, by decide +kernel⟩, List.mem_of_getElem? (i := 1069) (by decide +kernel), List.mem_of_getElem? (i := 1094) (by decide +kernel), List.mem_of_getElem? (i := 1095) (by decide +kernel)⟩
theorem lw_p94 : lw_okq (⟨"LateMirrorsModel", "rankOfOwner", "(I)I"⟩, 75) := ⟨⟨by decide +kernel, by decide +kernel⟩, List.mem_of_getElem? (i := 1069) (by decide +kernel), List.mem_of_getElem? (i := 1098) (by decide +kernel), List.mem_of_getElem? (i := 1099) (by decide +kernel)⟩
theorem lw_p95 : lw_okq (⟨"LateMirrorsModel", "lateBy", "(II)I"⟩, 75) := ⟨⟨by decide +kernel, by decide +kernel⟩, List.mem_of_getElem? (i := 1069) (by decide +kernel), List.mem_of_getElem? (i := 1102) (by decide +kernel), List.mem_of_getElem? (i := 1103) (by decide +kernel)⟩
def lw_privs_6 : List (MethodName × Nat) := [(⟨"LateMirrors", "mirrorsInReach", "(I)I"⟩, 16), (⟨"LateMirrors", "mirrorsWith", "(II)I"⟩, 16), (⟨"LateMirrors", "breaksBy", "(III)Z"⟩, 16), (⟨"LateMirrors$Court", "darkRooms", "()I"⟩, 9), (⟨"LateMirrors", "nextRoom", "(II)I"⟩, 16), (⟨"LateMirrors", "isRest", "(II)Z"⟩, 16), (⟨"LateMirrors", "worth", "(II)I"⟩, 16), (⟨"LateMirrors", "canHaveBegun", "(III)Z"⟩, 16), (⟨"LateMirrors$Court", "brokenOnes", "()I"⟩, 9), (⟨"LateMirrors$Court", "turnedOnes", "()I"⟩, 9), (⟨"LateMirrorsModel", "plain", "(I)V"⟩, 75), (⟨"LateMirrorsModel", "begins", "()V"⟩, 75), (⟨"LateMirrorsModel", "beginsWith", "(II)V"⟩, 75), (⟨"LateMirrorsModel", "fillsLate", "()V"⟩, 75), (⟨"LateMirrorsModel", "rankOfOwner", "(I)I"⟩, 75), (⟨"LateMirrorsModel", "lateBy", "(II)I"⟩, 75)]
theorem lw_r6 : ∀ q ∈ lw_privs_6, lw_okq q := List.forall_mem_cons.mpr ⟨lw_p80, List.forall_mem_cons.mpr ⟨lw_p81, List.forall_mem_cons.mpr ⟨lw_p82, List.forall_mem_cons.mpr ⟨lw_p83, List.forall_mem_cons.mpr ⟨lw_p84, List.forall_mem_cons.mpr ⟨lw_p85, List.forall_mem_cons.mpr ⟨lw_p86, List.forall_mem_cons.mpr ⟨lw_p87, List.forall_mem_cons.mpr ⟨lw_p88, List.forall_mem_cons.mpr ⟨lw_p89, List.forall_mem_cons.mpr ⟨lw_p90, List.forall_mem_cons.mpr ⟨lw_p91, List.forall_mem_cons.mpr ⟨lw_p92, List.forall_mem_cons.mpr ⟨lw_p93, List.forall_mem_cons.mpr ⟨lw_p94, List.forall_mem_cons.mpr ⟨lw_p95, fun _ h => absurd h List.not_mem_nil⟩⟩⟩⟩⟩⟩⟩⟩⟩⟩⟩⟩⟩⟩⟩⟩
theorem lw_p96 : lw_okq (⟨"LateMirrorsModel", "waysOf", "(I)I"⟩, 75) := ⟨⟨by decide +kernel, by decide +kernel⟩, List.mem_of_getElem? (i := 1069) (by decide +kernel), List.mem_of_getElem? (i := 1106) (by decide +kernel), List.mem_of_getElem? (i := 1107) (by decide +kernel)⟩
theorem lw_p97 : lw_okq (⟨"LateMirrorsModel", "menIn", "(II)I"⟩, 75) := ⟨⟨by decide +kernel, by decide +kernel⟩, List.mem_of_getElem? (i := 1069) (by decide +kernel), List.mem_of_getElem? (i := 1110) (by decide +kernel), List.mem_of_getElem? (i := 1111) (by decide +kernel)⟩
theorem lw_p98 : lw_okq (⟨"LateMirrorsModel", "tells", "(II)I"⟩, 75) := ⟨⟨by decide +kernel, by decide +kernel⟩, List.mem_of_getElem? (i := 1069) (by decide +kernel), List.mem_of_getElem? (i := 1117) (by decide +kernel), List.mem_of_getElem? (i := 1118) (by decide +kernel)⟩
theorem lw_p99 : lw_okq (⟨"LateMirrorsModel", "termOf", "(II)I"⟩, 75) := ⟨⟨by decide +kernel, by decide +kernel⟩, List.mem_of_getElem? (i := 1069) (by decide +kernel), List.mem_of_getElem? (i := 1121) (by decide +kernel), List.mem_of_getElem? (i := 1122) (by decide +kernel)⟩
theorem lw_p100 : lw_okq (⟨"LateMirrorsModel", "keepsRows", "(I)V"⟩, 75) := ⟨⟨by decide +kernel, by decide +kernel⟩, List.mem_of_getElem? (i := 1069) (by decide +kernel), List.mem_of_getElem? (i := 1125) (by decide +kernel), List.mem_of_getElem? (i := 1126) (by decide +kernel)⟩
theorem lw_p101 : lw_okq (⟨"LateMirrorsModel", "put", "(I)V"⟩, 75) := ⟨⟨by decide +kernel, by decide +kernel⟩, List.mem_of_getElem? (i := 1069) (by decide +kernel), List.mem_of_getElem? (i := 1359) (by decide +kernel), List.mem_of_getElem? (i := 1360) (by decide +kernel)⟩
theorem lw_p102 : lw_okq (⟨"LateMirrorsModel", "cut", "()V"⟩, 75) := ⟨⟨by decide +kernel, by decide +kernel⟩, List.mem_of_getElem? (i := 1069) (by decide +kernel), List.mem_of_getElem? (i := 1371) (by decide +kernel), List.mem_of_getElem? (i := 1372) (by decide +kernel)⟩
theorem lw_p103 : lw_okq (⟨"LateMirrorsModel", "byteAt", "(I)I"⟩, 75) := ⟨⟨by decide +kernel, by decide +kernel⟩, List.mem_of_getElem? (i := 1069) (by decide +kernel), List.mem_of_getElem? (i := 1375) (by decide +kernel), List.mem_of_getElem? (i := 1376) (by decide +kernel)⟩
theorem lw_p104 : lw_okq (⟨"LateMirrorsModel", "token", "(IIIJ)V"⟩, 75) := ⟨⟨by decide +kernel, by decide +kernel⟩, List.mem_of_getElem? (i := 1069) (by decide +kernel), List.mem_of_getElem? (i := 1379) (by decide +kernel), List.mem_of_getElem? (i := 1380) (by decide +kernel)⟩
theorem lw_p105 : lw_okq (⟨"LateMirrorsModel", "sign", "(III)I"⟩, 75) := ⟨⟨by decide +kernel, by decide +kernel⟩, List.mem_of_getElem? (i := 1069) (by decide +kernel), List.mem_of_getElem? (i := 1389) (by decide +kernel), List.mem_of_getElem? (i := 1390) (by decide +kernel)⟩
theorem lw_p106 : lw_okq (⟨"LateMirrorsModel", "is", "(I)Z"⟩, 75) := ⟨⟨by decide +kernel, by decide +kernel⟩, List.mem_of_getElem? (i := 1069) (by decide +kernel), List.mem_of_getElem? (i := 1393) (by decide +kernel), List.mem_of_getElem? (i := 1394) (by decide +kernel)⟩
theorem lw_p107 : lw_okq (⟨"LateMirrorsModel", "tellOne", "()V"⟩, 75) := ⟨⟨by decide +kernel, by decide +kernel⟩, List.mem_of_getElem? (i := 1069) (by decide +kernel), List.mem_of_getElem? (i := 1397) (by decide +kernel), List.mem_of_getElem? (i := 1398) (by decide +kernel)⟩
theorem lw_p108 : lw_okq (⟨"LateMirrorsModel", "roomFor", "(II)V"⟩, 75) := ⟨⟨by decide +kernel, by decide +kernel⟩, List.mem_of_getElem? (i := 1069) (by decide +kernel), List.mem_of_getElem? (i := 1401) (by decide +kernel), List.mem_of_getElem? (i := 1402) (by decide +kernel)⟩
theorem lw_p109 : lw_okq (⟨"LateMirrorsModel", "fail", "(I)V"⟩, 75) := ⟨⟨by decide +kernel, by decide +kernel⟩, List.mem_of_getElem? (i := 1069) (by decide +kernel), List.mem_of_getElem? (i := 1405) (by decide +kernel), List.mem_of_getElem? (i := 1406) (by decide +kernel)⟩
theorem lw_p110 : lw_okq (⟨"LateMirrorsModel", "goesOn", "()V"⟩, 75) := ⟨⟨by decide +kernel, by decide +kernel⟩, List.mem_of_getElem? (i := 1069) (by decide +kernel), List.mem_of_getElem? (i := 1409) (by decide +kernel), List.mem_of_getElem? (i := 1410) (by decide +kernel)⟩
theorem lw_p111 : lw_okq (⟨"LateMirrorsModel", "named", "()I"⟩, 75) := ⟨⟨by decide +kernel, by decide +kernel⟩, List.mem_of_getElem? (i := 1069) (by decide +kernel), List.mem_of_getElem? (i := 1413) (by decide +kernel), List.mem_of_getElem? (i := 1414) (by decide +kernel)⟩
def lw_privs_7 : List (MethodName × Nat) := [(⟨"LateMirrorsModel", "waysOf", "(I)I"⟩, 75), (⟨"LateMirrorsModel", "menIn", "(II)I"⟩, 75), (⟨"LateMirrorsModel", "tells", "(II)I"⟩, 75), (⟨"LateMirrorsModel", "termOf", "(II)I"⟩, 75), (⟨"LateMirrorsModel", "keepsRows", "(I)V"⟩, 75), (⟨"LateMirrorsModel", "put", "(I)V"⟩, 75), (⟨"LateMirrorsModel", "cut", "()V"⟩, 75), (⟨"LateMirrorsModel", "byteAt", "(I)I"⟩, 75), (⟨"LateMirrorsModel", "token", "(IIIJ)V"⟩, 75), (⟨"LateMirrorsModel", "sign", "(III)I"⟩, 75), (⟨"LateMirrorsModel", "is", "(I)Z"⟩, 75), (⟨"LateMirrorsModel", "tellOne", "()V"⟩, 75), (⟨"LateMirrorsModel", "roomFor", "(II)V"⟩, 75), (⟨"LateMirrorsModel", "fail", "(I)V"⟩, 75), (⟨"LateMirrorsModel", "goesOn", "()V"⟩, 75), (⟨"LateMirrorsModel", "named", "()I"⟩, 75)]
theorem lw_r7 : ∀ q ∈ lw_privs_7, lw_okq q := List.forall_mem_cons.mpr ⟨lw_p96, List.forall_mem_cons.mpr ⟨lw_p97, List.forall_mem_cons.mpr ⟨lw_p98, List.forall_mem_cons.mpr ⟨lw_p99, List.forall_mem_cons.mpr ⟨lw_p100, List.forall_mem_cons.mpr ⟨lw_p101, List.forall_mem_cons.mpr ⟨lw_p102, List.forall_mem_cons.mpr ⟨lw_p103, List.forall_mem_cons.mpr ⟨lw_p104, List.forall_mem_cons.mpr ⟨lw_p105, List.forall_mem_cons.mpr ⟨lw_p106, List.forall_mem_cons.mpr ⟨lw_p107, List.forall_mem_cons.mpr ⟨lw_p108, List.forall_mem_cons.mpr ⟨lw_p109, List.forall_mem_cons.mpr ⟨lw_p110, List.forall_mem_cons.mpr ⟨lw_p111, fun _ h => absurd h List.not_mem_nil⟩⟩⟩⟩⟩⟩⟩⟩⟩⟩⟩⟩⟩⟩⟩⟩
theorem lw_p112 : lw_okq (⟨"LateMirrorsModel", "must", "(I)V"⟩, 75) := ⟨⟨by decide +kernel, by decide +kernel⟩, List.mem_of_getElem? (i := 1069) (by decide +kernel), List.mem_of_getElem? (i := 1417) (by decide +kernel), List.mem_of_getElem? (i := 1418) (by decide +kernel)⟩
theorem lw_p113 : lw_okq (⟨"LateMirrorsModel", "wrong", "(II)V"⟩, 75) := ⟨⟨by decide +kernel, by decide +kernel⟩, List.mem_of_getElem? (i := 1069) (by decide +kernel), List.mem_of_getElem? (i := 1421) (by decide +kernel), List.mem_of_getElem? (i := 1422) (by decide +kernel)⟩
theorem lw_p114 : lw_okq (⟨"LateMirrorsModel", "notes", "(III)V"⟩, 75) := ⟨⟨by decide +kernel, by decide +kernel⟩, List.mem_of_getElem? (i := 1069) (by decide +kernel), List.mem_of_getElem? (i := 1425) (by decide +kernel), List.mem_of_getElem? (i := 1426) (by decide +kernel)⟩
theorem lw_p115 : lw_okq (⟨"LateMirrorsModel", "tellDoor", "()V"⟩, 75) := ⟨⟨by decide +kernel, by decide +kernel⟩, List.mem_of_getElem? (i := 1069) (by decide +kernel), List.mem_of_getElem? (i := 1429) (by decide +kernel), List.mem_of_getElem? (i := 1430) (by decide +kernel)⟩
theorem lw_p116 : lw_okq (⟨"LateMirrorsModel", "known", "(I)I"⟩, 75) := ⟨⟨by decide +kernel, by decide +kernel⟩, List.mem_of_getElem? (i := 1069) (by decide +kernel), List.mem_of_getElem? (i := 1433) (by decide +kernel), List.mem_of_getElem? (i := 1434) (by decide +kernel)⟩
theorem lw_p117 : lw_okq (⟨"LateMirrorsModel", "tellMan", "()V"⟩, 75) := ⟨⟨by decide +kernel, by decide +kernel⟩, List.mem_of_getElem? (i := 1069) (by decide +kernel), List.mem_of_getElem? (i := 1437) (by decide +kernel), List.mem_of_getElem? (i := 1438) (by decide +kernel)⟩
theorem lw_p118 : lw_okq (⟨"LateMirrorsModel", "bounded", "(II)I"⟩, 75) := ⟨⟨by decide +kernel, by decide +kernel⟩, List.mem_of_getElem? (i := 1069) (by decide +kernel), List.mem_of_getElem? (i := 1441) (by decide +kernel), List.mem_of_getElem? (i := 1442) (by decide +kernel)⟩
theorem lw_p119 : lw_okq (⟨"LateMirrorsModel", "tellLaw", "(I)V"⟩, 75) := ⟨⟨by decide +kernel, by decide +kernel⟩, List.mem_of_getElem? (i := 1069) (by decide +kernel), List.mem_of_getElem? (i := 1445) (by decide +kernel), List.mem_of_getElem? (i := 1446) (by decide +kernel)⟩
theorem lw_p120 : lw_okq (⟨"LateMirrorsModel", "expression", "()V"⟩, 75) := ⟨⟨by decide +kernel, by decide +kernel⟩, List.mem_of_getElem? (i := 1069) (by decide +kernel), List.mem_of_getElem? (i := 1449) (by decide +kernel), List.mem_of_getElem? (i := 1450) (by decide +kernel)⟩
theorem lw_p121 : lw_okq (⟨"LateMirrorsModel", "unit", "()V"⟩, 75) := ⟨⟨by decide +kernel, by decide +kernel⟩, List.mem_of_getElem? (i := 1069) (by decide +kernel), List.mem_of_getElem? (i := 1453) (by decide +kernel), List.mem_of_getElem? (i := 1454) (by decide +kernel)⟩
theorem lw_p122 : lw_okq (⟨"LateMirrorsModel", "emit", "(II)V"⟩, 75) := ⟨⟨by decide +kernel, by decide +kernel⟩, List.mem_of_getElem? (i := 1069) (by decide +kernel), List.mem_of_getElem? (i := 1457) (by decide +kernel), List.mem_of_getElem? (i := 1458) (by decide +kernel)⟩
theorem lw_p123 : lw_okq (⟨"LateMirrorsModel", "comesOut", "(Z)V"⟩, 75) := ⟨⟨by decide +kernel, by decide +kernel⟩, List.mem_of_getElem? (i := 1069) (by decide +kernel), List.mem_of_getElem? (i := 1461) (by decide +kernel), List.mem_of_getElem? (i := 1462) (by decide +kernel)⟩
theorem lw_p124 : lw_okq (⟨"LateMirrorsModel", "term", "()V"⟩, 75) := ⟨⟨by decide +kernel, by decide +kernel⟩, List.mem_of_getElem? (i := 1069) (by decide +kernel), List.mem_of_getElem? (i := 1465) (by decide +kernel), List.mem_of_getElem? (i := 1466) (by decide +kernel)⟩
theorem lw_p125 : lw_okq (⟨"LateMirrorsModel", "tellMirror", "()V"⟩, 75) := ⟨⟨by decide +kernel, by decide +kernel⟩, List.mem_of_getElem? (i := 1069) (by decide +kernel), List.mem_of_getElem? (i := 1469) (by decide +kernel), List.mem_of_getElem? (i := 1470) (by decide +kernel)⟩
theorem lw_p126 : lw_okq (⟨"LateMirrorsModel", "isMan", "(I)Z"⟩, 75) := ⟨⟨by decide +kernel, by decide +kernel⟩, List.mem_of_getElem? (i := 1069) (by decide +kernel), List.mem_of_getElem? (i := 1481) (by decide +kernel), List.mem_of_getElem? (i := 1482) (by decide +kernel)⟩
theorem lw_p127 : lw_okq (⟨"LateMirrorsModel", "isPast", "(I)Z"⟩, 75) := ⟨⟨by decide +kernel, by decide +kernel⟩, List.mem_of_getElem? (i := 1069) (by decide +kernel), List.mem_of_getElem? (i := 1488) (by decide +kernel), List.mem_of_getElem? (i := 1489) (by decide +kernel)⟩
def lw_privs_8 : List (MethodName × Nat) := [(⟨"LateMirrorsModel", "must", "(I)V"⟩, 75), (⟨"LateMirrorsModel", "wrong", "(II)V"⟩, 75), (⟨"LateMirrorsModel", "notes", "(III)V"⟩, 75), (⟨"LateMirrorsModel", "tellDoor", "()V"⟩, 75), (⟨"LateMirrorsModel", "known", "(I)I"⟩, 75), (⟨"LateMirrorsModel", "tellMan", "()V"⟩, 75), (⟨"LateMirrorsModel", "bounded", "(II)I"⟩, 75), (⟨"LateMirrorsModel", "tellLaw", "(I)V"⟩, 75), (⟨"LateMirrorsModel", "expression", "()V"⟩, 75), (⟨"LateMirrorsModel", "unit", "()V"⟩, 75), (⟨"LateMirrorsModel", "emit", "(II)V"⟩, 75), (⟨"LateMirrorsModel", "comesOut", "(Z)V"⟩, 75), (⟨"LateMirrorsModel", "term", "()V"⟩, 75), (⟨"LateMirrorsModel", "tellMirror", "()V"⟩, 75), (⟨"LateMirrorsModel", "isMan", "(I)Z"⟩, 75), (⟨"LateMirrorsModel", "isPast", "(I)Z"⟩, 75)]
theorem lw_r8 : ∀ q ∈ lw_privs_8, lw_okq q := List.forall_mem_cons.mpr ⟨lw_p112, List.forall_mem_cons.mpr ⟨lw_p113, List.forall_mem_cons.mpr ⟨lw_p114, List.forall_mem_cons.mpr ⟨lw_p115, List.forall_mem_cons.mpr ⟨lw_p116, List.forall_mem_cons.mpr ⟨lw_p117, List.forall_mem_cons.mpr ⟨lw_p118, List.forall_mem_cons.mpr ⟨lw_p119, List.forall_mem_cons.mpr ⟨lw_p120, List.forall_mem_cons.mpr ⟨lw_p121, List.forall_mem_cons.mpr ⟨lw_p122, List.forall_mem_cons.mpr ⟨lw_p123, List.forall_mem_cons.mpr ⟨lw_p124, List.forall_mem_cons.mpr ⟨lw_p125, List.forall_mem_cons.mpr ⟨lw_p126, List.forall_mem_cons.mpr ⟨lw_p127, fun _ h => absurd h List.not_mem_nil⟩⟩⟩⟩⟩⟩⟩⟩⟩⟩⟩⟩⟩⟩⟩⟩
theorem lw_p128 : lw_okq (⟨"LateMirrorsModel", "isMirror", "(I)Z"⟩, 75) := ⟨⟨by decide +kernel, by decide +kernel⟩, List.mem_of_getElem? (i := 1069) (by decide +kernel), List.mem_of_getElem? (i := 1496) (by decide +kernel), List.mem_of_getElem? (i := 1497) (by decide +kernel)⟩
theorem lw_p129 : lw_okq (⟨"LateMirrorsModel", "copies", "()V"⟩, 75) := ⟨⟨by decide +kernel, by decide +kernel⟩, List.mem_of_getElem? (i := 1069) (by decide +kernel), List.mem_of_getElem? (i := 1500) (by decide +kernel), List.mem_of_getElem? (i := 1501) (by decide +kernel)⟩
theorem lw_p130 : lw_okq (⟨"LateMirrorsModel", "showsAt", "(II)I"⟩, 75) := ⟨⟨by decide +kernel, by decide +kernel⟩, List.mem_of_getElem? (i := 1069) (by decide +kernel), List.mem_of_getElem? (i := 1504) (by decide +kernel), List.mem_of_getElem? (i := 1505) (by decide +kernel)⟩
theorem lw_p131 : lw_okq (⟨"LateMirrorsModel", "isTurned", "(II)Z"⟩, 75) := ⟨⟨by decide +kernel, by decide +kernel⟩, List.mem_of_getElem? (i := 1069) (by decide +kernel), List.mem_of_getElem? (i := 1508) (by decide +kernel), List.mem_of_getElem? (i := 1509) (by decide +kernel)⟩
theorem lw_p132 : lw_okq (⟨"LateMirrorsModel", "hungIn", "(II)I"⟩, 75) := ⟨⟨by decide +kernel, by decide +kernel⟩, List.mem_of_getElem? (i := 1069) (by decide +kernel), List.mem_of_getElem? (i := 1512) (by decide +kernel), List.mem_of_getElem? (i := 1513) (by decide +kernel)⟩
theorem lw_p133 : lw_okq (⟨"LateMirrorsModel", "menShown", "(II)I"⟩, 75) := ⟨⟨by decide +kernel, by decide +kernel⟩, List.mem_of_getElem? (i := 1069) (by decide +kernel), List.mem_of_getElem? (i := 1516) (by decide +kernel), List.mem_of_getElem? (i := 1517) (by decide +kernel)⟩
theorem lw_p134 : lw_okq (⟨"LateMirrorsModel", "goesTill", "(I)V"⟩, 75) := ⟨⟨by decide +kernel, by decide +kernel⟩, List.mem_of_getElem? (i := 1069) (by decide +kernel), List.mem_of_getElem? (i := 1524) (by decide +kernel), List.mem_of_getElem? (i := 1525) (by decide +kernel)⟩
theorem lw_p135 : lw_okq (⟨"LateMirrorsModel", "minuteGoes", "()V"⟩, 75) := ⟨⟨by decide +kernel, by decide +kernel⟩, List.mem_of_getElem? (i := 1069) (by decide +kernel), List.mem_of_getElem? (i := 1528) (by decide +kernel), List.mem_of_getElem? (i := 1529) (by decide +kernel)⟩
theorem lw_p136 : lw_okq (⟨"LateMirrorsModel", "goesTo", "(I)I"⟩, 75) := ⟨⟨by decide +kernel, by decide +kernel⟩, List.mem_of_getElem? (i := 1069) (by decide +kernel), List.mem_of_getElem? (i := 1532) (by decide +kernel), List.mem_of_getElem? (i := 1533) (by decide +kernel)⟩
theorem lw_p137 : lw_okq (⟨"LateMirrorsModel", "through", "(II)I"⟩, 75) := ⟨⟨by decide +kernel, by decide +kernel⟩, List.mem_of_getElem? (i := 1069) (by decide +kernel), List.mem_of_getElem? (i := 1536) (by decide +kernel), List.mem_of_getElem? (i := 1537) (by decide +kernel)⟩
theorem lw_p138 : lw_okq (⟨"LateMirrorsModel", "lotOf", "(I)I"⟩, 75) := ⟨⟨by decide +kernel, by decide +kernel⟩, List.mem_of_getElem? (i := 1069) (by decide +kernel), List.mem_of_getElem? (i := 1540) (by decide +kernel), List.mem_of_getElem? (i := 1541) (by decide +kernel)⟩
theorem lw_p139 : lw_okq (⟨"LateMirrorsModel", "breaksNow", "(I)V"⟩, 75) := ⟨⟨by decide +kernel, by decide +kernel⟩, List.mem_of_getElem? (i := 1069) (by decide +kernel), List.mem_of_getElem? (i := 1548) (by decide +kernel), List.mem_of_getElem? (i := 1549) (by decide +kernel)⟩
theorem lw_p140 : lw_okq (⟨"LateMirrorsModel", "keeps", "()V"⟩, 75) := ⟨⟨by decide +kernel, by decide +kernel⟩, List.mem_of_getElem? (i := 1069) (by decide +kernel), List.mem_of_getElem? (i := 1552) (by decide +kernel), List.mem_of_getElem? (i := 1553) (by decide +kernel)⟩
theorem lw_p141 : lw_okq (⟨"LateMirrorsModel", "nowOf", "(I)I"⟩, 75) := ⟨⟨by decide +kernel, by decide +kernel⟩, List.mem_of_getElem? (i := 1069) (by decide +kernel), List.mem_of_getElem? (i := 1560) (by decide +kernel), List.mem_of_getElem? (i := 1561) (by decide +kernel)⟩
theorem lw_p142 : lw_okq (⟨"LateMirrorsModel", "becomes", "(II)V"⟩, 75) := ⟨⟨by decide +kernel, by decide +kernel⟩, List.mem_of_getElem? (i := 1069) (by decide +kernel), List.mem_of_getElem? (i := 1564) (by decide +kernel), List.mem_of_getElem? (i := 1565) (by decide +kernel)⟩
theorem lw_p143 : lw_okq (⟨"LateMirrorsModel", "isRoom", "(I)Z"⟩, 75) := ⟨⟨by decide +kernel, by decide +kernel⟩, List.mem_of_getElem? (i := 1069) (by decide +kernel), List.mem_of_getElem? (i := 1576) (by decide +kernel), List.mem_of_getElem? (i := 1577) (by decide +kernel)⟩
def lw_privs_9 : List (MethodName × Nat) := [(⟨"LateMirrorsModel", "isMirror", "(I)Z"⟩, 75), (⟨"LateMirrorsModel", "copies", "()V"⟩, 75), (⟨"LateMirrorsModel", "showsAt", "(II)I"⟩, 75), (⟨"LateMirrorsModel", "isTurned", "(II)Z"⟩, 75), (⟨"LateMirrorsModel", "hungIn", "(II)I"⟩, 75), (⟨"LateMirrorsModel", "menShown", "(II)I"⟩, 75), (⟨"LateMirrorsModel", "goesTill", "(I)V"⟩, 75), (⟨"LateMirrorsModel", "minuteGoes", "()V"⟩, 75), (⟨"LateMirrorsModel", "goesTo", "(I)I"⟩, 75), (⟨"LateMirrorsModel", "through", "(II)I"⟩, 75), (⟨"LateMirrorsModel", "lotOf", "(I)I"⟩, 75), (⟨"LateMirrorsModel", "breaksNow", "(I)V"⟩, 75), (⟨"LateMirrorsModel", "keeps", "()V"⟩, 75), (⟨"LateMirrorsModel", "nowOf", "(I)I"⟩, 75), (⟨"LateMirrorsModel", "becomes", "(II)V"⟩, 75), (⟨"LateMirrorsModel", "isRoom", "(I)Z"⟩, 75)]
theorem lw_r9 : ∀ q ∈ lw_privs_9, lw_okq q := List.forall_mem_cons.mpr ⟨lw_p128, List.forall_mem_cons.mpr ⟨lw_p129, List.forall_mem_cons.mpr ⟨lw_p130, List.forall_mem_cons.mpr ⟨lw_p131, List.forall_mem_cons.mpr ⟨lw_p132, List.forall_mem_cons.mpr ⟨lw_p133, List.forall_mem_cons.mpr ⟨lw_p134, List.forall_mem_cons.mpr ⟨lw_p135, List.forall_mem_cons.mpr ⟨lw_p136, List.forall_mem_cons.mpr ⟨lw_p137, List.forall_mem_cons.mpr ⟨lw_p138, List.forall_mem_cons.mpr ⟨lw_p139, List.forall_mem_cons.mpr ⟨lw_p140, List.forall_mem_cons.mpr ⟨lw_p141, List.forall_mem_cons.mpr ⟨lw_p142, List.forall_mem_cons.mpr ⟨lw_p143, fun _ h => absurd h List.not_mem_nil⟩⟩⟩⟩⟩⟩⟩⟩⟩⟩⟩⟩⟩⟩⟩⟩
theorem lw_p144 : lw_okq (⟨"LateMirrorsModel", "seenIn", "(III)I"⟩, 75) := ⟨⟨by decide +kernel, by decide +kernel⟩, List.mem_of_getElem? (i := 1069) (by decide +kernel), List.mem_of_getElem? (i := 1596) (by decide +kernel), List.mem_of_getElem? (i := 1597) (by decide +kernel)⟩
theorem lw_p145 : lw_okq (⟨"LateMirrorsModel", "aloneOf", "(I)I"⟩, 75) := ⟨⟨by decide +kernel, by decide +kernel⟩, List.mem_of_getElem? (i := 1069) (by decide +kernel), List.mem_of_getElem? (i := 1620) (by decide +kernel), List.mem_of_getElem? (i := 1621) (by decide +kernel)⟩
theorem lw_p146 : lw_okq (⟨"LateMirrorsModel", "isAlone", "(II)Z"⟩, 75) := ⟨⟨by decide +kernel, by decide +kernel⟩, List.mem_of_getElem? (i := 1069) (by decide +kernel), List.mem_of_getElem? (i := 1624) (by decide +kernel), List.mem_of_getElem? (i := 1625) (by decide +kernel)⟩
theorem lw_p147 : lw_okq (⟨"LateMirrorsModel", "isGlimpsed", "(III)Z"⟩, 75) := ⟨⟨by decide +kernel, by decide +kernel⟩, List.mem_of_getElem? (i := 1069) (by decide +kernel), List.mem_of_getElem? (i := 1640) (by decide +kernel), List.mem_of_getElem? (i := 1641) (by decide +kernel)⟩
theorem lw_p148 : lw_okq (⟨"LateMirrorsModel", "fillsAll", "()V"⟩, 75) := ⟨⟨by decide +kernel, by decide +kernel⟩, List.mem_of_getElem? (i := 1069) (by decide +kernel), List.mem_of_getElem? (i := 1668) (by decide +kernel), List.mem_of_getElem? (i := 1669) (by decide +kernel)⟩
theorem lw_p149 : lw_okq (⟨"LateMirrorsModel", "showsRoom", "(IIII)Z"⟩, 75) := ⟨⟨by decide +kernel, by decide +kernel⟩, List.mem_of_getElem? (i := 1069) (by decide +kernel), List.mem_of_getElem? (i := 1672) (by decide +kernel), List.mem_of_getElem? (i := 1673) (by decide +kernel)⟩
theorem lw_p150 : lw_okq (⟨"LateMirrorsModel", "isSeenIn", "(III)Z"⟩, 75) := ⟨⟨by decide +kernel, by decide +kernel⟩, List.mem_of_getElem? (i := 1069) (by decide +kernel), List.mem_of_getElem? (i := 1687) (by decide +kernel), List.mem_of_getElem? (i := 1688) (by decide +kernel)⟩
theorem lw_p151 : lw_okq (⟨"LateMirrorsModel", "fillsFar", "(II)V"⟩, 75) := ⟨⟨by decide +kernel, by decide +kernel⟩, List.mem_of_getElem? (i := 1069) (by decide +kernel), List.mem_of_getElem? (i := 1707) (by decide +kernel), List.mem_of_getElem? (i := 1708) (by decide +kernel)⟩
theorem lw_p152 : lw_okq (⟨"LateMirrorsModel", "watched", "()I"⟩, 75) := ⟨⟨by decide +kernel, by decide +kernel⟩, List.mem_of_getElem? (i := 1069) (by decide +kernel), List.mem_of_getElem? (i := 1715) (by decide +kernel), List.mem_of_getElem? (i := 1716) (by decide +kernel)⟩
theorem lw_p153 : lw_okq (⟨"LateMirrorsModel", "seenFrom", "(I)I"⟩, 75) := ⟨⟨by decide +kernel, by decide +kernel⟩, List.mem_of_getElem? (i := 1069) (by decide +kernel), List.mem_of_getElem? (i := 1723) (by decide +kernel), List.mem_of_getElem? (i := 1724) (by decide +kernel)⟩
theorem lw_p154 : lw_okq (⟨"LateMirrorsModel", "isResting", "(III)Z"⟩, 75) := ⟨⟨by decide +kernel, by decide +kernel⟩, List.mem_of_getElem? (i := 1069) (by decide +kernel), List.mem_of_getElem? (i := 1731) (by decide +kernel), List.mem_of_getElem? (i := 1732) (by decide +kernel)⟩
theorem lw_p155 : lw_okq (⟨"LateMirrorsModel", "hasIn", "(III)I"⟩, 75) := ⟨⟨by decide +kernel, by decide +kernel⟩, List.mem_of_getElem? (i := 1069) (by decide +kernel), List.mem_of_getElem? (i := 1735) (by decide +kernel), List.mem_of_getElem? (i := 1736) (by decide +kernel)⟩
theorem lw_p156 : lw_okq (⟨"LateMirrorsModel", "isSo", "(III)Z"⟩, 75) := ⟨⟨by decide +kernel, by decide +kernel⟩, List.mem_of_getElem? (i := 1069) (by decide +kernel), List.mem_of_getElem? (i := 1755) (by decide +kernel), List.mem_of_getElem? (i := 1756) (by decide +kernel)⟩
def lw_privs_10 : List (MethodName × Nat) := [(⟨"LateMirrorsModel", "seenIn", "(III)I"⟩, 75), (⟨"LateMirrorsModel", "aloneOf", "(I)I"⟩, 75), (⟨"LateMirrorsModel", "isAlone", "(II)Z"⟩, 75), (⟨"LateMirrorsModel", "isGlimpsed", "(III)Z"⟩, 75), (⟨"LateMirrorsModel", "fillsAll", "()V"⟩, 75), (⟨"LateMirrorsModel", "showsRoom", "(IIII)Z"⟩, 75), (⟨"LateMirrorsModel", "isSeenIn", "(III)Z"⟩, 75), (⟨"LateMirrorsModel", "fillsFar", "(II)V"⟩, 75), (⟨"LateMirrorsModel", "watched", "()I"⟩, 75), (⟨"LateMirrorsModel", "seenFrom", "(I)I"⟩, 75), (⟨"LateMirrorsModel", "isResting", "(III)Z"⟩, 75), (⟨"LateMirrorsModel", "hasIn", "(III)I"⟩, 75), (⟨"LateMirrorsModel", "isSo", "(III)Z"⟩, 75)]
theorem lw_r10 : ∀ q ∈ lw_privs_10, lw_okq q := List.forall_mem_cons.mpr ⟨lw_p144, List.forall_mem_cons.mpr ⟨lw_p145, List.forall_mem_cons.mpr ⟨lw_p146, List.forall_mem_cons.mpr ⟨lw_p147, List.forall_mem_cons.mpr ⟨lw_p148, List.forall_mem_cons.mpr ⟨lw_p149, List.forall_mem_cons.mpr ⟨lw_p150, List.forall_mem_cons.mpr ⟨lw_p151, List.forall_mem_cons.mpr ⟨lw_p152, List.forall_mem_cons.mpr ⟨lw_p153, List.forall_mem_cons.mpr ⟨lw_p154, List.forall_mem_cons.mpr ⟨lw_p155, List.forall_mem_cons.mpr ⟨lw_p156, fun _ h => absurd h List.not_mem_nil⟩⟩⟩⟩⟩⟩⟩⟩⟩⟩⟩⟩⟩
def lw_privs : List (MethodName × Nat) := lw_privs_1 ++ (lw_privs_2 ++ (lw_privs_3 ++ (lw_privs_4 ++ (lw_privs_5 ++ (lw_privs_6 ++ (lw_privs_7 ++ (lw_privs_8 ++ (lw_privs_9 ++ (lw_privs_10)))))))))
def lw_tbl : List Cond := k2_sels lw_privs ++ tables_1
theorem lw_privs_ok : ∀ q ∈ lw_privs, lw_okq q := by
  show ∀ q ∈ lw_privs_1 ++ (lw_privs_2 ++ (lw_privs_3 ++ (lw_privs_4 ++ (lw_privs_5 ++ (lw_privs_6 ++ (lw_privs_7 ++ (lw_privs_8 ++ (lw_privs_9 ++ (lw_privs_10))))))))), lw_okq q
  exact List.forall_mem_append.mpr ⟨lw_r1, List.forall_mem_append.mpr ⟨lw_r2, List.forall_mem_append.mpr ⟨lw_r3, List.forall_mem_append.mpr ⟨lw_r4, List.forall_mem_append.mpr ⟨lw_r5, List.forall_mem_append.mpr ⟨lw_r6, List.forall_mem_append.mpr ⟨lw_r7, List.forall_mem_append.mpr ⟨lw_r8, List.forall_mem_append.mpr ⟨lw_r9, lw_r10⟩⟩⟩⟩⟩⟩⟩⟩⟩

abbrev RX0 : String := "LateMirrors$Court"
def TX0 : u_T := fun k => match k with
  | 0 => ("LateMirrors$Court", "text", "LLateMirrors$Text;", false)
  | 1 => ("LateMirrors$Court", "minute", "I", false)
  | 2 => ("LateMirrors$Court", "rooms", "[I", true)
  | 3 => ("LateMirrors$Court", "ranks", "[I", true)
  | 4 => ("LateMirrors$Court", "hangs", "[I", true)
  | 5 => ("LateMirrors$Court", "lates", "[I", true)
  | 6 => ("LateMirrors$Court", "walls", "[I", true)
  | 7 => ("LateMirrors$Court", "brokenAt", "[I", true)
  | _ => ("LateMirrors$Court", "frozen", "[I", true)
def tyX0 : Nat → FieldType := fun k => match k with
  | 0 => .object "LateMirrors$Text"
  | 1 => .int
  | 2 => .array .int
  | 3 => .array .int
  | 4 => .array .int
  | 5 => .array .int
  | 6 => .array .int
  | 7 => .array .int
  | _ => .array .int
abbrev wsX00 : List Cond := u_ws RX0 TX0 9
theorem nmX0 : ∀ a, a < 9 → ∀ b, b < 9 → a ≠ b → (TX0 a).2.1 ≠ (TX0 b).2.1 := by decide +kernel
theorem tyX0_ok : ∀ k, k < 9 → parseFieldDescriptor (TX0 k).2.2.1 = some (tyX0 k) := by decide +kernel
abbrev cX0_init : ByteArray := prog_2_method_1_code
abbrev yX0_init : MethodName := ⟨RX0, "<init>", "(LLateMirrors$Text;)V"⟩
abbrev cX0_begin : ByteArray := prog_2_method_2_code
abbrev yX0_begin : MethodName := ⟨RX0, "begin", "(LLateMirrors$Text;)V"⟩
abbrev cX0_copyOf : ByteArray := prog_2_method_3_code
abbrev yX0_copyOf : MethodName := ⟨RX0, "copyOf", "(LLateMirrors$Court;)V"⟩
abbrev cX0_keepIn : ByteArray := prog_2_method_4_code
abbrev yX0_keepIn : MethodName := ⟨RX0, "keepIn", "([II)V"⟩
abbrev cX0_goBackTo : ByteArray := prog_2_method_5_code
abbrev yX0_goBackTo : MethodName := ⟨RX0, "goBackTo", "([II)V"⟩
abbrev cX0_roomOf : ByteArray := prog_2_method_6_code
abbrev yX0_roomOf : MethodName := ⟨RX0, "roomOf", "(II)I"⟩
abbrev cX0_rankOf : ByteArray := prog_2_method_7_code
abbrev yX0_rankOf : MethodName := ⟨RX0, "rankOf", "(II)I"⟩
abbrev cX0_hangOf : ByteArray := prog_2_method_8_code
abbrev yX0_hangOf : MethodName := ⟨RX0, "hangOf", "(II)I"⟩
abbrev cX0_lateOf : ByteArray := prog_2_method_9_code
abbrev yX0_lateOf : MethodName := ⟨RX0, "lateOf", "(II)I"⟩
abbrev cX0_isTurned : ByteArray := prog_2_method_10_code
abbrev yX0_isTurned : MethodName := ⟨RX0, "isTurned", "(II)Z"⟩
abbrev cX0_isBroken : ByteArray := prog_2_method_11_code
abbrev yX0_isBroken : MethodName := ⟨RX0, "isBroken", "(II)Z"⟩
abbrev cX0_turnedOnes : ByteArray := prog_2_method_12_code
abbrev yX0_turnedOnes : MethodName := ⟨RX0, "turnedOnes", "()I"⟩
abbrev cX0_brokenOnes : ByteArray := prog_2_method_13_code
abbrev yX0_brokenOnes : MethodName := ⟨RX0, "brokenOnes", "()I"⟩
abbrev cX0_menIn : ByteArray := prog_2_method_14_code
abbrev yX0_menIn : MethodName := ⟨RX0, "menIn", "(II)I"⟩
abbrev cX0_showing : ByteArray := prog_2_method_15_code
abbrev yX0_showing : MethodName := ⟨RX0, "showing", "(II)I"⟩
abbrev cX0_roomShown : ByteArray := prog_2_method_16_code
abbrev yX0_roomShown : MethodName := ⟨RX0, "roomShown", "(II)I"⟩
abbrev cX0_menShown : ByteArray := prog_2_method_17_code
abbrev yX0_menShown : MethodName := ⟨RX0, "menShown", "(II)I"⟩
abbrev cX0_menShownIn : ByteArray := prog_2_method_18_code
abbrev yX0_menShownIn : MethodName := ⟨RX0, "menShownIn", "(II)I"⟩
abbrev cX0_seenIn : ByteArray := prog_2_method_19_code
abbrev yX0_seenIn : MethodName := ⟨RX0, "seenIn", "(III)I"⟩
abbrev cX0_darkRooms : ByteArray := prog_2_method_20_code
abbrev yX0_darkRooms : MethodName := ⟨RX0, "darkRooms", "()I"⟩
abbrev cX0_putMan : ByteArray := prog_2_method_21_code
abbrev yX0_putMan : MethodName := ⟨RX0, "putMan", "(II)V"⟩
abbrev cX0_putRank : ByteArray := prog_2_method_22_code
abbrev yX0_putRank : MethodName := ⟨RX0, "putRank", "(II)V"⟩
abbrev cX0_putMirror : ByteArray := prog_2_method_23_code
abbrev yX0_putMirror : MethodName := ⟨RX0, "putMirror", "(II)V"⟩
abbrev cX0_putWall : ByteArray := prog_2_method_24_code
abbrev yX0_putWall : MethodName := ⟨RX0, "putWall", "(IZ)V"⟩
abbrev cX0_breakNow : ByteArray := prog_2_method_25_code
abbrev yX0_breakNow : MethodName := ⟨RX0, "breakNow", "(I)V"⟩
abbrev cX0_setLates : ByteArray := prog_2_method_26_code
abbrev yX0_setLates : MethodName := ⟨RX0, "setLates", "()V"⟩
abbrev cX0_lateWith : ByteArray := prog_2_method_27_code
abbrev yX0_lateWith : MethodName := ⟨RX0, "lateWith", "(II)I"⟩
abbrev cX0_goTo : ByteArray := prog_2_method_28_code
abbrev yX0_goTo : MethodName := ⟨RX0, "goTo", "(I)V"⟩
abbrev cX0_moveMen : ByteArray := prog_2_method_29_code
abbrev yX0_moveMen : MethodName := ⟨RX0, "moveMen", "()V"⟩
abbrev cX0_roomAfter : ByteArray := prog_2_method_30_code
abbrev yX0_roomAfter : MethodName := ⟨RX0, "roomAfter", "(I)I"⟩
abbrev RX1 : String := "LateMirrors$Laws"
def TX1 : u_T := fun k => match k with
  | 0 => ("LateMirrors$Laws", "codes", "[I", true)
  | 1 => ("LateMirrors$Laws", "operands", "[I", true)
  | 2 => ("LateMirrors$Laws", "size", "I", false)
  | 3 => ("LateMirrors$Laws", "waiting", "[I", true)
  | 4 => ("LateMirrors$Laws", "waitingSize", "I", false)
  | 5 => ("LateMirrors$Laws", "stack", "[I", true)
  | _ => ("LateMirrors$Laws", "vars", "[I", true)
def tyX1 : Nat → FieldType := fun k => match k with
  | 0 => .array .int
  | 1 => .array .int
  | 2 => .int
  | 3 => .array .int
  | 4 => .int
  | 5 => .array .int
  | _ => .array .int
abbrev wsX10 : List Cond := u_ws RX1 TX1 7
theorem nmX1 : ∀ a, a < 7 → ∀ b, b < 7 → a ≠ b → (TX1 a).2.1 ≠ (TX1 b).2.1 := by decide +kernel
theorem tyX1_ok : ∀ k, k < 7 → parseFieldDescriptor (TX1 k).2.2.1 = some (tyX1 k) := by decide +kernel
abbrev cX1_init : ByteArray := prog_3_method_1_code
abbrev yX1_init : MethodName := ⟨RX1, "<init>", "()V"⟩
abbrev cX1_clear : ByteArray := prog_3_method_2_code
abbrev yX1_clear : MethodName := ⟨RX1, "clear", "()V"⟩
abbrev cX1_emit : ByteArray := prog_3_method_3_code
abbrev yX1_emit : MethodName := ⟨RX1, "emit", "(II)V"⟩
abbrev cX1_compile : ByteArray := prog_3_method_4_code
abbrev yX1_compile : MethodName := ⟨RX1, "compile", "(LLateMirrors$Scanner;I)I"⟩
abbrev cX1_isOperator : ByteArray := prog_3_method_5_code
abbrev yX1_isOperator : MethodName := ⟨RX1, "isOperator", "(I)Z"⟩
abbrev cX1_putOff : ByteArray := prog_3_method_6_code
abbrev yX1_putOff : MethodName := ⟨RX1, "putOff", "(I)V"⟩
abbrev cX1_endPart : ByteArray := prog_3_method_7_code
abbrev yX1_endPart : MethodName := ⟨RX1, "endPart", "(II)I"⟩
abbrev cX1_bindingOf : ByteArray := prog_3_method_8_code
abbrev yX1_bindingOf : MethodName := ⟨RX1, "bindingOf", "(I)I"⟩
abbrev cX1_unwind : ByteArray := prog_3_method_9_code
abbrev yX1_unwind : MethodName := ⟨RX1, "unwind", "(I)V"⟩
abbrev cX1_setVars : ByteArray := prog_3_method_10_code
abbrev yX1_setVars : MethodName := ⟨RX1, "setVars", "(IIIIII)V"⟩
abbrev cX1_valueOf : ByteArray := prog_3_method_11_code
abbrev yX1_valueOf : MethodName := ⟨RX1, "valueOf", "(I)I"⟩
abbrev cX1_reckon : ByteArray := prog_3_method_12_code
abbrev yX1_reckon : MethodName := ⟨RX1, "reckon", "(III)I"⟩
abbrev RX2 : String := "LateMirrors$Past"
def TX2 : u_T := fun k => match k with
  | 0 => ("LateMirrors$Past", "kept", "[I", true)
  | 1 => ("LateMirrors$Past", "first", "I", false)
  | _ => ("LateMirrors$Past", "size", "I", false)
def tyX2 : Nat → FieldType := fun k => match k with
  | 0 => .array .int
  | 1 => .int
  | _ => .int
abbrev wsX20 : List Cond := u_ws RX2 TX2 3
theorem nmX2 : ∀ a, a < 3 → ∀ b, b < 3 → a ≠ b → (TX2 a).2.1 ≠ (TX2 b).2.1 := by decide +kernel
theorem tyX2_ok : ∀ k, k < 3 → parseFieldDescriptor (TX2 k).2.2.1 = some (tyX2 k) := by decide +kernel
abbrev cX2_init : ByteArray := prog_4_method_1_code
abbrev yX2_init : MethodName := ⟨RX2, "<init>", "()V"⟩
abbrev cX2_clear : ByteArray := prog_4_method_2_code
abbrev yX2_clear : MethodName := ⟨RX2, "clear", "()V"⟩
abbrev cX2_keep : ByteArray := prog_4_method_3_code
abbrev yX2_keep : MethodName := ⟨RX2, "keep", "(LLateMirrors$Court;)V"⟩
abbrev cX2_takeBack : ByteArray := prog_4_method_4_code
abbrev yX2_takeBack : MethodName := ⟨RX2, "takeBack", "(LLateMirrors$Court;)Z"⟩
abbrev RX3 : String := "LateMirrors$Scanner"
def TX3 : u_T := fun k => match k with
  | 0 => ("LateMirrors$Scanner", "words", "[J", true)
  | 1 => ("LateMirrors$Scanner", "kinds", "[I", true)
  | 2 => ("LateMirrors$Scanner", "places", "[I", true)
  | 3 => ("LateMirrors$Scanner", "values", "[J", true)
  | 4 => ("LateMirrors$Scanner", "size", "I", false)
  | 5 => ("LateMirrors$Scanner", "faultAt", "I", false)
  | 6 => ("LateMirrors$Scanner", "value", "J", false)
  | 7 => ("LateMirrors$Scanner", "tells", "[I", true)
  | 8 => ("LateMirrors$Scanner", "tellKind", "I", false)
  | 9 => ("LateMirrors$Scanner", "spot", "I", false)
  | 10 => ("LateMirrors$Scanner", "part", "I", false)
  | 11 => ("LateMirrors$Scanner", "wantsUnit", "Z", false)
  | 12 => ("LateMirrors$Scanner", "fresh", "Z", false)
  | 13 => ("LateMirrors$Scanner", "brackets", "I", false)
  | _ => ("LateMirrors$Scanner", "ifs", "I", false)
def tyX3 : Nat → FieldType := fun k => match k with
  | 0 => .array .long
  | 1 => .array .int
  | 2 => .array .int
  | 3 => .array .long
  | 4 => .int
  | 5 => .int
  | 6 => .long
  | 7 => .array .int
  | 8 => .int
  | 9 => .int
  | 10 => .int
  | 11 => .boolean
  | 12 => .boolean
  | 13 => .int
  | _ => .int
abbrev wsX30 : List Cond := u_ws RX3 TX3 15
theorem nmX3 : ∀ a, a < 15 → ∀ b, b < 15 → a ≠ b → (TX3 a).2.1 ≠ (TX3 b).2.1 := by decide +kernel
theorem tyX3_ok : ∀ k, k < 15 → parseFieldDescriptor (TX3 k).2.2.1 = some (tyX3 k) := by decide +kernel
abbrev cX3_init : ByteArray := prog_5_method_1_code
abbrev yX3_init : MethodName := ⟨RX3, "<init>", "()V"⟩
abbrev cX3_codeOfWord : ByteArray := prog_5_method_2_code
abbrev yX3_codeOfWord : MethodName := ⟨RX3, "codeOfWord", "(II)J"⟩
abbrev cX3_addLetter : ByteArray := prog_5_method_3_code
abbrev yX3_addLetter : MethodName := ⟨RX3, "addLetter", "(JI)J"⟩
abbrev cX3_scan : ByteArray := prog_5_method_4_code
abbrev yX3_scan : MethodName := ⟨RX3, "scan", "([II)I"⟩
abbrev cX3_clear : ByteArray := prog_5_method_5_code
abbrev yX3_clear : MethodName := ⟨RX3, "clear", "()V"⟩
abbrev cX3_fail : ByteArray := prog_5_method_6_code
abbrev yX3_fail : MethodName := ⟨RX3, "fail", "(II)I"⟩
abbrev cX3_add : ByteArray := prog_5_method_7_code
abbrev yX3_add : MethodName := ⟨RX3, "add", "(II)V"⟩
abbrev cX3_nextByte : ByteArray := prog_5_method_8_code
abbrev yX3_nextByte : MethodName := ⟨RX3, "nextByte", "([III)I"⟩
abbrev cX3_isBlank : ByteArray := prog_5_method_9_code
abbrev yX3_isBlank : MethodName := ⟨RX3, "isBlank", "(I)Z"⟩
abbrev cX3_isLetter : ByteArray := prog_5_method_10_code
abbrev yX3_isLetter : MethodName := ⟨RX3, "isLetter", "(I)Z"⟩
abbrev cX3_isDigit : ByteArray := prog_5_method_11_code
abbrev yX3_isDigit : MethodName := ⟨RX3, "isDigit", "(I)Z"⟩
abbrev cX3_tokenEnd : ByteArray := prog_5_method_12_code
abbrev yX3_tokenEnd : MethodName := ⟨RX3, "tokenEnd", "([III)I"⟩
abbrev cX3_kindOf : ByteArray := prog_5_method_13_code
abbrev yX3_kindOf : MethodName := ⟨RX3, "kindOf", "([III)I"⟩
abbrev cX3_kindOfName : ByteArray := prog_5_method_14_code
abbrev yX3_kindOfName : MethodName := ⟨RX3, "kindOfName", "([III)I"⟩
abbrev cX3_shapeOf : ByteArray := prog_5_method_15_code
abbrev yX3_shapeOf : MethodName := ⟨RX3, "shapeOf", "(I)Ljava/lang/String;"⟩
abbrev cX3_goesOn : ByteArray := prog_5_method_16_code
abbrev yX3_goesOn : MethodName := ⟨RX3, "goesOn", "(I)Z"⟩
abbrev cX3_tellBegins : ByteArray := prog_5_method_17_code
abbrev yX3_tellBegins : MethodName := ⟨RX3, "tellBegins", "(I)Z"⟩
abbrev cX3_tooMany : ByteArray := prog_5_method_18_code
abbrev yX3_tooMany : MethodName := ⟨RX3, "tooMany", "()Z"⟩
abbrev cX3_lawGoesOn : ByteArray := prog_5_method_19_code
abbrev yX3_lawGoesOn : MethodName := ⟨RX3, "lawGoesOn", "(I)Z"⟩
abbrev cX3_beginE : ByteArray := prog_5_method_20_code
abbrev yX3_beginE : MethodName := ⟨RX3, "beginE", "(I)V"⟩
abbrev cX3_unitBegins : ByteArray := prog_5_method_21_code
abbrev yX3_unitBegins : MethodName := ⟨RX3, "unitBegins", "(I)Z"⟩
abbrev cX3_unitEnded : ByteArray := prog_5_method_22_code
abbrev yX3_unitEnded : MethodName := ⟨RX3, "unitEnded", "(I)Z"⟩
abbrev cX3_partEnds : ByteArray := prog_5_method_23_code
abbrev yX3_partEnds : MethodName := ⟨RX3, "partEnds", "(I)Z"⟩
abbrev RX4 : String := "LateMirrors$Text"
def TX4 : u_T := fun k => match k with
  | 0 => ("LateMirrors$Text", "rooms", "I", false)
  | 1 => ("LateMirrors$Text", "doors", "I", false)
  | 2 => ("LateMirrors$Text", "men", "I", false)
  | 3 => ("LateMirrors$Text", "mirrors", "I", false)
  | 4 => ("LateMirrors$Text", "breaks", "I", false)
  | 5 => ("LateMirrors$Text", "seed", "I", false)
  | 6 => ("LateMirrors$Text", "late", "I", false)
  | 7 => ("LateMirrors$Text", "doorEnds", "[I", true)
  | 8 => ("LateMirrors$Text", "firstRanks", "[I", true)
  | 9 => ("LateMirrors$Text", "firstRooms", "[I", true)
  | 10 => ("LateMirrors$Text", "goings", "[I", true)
  | 11 => ("LateMirrors$Text", "firstHangs", "[I", true)
  | 12 => ("LateMirrors$Text", "owners", "[I", true)
  | 13 => ("LateMirrors$Text", "names", "[J", true)
  | 14 => ("LateMirrors$Text", "meanings", "[I", true)
  | 15 => ("LateMirrors$Text", "nameCount", "I", false)
  | 16 => ("LateMirrors$Text", "laws", "LLateMirrors$Laws;", true)
  | 17 => ("LateMirrors$Text", "fault", "I", false)
  | _ => ("LateMirrors$Text", "faultAt", "I", false)
def tyX4 : Nat → FieldType := fun k => match k with
  | 0 => .int
  | 1 => .int
  | 2 => .int
  | 3 => .int
  | 4 => .int
  | 5 => .int
  | 6 => .int
  | 7 => .array .int
  | 8 => .array .int
  | 9 => .array .int
  | 10 => .array .int
  | 11 => .array .int
  | 12 => .array .int
  | 13 => .array .long
  | 14 => .array .int
  | 15 => .int
  | 16 => .object "LateMirrors$Laws"
  | 17 => .int
  | _ => .int
abbrev wsX40 : List Cond := u_ws RX4 TX4 19
theorem nmX4 : ∀ a, a < 19 → ∀ b, b < 19 → a ≠ b → (TX4 a).2.1 ≠ (TX4 b).2.1 := by decide +kernel
theorem tyX4_ok : ∀ k, k < 19 → parseFieldDescriptor (TX4 k).2.2.1 = some (tyX4 k) := by decide +kernel
abbrev cX4_init : ByteArray := prog_6_method_1_code
abbrev yX4_init : MethodName := ⟨RX4, "<init>", "()V"⟩
abbrev cX4_clear : ByteArray := prog_6_method_2_code
abbrev yX4_clear : MethodName := ⟨RX4, "clear", "()V"⟩
abbrev cX4_build : ByteArray := prog_6_method_3_code
abbrev yX4_build : MethodName := ⟨RX4, "build", "(LLateMirrors$Scanner;)I"⟩
abbrev cX4_take : ByteArray := prog_6_method_4_code
abbrev yX4_take : MethodName := ⟨RX4, "take", "(LLateMirrors$Scanner;I)I"⟩
abbrev cX4_takeDoor : ByteArray := prog_6_method_5_code
abbrev yX4_takeDoor : MethodName := ⟨RX4, "takeDoor", "(LLateMirrors$Scanner;I)V"⟩
abbrev cX4_takeMan : ByteArray := prog_6_method_6_code
abbrev yX4_takeMan : MethodName := ⟨RX4, "takeMan", "(LLateMirrors$Scanner;I)V"⟩
abbrev cX4_takeMirror : ByteArray := prog_6_method_7_code
abbrev yX4_takeMirror : MethodName := ⟨RX4, "takeMirror", "(LLateMirrors$Scanner;I)V"⟩
abbrev cX4_fail : ByteArray := prog_6_method_8_code
abbrev yX4_fail : MethodName := ⟨RX4, "fail", "(ILLateMirrors$Scanner;I)V"⟩
abbrev cX4_declare : ByteArray := prog_6_method_9_code
abbrev yX4_declare : MethodName := ⟨RX4, "declare", "(LLateMirrors$Scanner;III)V"⟩
abbrev cX4_meaningOf : ByteArray := prog_6_method_10_code
abbrev yX4_meaningOf : MethodName := ⟨RX4, "meaningOf", "(J)I"⟩
abbrev cX4_named : ByteArray := prog_6_method_11_code
abbrev yX4_named : MethodName := ⟨RX4, "named", "(LLateMirrors$Scanner;II)I"⟩
abbrev cX4_number : ByteArray := prog_6_method_12_code
abbrev yX4_number : MethodName := ⟨RX4, "number", "(LLateMirrors$Scanner;II)I"⟩
abbrev cX4_ownerOf : ByteArray := prog_6_method_13_code
abbrev yX4_ownerOf : MethodName := ⟨RX4, "ownerOf", "(I)I"⟩
abbrev cX4_doorEnd : ByteArray := prog_6_method_14_code
abbrev yX4_doorEnd : MethodName := ⟨RX4, "doorEnd", "(II)I"⟩
abbrev cX4_waysOf : ByteArray := prog_6_method_15_code
abbrev yX4_waysOf : MethodName := ⟨RX4, "waysOf", "(I)I"⟩
abbrev cX4_wayTo : ByteArray := prog_6_method_16_code
abbrev yX4_wayTo : MethodName := ⟨RX4, "wayTo", "(II)I"⟩
abbrev cX4_breaksAt : ByteArray := prog_6_method_17_code
abbrev yX4_breaksAt : MethodName := ⟨RX4, "breaksAt", "(III)Z"⟩
abbrev cX4_lot : ByteArray := prog_6_method_18_code
abbrev yX4_lot : MethodName := ⟨RX4, "lot", "(III)I"⟩
abbrev cX4_mixed : ByteArray := prog_6_method_19_code
abbrev yX4_mixed : MethodName := ⟨RX4, "mixed", "(II)I"⟩
abbrev RX5 : String := "LateMirrors"
def TX5 : u_T := fun k => match k with
  | 0 => ("LateMirrors", "tape", "[I", true)
  | 1 => ("LateMirrors", "tapeSize", "I", false)
  | 2 => ("LateMirrors", "faultAt", "I", false)
  | 3 => ("LateMirrors", "scanner", "LLateMirrors$Scanner;", true)
  | 4 => ("LateMirrors", "text", "LLateMirrors$Text;", false)
  | 5 => ("LateMirrors", "spare", "LLateMirrors$Text;", false)
  | 6 => ("LateMirrors", "court", "LLateMirrors$Court;", true)
  | 7 => ("LateMirrors", "maybe", "LLateMirrors$Court;", true)
  | 8 => ("LateMirrors", "past", "LLateMirrors$Past;", true)
  | 9 => ("LateMirrors", "slots", "[LLateMirrors$Court;", true)
  | 10 => ("LateMirrors", "held", "I", false)
  | 11 => ("LateMirrors", "known", "[I", true)
  | 12 => ("LateMirrors", "knownSize", "I", false)
  | 13 => ("LateMirrors", "steps", "[I", true)
  | 14 => ("LateMirrors", "worths", "[I", true)
  | _ => ("LateMirrors", "tally", "[I", true)
def tyX5 : Nat → FieldType := fun k => match k with
  | 0 => .array .int
  | 1 => .int
  | 2 => .int
  | 3 => .object "LateMirrors$Scanner"
  | 4 => .object "LateMirrors$Text"
  | 5 => .object "LateMirrors$Text"
  | 6 => .object "LateMirrors$Court"
  | 7 => .object "LateMirrors$Court"
  | 8 => .object "LateMirrors$Past"
  | 9 => .array (.object "LateMirrors$Court")
  | 10 => .int
  | 11 => .array .int
  | 12 => .int
  | 13 => .array .int
  | 14 => .array .int
  | _ => .array .int
abbrev wsX50 : List Cond := u_ws RX5 TX5 16
theorem nmX5 : ∀ a, a < 16 → ∀ b, b < 16 → a ≠ b → (TX5 a).2.1 ≠ (TX5 b).2.1 := by decide +kernel
theorem tyX5_ok : ∀ k, k < 16 → parseFieldDescriptor (TX5 k).2.2.1 = some (tyX5 k) := by decide +kernel
abbrev cX5_init : ByteArray := prog_1_method_1_code
abbrev yX5_init : MethodName := ⟨RX5, "<init>", "()V"⟩
abbrev cX5_feed : ByteArray := prog_1_method_2_code
abbrev yX5_feed : MethodName := ⟨RX5, "feed", "(IIIII)I"⟩
abbrev cX5_addBytes : ByteArray := prog_1_method_3_code
abbrev yX5_addBytes : MethodName := ⟨RX5, "addBytes", "(I)V"⟩
abbrev cX5_back : ByteArray := prog_1_method_4_code
abbrev yX5_back : MethodName := ⟨RX5, "back", "(I)I"⟩
abbrev cX5_read : ByteArray := prog_1_method_5_code
abbrev yX5_read : MethodName := ⟨RX5, "read", "()I"⟩
abbrev cX5_takeSpare : ByteArray := prog_1_method_6_code
abbrev yX5_takeSpare : MethodName := ⟨RX5, "takeSpare", "()V"⟩
abbrev cX5_place : ByteArray := prog_1_method_7_code
abbrev yX5_place : MethodName := ⟨RX5, "place", "()I"⟩
abbrev cX5_man : ByteArray := prog_1_method_8_code
abbrev yX5_man : MethodName := ⟨RX5, "man", "(III)I"⟩
abbrev cX5_mirror : ByteArray := prog_1_method_9_code
abbrev yX5_mirror : MethodName := ⟨RX5, "mirror", "(III)I"⟩
abbrev cX5_minutes : ByteArray := prog_1_method_10_code
abbrev yX5_minutes : MethodName := ⟨RX5, "minutes", "(I)I"⟩
abbrev cX5_go : ByteArray := prog_1_method_11_code
abbrev yX5_go : MethodName := ⟨RX5, "go", "(II)Z"⟩
abbrev cX5_raise : ByteArray := prog_1_method_12_code
abbrev yX5_raise : MethodName := ⟨RX5, "raise", "(II)Z"⟩
abbrev cX5_carry : ByteArray := prog_1_method_13_code
abbrev yX5_carry : MethodName := ⟨RX5, "carry", "(II)Z"⟩
abbrev cX5_turn : ByteArray := prog_1_method_14_code
abbrev yX5_turn : MethodName := ⟨RX5, "turn", "(IZ)Z"⟩
abbrev cX5_smash : ByteArray := prog_1_method_15_code
abbrev yX5_smash : MethodName := ⟨RX5, "smash", "(I)Z"⟩
abbrev cX5_undo : ByteArray := prog_1_method_16_code
abbrev yX5_undo : MethodName := ⟨RX5, "undo", "()Z"⟩
abbrev cX5_look : ByteArray := prog_1_method_17_code
abbrev yX5_look : MethodName := ⟨RX5, "look", "(IIII)I"⟩
abbrev cX5_facing : ByteArray := prog_1_method_18_code
abbrev yX5_facing : MethodName := ⟨RX5, "facing", "(III)I"⟩
abbrev cX5_facingTimes : ByteArray := prog_1_method_19_code
abbrev yX5_facingTimes : MethodName := ⟨RX5, "facingTimes", "(II)I"⟩
abbrev cX5_facingMinute : ByteArray := prog_1_method_20_code
abbrev yX5_facingMinute : MethodName := ⟨RX5, "facingMinute", "(III)I"⟩
abbrev cX5_glimpses : ByteArray := prog_1_method_21_code
abbrev yX5_glimpses : MethodName := ⟨RX5, "glimpses", "(III)I"⟩
abbrev cX5_ghosts : ByteArray := prog_1_method_22_code
abbrev yX5_ghosts : MethodName := ⟨RX5, "ghosts", "(I)I"⟩
abbrev cX5_oldest : ByteArray := prog_1_method_23_code
abbrev yX5_oldest : MethodName := ⟨RX5, "oldest", "(I)I"⟩
abbrev cX5_shown : ByteArray := prog_1_method_24_code
abbrev yX5_shown : MethodName := ⟨RX5, "shown", "(IZ)I"⟩
abbrev cX5_tallyShown : ByteArray := prog_1_method_25_code
abbrev yX5_tallyShown : MethodName := ⟨RX5, "tallyShown", "(I)V"⟩
abbrev cX5_deepest : ByteArray := prog_1_method_26_code
abbrev yX5_deepest : MethodName := ⟨RX5, "deepest", "(II)I"⟩
abbrev cX5_leastSeen : ByteArray := prog_1_method_27_code
abbrev yX5_leastSeen : MethodName := ⟨RX5, "leastSeen", "(LLateMirrors$Court;III)I"⟩
abbrev cX5_last : ByteArray := prog_1_method_28_code
abbrev yX5_last : MethodName := ⟨RX5, "last", "(II)I"⟩
abbrev cX5_visits : ByteArray := prog_1_method_29_code
abbrev yX5_visits : MethodName := ⟨RX5, "visits", "(II)I"⟩
abbrev cX5_alone : ByteArray := prog_1_method_30_code
abbrev yX5_alone : MethodName := ⟨RX5, "alone", "(IZ)I"⟩
abbrev cX5_aloneTimes : ByteArray := prog_1_method_31_code
abbrev yX5_aloneTimes : MethodName := ⟨RX5, "aloneTimes", "(IZ)I"⟩
abbrev cX5_lonely : ByteArray := prog_1_method_32_code
abbrev yX5_lonely : MethodName := ⟨RX5, "lonely", "()I"⟩
abbrev cX5_together : ByteArray := prog_1_method_33_code
abbrev yX5_together : MethodName := ⟨RX5, "together", "(III)I"⟩
abbrev cX5_crowd : ByteArray := prog_1_method_34_code
abbrev yX5_crowd : MethodName := ⟨RX5, "crowd", "(II)I"⟩
abbrev cX5_rankFor : ByteArray := prog_1_method_35_code
abbrev yX5_rankFor : MethodName := ⟨RX5, "rankFor", "(II)I"⟩
abbrev cX5_jolt : ByteArray := prog_1_method_36_code
abbrev yX5_jolt : MethodName := ⟨RX5, "jolt", "(III)I"⟩
abbrev cX5_still : ByteArray := prog_1_method_37_code
abbrev yX5_still : MethodName := ⟨RX5, "still", "(II)I"⟩
abbrev cX5_soonest : ByteArray := prog_1_method_38_code
abbrev yX5_soonest : MethodName := ⟨RX5, "soonest", "(III)I"⟩
abbrev cX5_view : ByteArray := prog_1_method_39_code
abbrev yX5_view : MethodName := ⟨RX5, "view", "(IIII)I"⟩
abbrev cX5_mirrorsInReach : ByteArray := prog_1_method_40_code
abbrev yX5_mirrorsInReach : MethodName := ⟨RX5, "mirrorsInReach", "(I)I"⟩
abbrev cX5_willBe : ByteArray := prog_1_method_41_code
abbrev yX5_willBe : MethodName := ⟨RX5, "willBe", "(II)I"⟩
abbrev cX5_seen : ByteArray := prog_1_method_42_code
abbrev yX5_seen : MethodName := ⟨RX5, "seen", "(II)I"⟩
abbrev cX5_turned : ByteArray := prog_1_method_43_code
abbrev yX5_turned : MethodName := ⟨RX5, "turned", "(II)I"⟩
abbrev cX5_forecast : ByteArray := prog_1_method_44_code
abbrev yX5_forecast : MethodName := ⟨RX5, "forecast", "(I)V"⟩
abbrev cX5_showersOf : ByteArray := prog_1_method_45_code
abbrev yX5_showersOf : MethodName := ⟨RX5, "showersOf", "(III)I"⟩
abbrev cX5_mirrorsWith : ByteArray := prog_1_method_46_code
abbrev yX5_mirrorsWith : MethodName := ⟨RX5, "mirrorsWith", "(II)I"⟩
abbrev cX5_odds : ByteArray := prog_1_method_47_code
abbrev yX5_odds : MethodName := ⟨RX5, "odds", "(III)I"⟩
abbrev cX5_breaksBy : ByteArray := prog_1_method_48_code
abbrev yX5_breaksBy : MethodName := ⟨RX5, "breaksBy", "(III)Z"⟩
abbrev cX5_hidden : ByteArray := prog_1_method_49_code
abbrev yX5_hidden : MethodName := ⟨RX5, "hidden", "(III)I"⟩
abbrev cX5_nextRoom : ByteArray := prog_1_method_50_code
abbrev yX5_nextRoom : MethodName := ⟨RX5, "nextRoom", "(II)I"⟩
abbrev cX5_countSteps : ByteArray := prog_1_method_51_code
abbrev yX5_countSteps : MethodName := ⟨RX5, "countSteps", "(II)V"⟩
abbrev cX5_stand : ByteArray := prog_1_method_52_code
abbrev yX5_stand : MethodName := ⟨RX5, "stand", "(I)I"⟩
abbrev cX5_rests : ByteArray := prog_1_method_53_code
abbrev yX5_rests : MethodName := ⟨RX5, "rests", "(III)I"⟩
abbrev cX5_isRest : ByteArray := prog_1_method_54_code
abbrev yX5_isRest : MethodName := ⟨RX5, "isRest", "(II)Z"⟩
abbrev cX5_worth : ByteArray := prog_1_method_55_code
abbrev yX5_worth : MethodName := ⟨RX5, "worth", "(II)I"⟩
abbrev cX5_tell : ByteArray := prog_1_method_56_code
abbrev yX5_tell : MethodName := ⟨RX5, "tell", "(IIIZ)I"⟩
abbrev cX5_forget : ByteArray := prog_1_method_57_code
abbrev yX5_forget : MethodName := ⟨RX5, "forget", "()I"⟩
abbrev cX5_began : ByteArray := prog_1_method_58_code
abbrev yX5_began : MethodName := ⟨RX5, "began", "(III)I"⟩
abbrev cX5_canHaveBegun : ByteArray := prog_1_method_59_code
abbrev yX5_canHaveBegun : MethodName := ⟨RX5, "canHaveBegun", "(III)Z"⟩
abbrev cX5_hold : ByteArray := prog_1_method_60_code
abbrev yX5_hold : MethodName := ⟨RX5, "hold", "(I)Z"⟩
abbrev cX5_restore : ByteArray := prog_1_method_61_code
abbrev yX5_restore : MethodName := ⟨RX5, "restore", "(I)Z"⟩
abbrev cX5_count : ByteArray := prog_1_method_62_code
abbrev yX5_count : MethodName := ⟨RX5, "count", "(I)I"⟩
abbrev cX5_isMan : ByteArray := prog_1_method_63_code
abbrev yX5_isMan : MethodName := ⟨RX5, "isMan", "(I)Z"⟩
abbrev cX5_isMirror : ByteArray := prog_1_method_64_code
abbrev yX5_isMirror : MethodName := ⟨RX5, "isMirror", "(I)Z"⟩
abbrev cX5_isRoom : ByteArray := prog_1_method_65_code
abbrev yX5_isRoom : MethodName := ⟨RX5, "isRoom", "(I)Z"⟩
abbrev cX5_isPast : ByteArray := prog_1_method_66_code
abbrev yX5_isPast : MethodName := ⟨RX5, "isPast", "(I)Z"⟩
abbrev cX5_isRank : ByteArray := prog_1_method_67_code
abbrev yX5_isRank : MethodName := ⟨RX5, "isRank", "(I)Z"⟩
abbrev cX5_within : ByteArray := prog_1_method_68_code
abbrev yX5_within : MethodName := ⟨RX5, "within", "(II)Z"⟩
abbrev cX5_has : ByteArray := prog_1_method_69_code
abbrev yX5_has : MethodName := ⟨RX5, "has", "(II)Z"⟩
abbrev cX5_firstOf : ByteArray := prog_1_method_70_code
abbrev yX5_firstOf : MethodName := ⟨RX5, "firstOf", "(I)I"⟩
abbrev cX5_at : ByteArray := prog_1_method_71_code
abbrev yX5_at : MethodName := ⟨RX5, "at", "([II)I"⟩
abbrev cX5_longAt : ByteArray := prog_1_method_72_code
abbrev yX5_longAt : MethodName := ⟨RX5, "longAt", "([JI)J"⟩
abbrev cX5_put : ByteArray := prog_1_method_73_code
abbrev yX5_put : MethodName := ⟨RX5, "put", "([III)V"⟩
abbrev cX5_putLong : ByteArray := prog_1_method_74_code
abbrev yX5_putLong : MethodName := ⟨RX5, "putLong", "([JIJ)V"⟩
abbrev cX5_copy : ByteArray := prog_1_method_75_code
abbrev yX5_copy : MethodName := ⟨RX5, "copy", "([II[III)V"⟩
abbrev RX6 : String := "LateMirrorsModel"
def TX6 : u_T := fun k => match k with
  | 0 => ("LateMirrorsModel", "thrown", "I", false)
  | 1 => ("LateMirrorsModel", "tape", "[B", true)
  | 2 => ("LateMirrorsModel", "taped", "I", false)
  | 3 => ("LateMirrorsModel", "text", "[B", true)
  | 4 => ("LateMirrorsModel", "size", "I", false)
  | 5 => ("LateMirrorsModel", "tKind", "[I", true)
  | 6 => ("LateMirrorsModel", "tPlace", "[I", true)
  | 7 => ("LateMirrorsModel", "tValue", "[I", true)
  | 8 => ("LateMirrorsModel", "tName", "[J", true)
  | 9 => ("LateMirrorsModel", "keys", "[J", true)
  | 10 => ("LateMirrorsModel", "tokens", "I", false)
  | 11 => ("LateMirrorsModel", "t", "I", false)
  | 12 => ("LateMirrorsModel", "open", "I", false)
  | 13 => ("LateMirrorsModel", "fault", "I", false)
  | 14 => ("LateMirrorsModel", "faultPlace", "I", false)
  | 15 => ("LateMirrorsModel", "worst", "I", false)
  | 16 => ("LateMirrorsModel", "worstPlace", "I", false)
  | 17 => ("LateMirrorsModel", "place", "I", false)
  | 18 => ("LateMirrorsModel", "live", "I", false)
  | 19 => ("LateMirrorsModel", "side", "I", false)
  | 20 => ("LateMirrorsModel", "names", "I", false)
  | 21 => ("LateMirrorsModel", "nameOf", "[J", true)
  | 22 => ("LateMirrorsModel", "nameSort", "[I", true)
  | 23 => ("LateMirrorsModel", "nameAt", "[I", true)
  | 24 => ("LateMirrorsModel", "rooms", "[I", true)
  | 25 => ("LateMirrorsModel", "doors", "[I", true)
  | 26 => ("LateMirrorsModel", "doorFrom", "[I", true)
  | 27 => ("LateMirrorsModel", "doorTo", "[I", true)
  | 28 => ("LateMirrorsModel", "men", "[I", true)
  | 29 => ("LateMirrorsModel", "rankTold", "[I", true)
  | 30 => ("LateMirrorsModel", "roomTold", "[I", true)
  | 31 => ("LateMirrorsModel", "mirrors", "[I", true)
  | 32 => ("LateMirrorsModel", "hangsTold", "[I", true)
  | 33 => ("LateMirrorsModel", "ownerOf", "[I", true)
  | 34 => ("LateMirrorsModel", "breaks", "[I", true)
  | 35 => ("LateMirrorsModel", "seed", "[I", true)
  | 36 => ("LateMirrorsModel", "lawFirst", "[I", true)
  | 37 => ("LateMirrorsModel", "lawLast", "[I", true)
  | 38 => ("LateMirrorsModel", "branches", "I", false)
  | 39 => ("LateMirrorsModel", "hasTest", "[Z", true)
  | 40 => ("LateMirrorsModel", "testFrom", "[I", true)
  | 41 => ("LateMirrorsModel", "testMid", "[I", true)
  | 42 => ("LateMirrorsModel", "testTo", "[I", true)
  | 43 => ("LateMirrorsModel", "termTo", "[I", true)
  | 44 => ("LateMirrorsModel", "codes", "I", false)
  | 45 => ("LateMirrorsModel", "code", "[I", true)
  | 46 => ("LateMirrorsModel", "codeInt", "[I", true)
  | 47 => ("LateMirrorsModel", "waits", "[I", true)
  | 48 => ("LateMirrorsModel", "waiting", "I", false)
  | 49 => ("LateMirrorsModel", "variables", "[I", true)
  | 50 => ("LateMirrorsModel", "pile", "[I", true)
  | 51 => ("LateMirrorsModel", "isBroken", "Z", false)
  | 52 => ("LateMirrorsModel", "past", "[I", true)
  | 53 => ("LateMirrorsModel", "minuteNow", "I", false)
  | 54 => ("LateMirrorsModel", "brokeNow", "[I", true)
  | 55 => ("LateMirrorsModel", "brokeShows", "[I", true)
  | 56 => ("LateMirrorsModel", "row", "[I", true)
  | 57 => ("LateMirrorsModel", "minute", "I", false)
  | 58 => ("LateMirrorsModel", "broke", "[I", true)
  | 59 => ("LateMirrorsModel", "shows", "[I", true)
  | 60 => ("LateMirrorsModel", "lots", "I", false)
  | 61 => ("LateMirrorsModel", "undos", "I", false)
  | 62 => ("LateMirrorsModel", "history", "[I", true)
  | 63 => ("LateMirrorsModel", "isLooked", "[Z", true)
  | 64 => ("LateMirrorsModel", "isLookedThen", "[Z", true)
  | 65 => ("LateMirrorsModel", "shownAt", "[I", true)
  | 66 => ("LateMirrorsModel", "farOf", "[I", true)
  | 67 => ("LateMirrorsModel", "told", "I", false)
  | 68 => ("LateMirrorsModel", "toldMirror", "[I", true)
  | 69 => ("LateMirrorsModel", "toldMinute", "[I", true)
  | 70 => ("LateMirrorsModel", "toldMan", "[I", true)
  | 71 => ("LateMirrorsModel", "toldThere", "[Z", true)
  | 72 => ("LateMirrorsModel", "isHeld", "[Z", true)
  | 73 => ("LateMirrorsModel", "held", "[I", true)
  | _ => ("LateMirrorsModel", "heldToo", "[I", true)
def tyX6 : Nat → FieldType := fun k => match k with
  | 0 => .int
  | 1 => .array .byte
  | 2 => .int
  | 3 => .array .byte
  | 4 => .int
  | 5 => .array .int
  | 6 => .array .int
  | 7 => .array .int
  | 8 => .array .long
  | 9 => .array .long
  | 10 => .int
  | 11 => .int
  | 12 => .int
  | 13 => .int
  | 14 => .int
  | 15 => .int
  | 16 => .int
  | 17 => .int
  | 18 => .int
  | 19 => .int
  | 20 => .int
  | 21 => .array .long
  | 22 => .array .int
  | 23 => .array .int
  | 24 => .array .int
  | 25 => .array .int
  | 26 => .array .int
  | 27 => .array .int
  | 28 => .array .int
  | 29 => .array .int
  | 30 => .array .int
  | 31 => .array .int
  | 32 => .array .int
  | 33 => .array .int
  | 34 => .array .int
  | 35 => .array .int
  | 36 => .array .int
  | 37 => .array .int
  | 38 => .int
  | 39 => .array .boolean
  | 40 => .array .int
  | 41 => .array .int
  | 42 => .array .int
  | 43 => .array .int
  | 44 => .int
  | 45 => .array .int
  | 46 => .array .int
  | 47 => .array .int
  | 48 => .int
  | 49 => .array .int
  | 50 => .array .int
  | 51 => .boolean
  | 52 => .array .int
  | 53 => .int
  | 54 => .array .int
  | 55 => .array .int
  | 56 => .array .int
  | 57 => .int
  | 58 => .array .int
  | 59 => .array .int
  | 60 => .int
  | 61 => .int
  | 62 => .array .int
  | 63 => .array .boolean
  | 64 => .array .boolean
  | 65 => .array .int
  | 66 => .array .int
  | 67 => .int
  | 68 => .array .int
  | 69 => .array .int
  | 70 => .array .int
  | 71 => .array .boolean
  | 72 => .array .boolean
  | 73 => .array .int
  | _ => .array .int
abbrev wsX60 : List Cond := u_ws RX6 TX6 75
theorem nmX6 : ∀ a, a < 75 → ∀ b, b < 75 → a ≠ b → (TX6 a).2.1 ≠ (TX6 b).2.1 := by decide +kernel
theorem tyX6_ok : ∀ k, k < 75 → parseFieldDescriptor (TX6 k).2.2.1 = some (tyX6 k) := by decide +kernel
abbrev cX6_init : ByteArray := prog_8_method_2_code
abbrev yX6_init : MethodName := ⟨RX6, "<init>", "()V"⟩
abbrev cX6_feed : ByteArray := prog_8_method_3_code
abbrev yX6_feed : MethodName := ⟨RX6, "feed", "(IIIII)I"⟩
abbrev cX6_put : ByteArray := prog_8_method_4_code
abbrev yX6_put : MethodName := ⟨RX6, "put", "(I)V"⟩
abbrev cX6_back : ByteArray := prog_8_method_5_code
abbrev yX6_back : MethodName := ⟨RX6, "back", "(I)I"⟩
abbrev cX6_byteAt : ByteArray := prog_8_method_6_code
abbrev yX6_byteAt : MethodName := ⟨RX6, "byteAt", "(I)I"⟩
abbrev cX6_isDigit : ByteArray := prog_8_method_7_code
abbrev yX6_isDigit : MethodName := ⟨RX6, "isDigit", "(I)Z"⟩
abbrev cX6_isLetter : ByteArray := prog_8_method_8_code
abbrev yX6_isLetter : MethodName := ⟨RX6, "isLetter", "(I)Z"⟩
abbrev cX6_appends : ByteArray := prog_8_method_9_code
abbrev yX6_appends : MethodName := ⟨RX6, "appends", "(JI)J"⟩
abbrev cX6_word : ByteArray := prog_8_method_10_code
abbrev yX6_word : MethodName := ⟨RX6, "word", "(IIIIIII)J"⟩
abbrev cX6_token : ByteArray := prog_8_method_11_code
abbrev yX6_token : MethodName := ⟨RX6, "token", "(IIIJ)V"⟩
abbrev cX6_cut : ByteArray := prog_8_method_12_code
abbrev yX6_cut : MethodName := ⟨RX6, "cut", "()V"⟩
abbrev cX6_sign : ByteArray := prog_8_method_13_code
abbrev yX6_sign : MethodName := ⟨RX6, "sign", "(III)I"⟩
abbrev cX6_is : ByteArray := prog_8_method_14_code
abbrev yX6_is : MethodName := ⟨RX6, "is", "(I)Z"⟩
abbrev cX6_fail : ByteArray := prog_8_method_15_code
abbrev yX6_fail : MethodName := ⟨RX6, "fail", "(I)V"⟩
abbrev cX6_wrong : ByteArray := prog_8_method_16_code
abbrev yX6_wrong : MethodName := ⟨RX6, "wrong", "(II)V"⟩
abbrev cX6_goesOn : ByteArray := prog_8_method_17_code
abbrev yX6_goesOn : MethodName := ⟨RX6, "goesOn", "()V"⟩
abbrev cX6_must : ByteArray := prog_8_method_18_code
abbrev yX6_must : MethodName := ⟨RX6, "must", "(I)V"⟩
abbrev cX6_plain : ByteArray := prog_8_method_19_code
abbrev yX6_plain : MethodName := ⟨RX6, "plain", "(I)V"⟩
abbrev cX6_read : ByteArray := prog_8_method_20_code
abbrev yX6_read : MethodName := ⟨RX6, "read", "()I"⟩
abbrev cX6_place : ByteArray := prog_8_method_21_code
abbrev yX6_place : MethodName := ⟨RX6, "place", "()I"⟩
abbrev cX6_roomFor : ByteArray := prog_8_method_22_code
abbrev yX6_roomFor : MethodName := ⟨RX6, "roomFor", "(II)V"⟩
abbrev cX6_tellOne : ByteArray := prog_8_method_23_code
abbrev yX6_tellOne : MethodName := ⟨RX6, "tellOne", "()V"⟩
abbrev cX6_named : ByteArray := prog_8_method_24_code
abbrev yX6_named : MethodName := ⟨RX6, "named", "()I"⟩
abbrev cX6_notes : ByteArray := prog_8_method_25_code
abbrev yX6_notes : MethodName := ⟨RX6, "notes", "(III)V"⟩
abbrev cX6_known : ByteArray := prog_8_method_26_code
abbrev yX6_known : MethodName := ⟨RX6, "known", "(I)I"⟩
abbrev cX6_bounded : ByteArray := prog_8_method_27_code
abbrev yX6_bounded : MethodName := ⟨RX6, "bounded", "(II)I"⟩
abbrev cX6_tellDoor : ByteArray := prog_8_method_28_code
abbrev yX6_tellDoor : MethodName := ⟨RX6, "tellDoor", "()V"⟩
abbrev cX6_tellMan : ByteArray := prog_8_method_29_code
abbrev yX6_tellMan : MethodName := ⟨RX6, "tellMan", "()V"⟩
abbrev cX6_tellMirror : ByteArray := prog_8_method_30_code
abbrev yX6_tellMirror : MethodName := ⟨RX6, "tellMirror", "()V"⟩
abbrev cX6_tellLaw : ByteArray := prog_8_method_31_code
abbrev yX6_tellLaw : MethodName := ⟨RX6, "tellLaw", "(I)V"⟩
abbrev cX6_term : ByteArray := prog_8_method_32_code
abbrev yX6_term : MethodName := ⟨RX6, "term", "()V"⟩
abbrev cX6_emit : ByteArray := prog_8_method_33_code
abbrev yX6_emit : MethodName := ⟨RX6, "emit", "(II)V"⟩
abbrev cX6_comesOut : ByteArray := prog_8_method_34_code
abbrev yX6_comesOut : MethodName := ⟨RX6, "comesOut", "(Z)V"⟩
abbrev cX6_expression : ByteArray := prog_8_method_35_code
abbrev yX6_expression : MethodName := ⟨RX6, "expression", "()V"⟩
abbrev cX6_unit : ByteArray := prog_8_method_36_code
abbrev yX6_unit : MethodName := ⟨RX6, "unit", "()V"⟩
abbrev cX6_termOf : ByteArray := prog_8_method_37_code
abbrev yX6_termOf : MethodName := ⟨RX6, "termOf", "(II)I"⟩
abbrev cX6_in : ByteArray := prog_8_method_38_code
abbrev yX6_in : MethodName := ⟨RX6, "in", "(III)Z"⟩
abbrev cX6_isRoom : ByteArray := prog_8_method_39_code
abbrev yX6_isRoom : MethodName := ⟨RX6, "isRoom", "(I)Z"⟩
abbrev cX6_isMan : ByteArray := prog_8_method_40_code
abbrev yX6_isMan : MethodName := ⟨RX6, "isMan", "(I)Z"⟩
abbrev cX6_isMirror : ByteArray := prog_8_method_41_code
abbrev yX6_isMirror : MethodName := ⟨RX6, "isMirror", "(I)Z"⟩
abbrev cX6_isPast : ByteArray := prog_8_method_42_code
abbrev yX6_isPast : MethodName := ⟨RX6, "isPast", "(I)Z"⟩
abbrev cX6_beginsWith : ByteArray := prog_8_method_43_code
abbrev yX6_beginsWith : MethodName := ⟨RX6, "beginsWith", "(II)V"⟩
abbrev cX6_begins : ByteArray := prog_8_method_44_code
abbrev yX6_begins : MethodName := ⟨RX6, "begins", "()V"⟩
abbrev cX6_keepsRows : ByteArray := prog_8_method_45_code
abbrev yX6_keepsRows : MethodName := ⟨RX6, "keepsRows", "(I)V"⟩
abbrev cX6_copies : ByteArray := prog_8_method_46_code
abbrev yX6_copies : MethodName := ⟨RX6, "copies", "()V"⟩
abbrev cX6_menIn : ByteArray := prog_8_method_47_code
abbrev yX6_menIn : MethodName := ⟨RX6, "menIn", "(II)I"⟩
abbrev cX6_bits : ByteArray := prog_8_method_48_code
abbrev yX6_bits : MethodName := ⟨RX6, "bits", "(I)I"⟩
abbrev cX6_waysOf : ByteArray := prog_8_method_49_code
abbrev yX6_waysOf : MethodName := ⟨RX6, "waysOf", "(I)I"⟩
abbrev cX6_through : ByteArray := prog_8_method_50_code
abbrev yX6_through : MethodName := ⟨RX6, "through", "(II)I"⟩
abbrev cX6_tells : ByteArray := prog_8_method_51_code
abbrev yX6_tells : MethodName := ⟨RX6, "tells", "(II)I"⟩
abbrev cX6_lateBy : ByteArray := prog_8_method_52_code
abbrev yX6_lateBy : MethodName := ⟨RX6, "lateBy", "(II)I"⟩
abbrev cX6_rankOfOwner : ByteArray := prog_8_method_53_code
abbrev yX6_rankOfOwner : MethodName := ⟨RX6, "rankOfOwner", "(I)I"⟩
abbrev cX6_fillsLate : ByteArray := prog_8_method_54_code
abbrev yX6_fillsLate : MethodName := ⟨RX6, "fillsLate", "()V"⟩
abbrev cX6_mixed : ByteArray := prog_8_method_55_code
abbrev yX6_mixed : MethodName := ⟨RX6, "mixed", "(II)I"⟩
abbrev cX6_lotOf : ByteArray := prog_8_method_56_code
abbrev yX6_lotOf : MethodName := ⟨RX6, "lotOf", "(I)I"⟩
abbrev cX6_goesTo : ByteArray := prog_8_method_57_code
abbrev yX6_goesTo : MethodName := ⟨RX6, "goesTo", "(I)I"⟩
abbrev cX6_isTurned : ByteArray := prog_8_method_58_code
abbrev yX6_isTurned : MethodName := ⟨RX6, "isTurned", "(II)Z"⟩
abbrev cX6_showsAt : ByteArray := prog_8_method_59_code
abbrev yX6_showsAt : MethodName := ⟨RX6, "showsAt", "(II)I"⟩
abbrev cX6_hungIn : ByteArray := prog_8_method_60_code
abbrev yX6_hungIn : MethodName := ⟨RX6, "hungIn", "(II)I"⟩
abbrev cX6_menShown : ByteArray := prog_8_method_61_code
abbrev yX6_menShown : MethodName := ⟨RX6, "menShown", "(II)I"⟩
abbrev cX6_breaksNow : ByteArray := prog_8_method_62_code
abbrev yX6_breaksNow : MethodName := ⟨RX6, "breaksNow", "(I)V"⟩
abbrev cX6_minuteGoes : ByteArray := prog_8_method_63_code
abbrev yX6_minuteGoes : MethodName := ⟨RX6, "minuteGoes", "()V"⟩
abbrev cX6_goesTill : ByteArray := prog_8_method_64_code
abbrev yX6_goesTill : MethodName := ⟨RX6, "goesTill", "(I)V"⟩
abbrev cX6_man : ByteArray := prog_8_method_65_code
abbrev yX6_man : MethodName := ⟨RX6, "man", "(III)I"⟩
abbrev cX6_mirror : ByteArray := prog_8_method_66_code
abbrev yX6_mirror : MethodName := ⟨RX6, "mirror", "(III)I"⟩
abbrev cX6_keeps : ByteArray := prog_8_method_67_code
abbrev yX6_keeps : MethodName := ⟨RX6, "keeps", "()V"⟩
abbrev cX6_minutes : ByteArray := prog_8_method_68_code
abbrev yX6_minutes : MethodName := ⟨RX6, "minutes", "(I)I"⟩
abbrev cX6_becomes : ByteArray := prog_8_method_69_code
abbrev yX6_becomes : MethodName := ⟨RX6, "becomes", "(II)V"⟩
abbrev cX6_nowOf : ByteArray := prog_8_method_70_code
abbrev yX6_nowOf : MethodName := ⟨RX6, "nowOf", "(I)I"⟩
abbrev cX6_go : ByteArray := prog_8_method_71_code
abbrev yX6_go : MethodName := ⟨RX6, "go", "(II)Z"⟩
abbrev cX6_raise : ByteArray := prog_8_method_72_code
abbrev yX6_raise : MethodName := ⟨RX6, "raise", "(II)Z"⟩
abbrev cX6_carry : ByteArray := prog_8_method_73_code
abbrev yX6_carry : MethodName := ⟨RX6, "carry", "(II)Z"⟩
abbrev cX6_turn : ByteArray := prog_8_method_74_code
abbrev yX6_turn : MethodName := ⟨RX6, "turn", "(IZ)Z"⟩
abbrev cX6_smash : ByteArray := prog_8_method_75_code
abbrev yX6_smash : MethodName := ⟨RX6, "smash", "(I)Z"⟩
abbrev cX6_undo : ByteArray := prog_8_method_76_code
abbrev yX6_undo : MethodName := ⟨RX6, "undo", "()Z"⟩
abbrev cX6_seenIn : ByteArray := prog_8_method_77_code
abbrev yX6_seenIn : MethodName := ⟨RX6, "seenIn", "(III)I"⟩
abbrev cX6_look : ByteArray := prog_8_method_78_code
abbrev yX6_look : MethodName := ⟨RX6, "look", "(IIII)I"⟩
abbrev cX6_facing : ByteArray := prog_8_method_79_code
abbrev yX6_facing : MethodName := ⟨RX6, "facing", "(III)I"⟩
abbrev cX6_deepest : ByteArray := prog_8_method_80_code
abbrev yX6_deepest : MethodName := ⟨RX6, "deepest", "(II)I"⟩
abbrev cX6_last : ByteArray := prog_8_method_81_code
abbrev yX6_last : MethodName := ⟨RX6, "last", "(II)I"⟩
abbrev cX6_visits : ByteArray := prog_8_method_82_code
abbrev yX6_visits : MethodName := ⟨RX6, "visits", "(II)I"⟩
abbrev cX6_isAlone : ByteArray := prog_8_method_83_code
abbrev yX6_isAlone : MethodName := ⟨RX6, "isAlone", "(II)Z"⟩
abbrev cX6_aloneOf : ByteArray := prog_8_method_84_code
abbrev yX6_aloneOf : MethodName := ⟨RX6, "aloneOf", "(I)I"⟩
abbrev cX6_alone : ByteArray := prog_8_method_85_code
abbrev yX6_alone : MethodName := ⟨RX6, "alone", "(IZ)I"⟩
abbrev cX6_lonely : ByteArray := prog_8_method_86_code
abbrev yX6_lonely : MethodName := ⟨RX6, "lonely", "()I"⟩
abbrev cX6_together : ByteArray := prog_8_method_87_code
abbrev yX6_together : MethodName := ⟨RX6, "together", "(III)I"⟩
abbrev cX6_isGlimpsed : ByteArray := prog_8_method_88_code
abbrev yX6_isGlimpsed : MethodName := ⟨RX6, "isGlimpsed", "(III)Z"⟩
abbrev cX6_glimpses : ByteArray := prog_8_method_89_code
abbrev yX6_glimpses : MethodName := ⟨RX6, "glimpses", "(III)I"⟩
abbrev cX6_crowd : ByteArray := prog_8_method_90_code
abbrev yX6_crowd : MethodName := ⟨RX6, "crowd", "(II)I"⟩
abbrev cX6_ghosts : ByteArray := prog_8_method_91_code
abbrev yX6_ghosts : MethodName := ⟨RX6, "ghosts", "(I)I"⟩
abbrev cX6_oldest : ByteArray := prog_8_method_92_code
abbrev yX6_oldest : MethodName := ⟨RX6, "oldest", "(I)I"⟩
abbrev cX6_shown : ByteArray := prog_8_method_93_code
abbrev yX6_shown : MethodName := ⟨RX6, "shown", "(IZ)I"⟩
abbrev cX6_rankFor : ByteArray := prog_8_method_94_code
abbrev yX6_rankFor : MethodName := ⟨RX6, "rankFor", "(II)I"⟩
abbrev cX6_fillsAll : ByteArray := prog_8_method_95_code
abbrev yX6_fillsAll : MethodName := ⟨RX6, "fillsAll", "()V"⟩
abbrev cX6_showsRoom : ByteArray := prog_8_method_96_code
abbrev yX6_showsRoom : MethodName := ⟨RX6, "showsRoom", "(IIII)Z"⟩
abbrev cX6_still : ByteArray := prog_8_method_97_code
abbrev yX6_still : MethodName := ⟨RX6, "still", "(II)I"⟩
abbrev cX6_soonest : ByteArray := prog_8_method_98_code
abbrev yX6_soonest : MethodName := ⟨RX6, "soonest", "(III)I"⟩
abbrev cX6_isLong : ByteArray := prog_8_method_99_code
abbrev yX6_isLong : MethodName := ⟨RX6, "isLong", "(I)Z"⟩
abbrev cX6_isSeenIn : ByteArray := prog_8_method_100_code
abbrev yX6_isSeenIn : MethodName := ⟨RX6, "isSeenIn", "(III)Z"⟩
abbrev cX6_seen : ByteArray := prog_8_method_101_code
abbrev yX6_seen : MethodName := ⟨RX6, "seen", "(II)I"⟩
abbrev cX6_turned : ByteArray := prog_8_method_102_code
abbrev yX6_turned : MethodName := ⟨RX6, "turned", "(II)I"⟩
abbrev cX6_willBe : ByteArray := prog_8_method_103_code
abbrev yX6_willBe : MethodName := ⟨RX6, "willBe", "(II)I"⟩
abbrev cX6_odds : ByteArray := prog_8_method_104_code
abbrev yX6_odds : MethodName := ⟨RX6, "odds", "(III)I"⟩
abbrev cX6_fillsFar : ByteArray := prog_8_method_105_code
abbrev yX6_fillsFar : MethodName := ⟨RX6, "fillsFar", "(II)V"⟩
abbrev cX6_view : ByteArray := prog_8_method_106_code
abbrev yX6_view : MethodName := ⟨RX6, "view", "(IIII)I"⟩
abbrev cX6_watched : ByteArray := prog_8_method_107_code
abbrev yX6_watched : MethodName := ⟨RX6, "watched", "()I"⟩
abbrev cX6_hidden : ByteArray := prog_8_method_108_code
abbrev yX6_hidden : MethodName := ⟨RX6, "hidden", "(III)I"⟩
abbrev cX6_seenFrom : ByteArray := prog_8_method_109_code
abbrev yX6_seenFrom : MethodName := ⟨RX6, "seenFrom", "(I)I"⟩
abbrev cX6_stand : ByteArray := prog_8_method_110_code
abbrev yX6_stand : MethodName := ⟨RX6, "stand", "(I)I"⟩
abbrev cX6_hasIn : ByteArray := prog_8_method_111_code
abbrev yX6_hasIn : MethodName := ⟨RX6, "hasIn", "(III)I"⟩
abbrev cX6_isResting : ByteArray := prog_8_method_112_code
abbrev yX6_isResting : MethodName := ⟨RX6, "isResting", "(III)Z"⟩
abbrev cX6_rests : ByteArray := prog_8_method_113_code
abbrev yX6_rests : MethodName := ⟨RX6, "rests", "(III)I"⟩
abbrev cX6_jolt : ByteArray := prog_8_method_114_code
abbrev yX6_jolt : MethodName := ⟨RX6, "jolt", "(III)I"⟩
abbrev cX6_tell : ByteArray := prog_8_method_115_code
abbrev yX6_tell : MethodName := ⟨RX6, "tell", "(IIIZ)I"⟩
abbrev cX6_forget : ByteArray := prog_8_method_116_code
abbrev yX6_forget : MethodName := ⟨RX6, "forget", "()I"⟩
abbrev cX6_isSo : ByteArray := prog_8_method_117_code
abbrev yX6_isSo : MethodName := ⟨RX6, "isSo", "(III)Z"⟩
abbrev cX6_began : ByteArray := prog_8_method_118_code
abbrev yX6_began : MethodName := ⟨RX6, "began", "(III)I"⟩
abbrev cX6_hold : ByteArray := prog_8_method_119_code
abbrev yX6_hold : MethodName := ⟨RX6, "hold", "(I)Z"⟩
abbrev cX6_restore : ByteArray := prog_8_method_120_code
abbrev yX6_restore : MethodName := ⟨RX6, "restore", "(I)Z"⟩
abbrev cX6_count : ByteArray := prog_8_method_121_code
abbrev yX6_count : MethodName := ⟨RX6, "count", "(I)I"⟩
abbrev RJ11 : String := "java/lang/Character"
def TJ11 : u_T := fun k => match k with
  | _ => ("", "", "", false)
def tyJ11 : Nat → FieldType := fun k => match k with
  | _ => .int
abbrev wsJ110 : List Cond := u_ws RJ11 TJ11 0
theorem nmJ11 : ∀ a, a < 0 → ∀ b, b < 0 → a ≠ b → (TJ11 a).2.1 ≠ (TJ11 b).2.1 := by decide +kernel
theorem tyJ11_ok : ∀ k, k < 0 → parseFieldDescriptor (TJ11 k).2.2.1 = some (tyJ11 k) := by decide +kernel
abbrev cJ11_isValidCodePoint_9a6ad : ByteArray := prog_9_method_11_code
abbrev yJ11_isValidCodePoint_9a6ad : MethodName := ⟨RJ11, "isValidCodePoint", "(I)Z"⟩
abbrev cJ11_highSurrogate_5068e : ByteArray := prog_9_method_28_code
abbrev yJ11_highSurrogate_5068e : MethodName := ⟨RJ11, "highSurrogate", "(I)C"⟩
abbrev cJ11_lowSurrogate_5068e : ByteArray := prog_9_method_29_code
abbrev yJ11_lowSurrogate_5068e : MethodName := ⟨RJ11, "lowSurrogate", "(I)C"⟩
abbrev RJ6 : String := "java/lang/Integer"
def TJ6 : u_T := fun k => match k with
  | _ => ("", "", "", false)
def tyJ6 : Nat → FieldType := fun k => match k with
  | _ => .int
abbrev wsJ60 : List Cond := u_ws RJ6 TJ6 0
theorem nmJ6 : ∀ a, a < 0 → ∀ b, b < 0 → a ≠ b → (TJ6 a).2.1 ≠ (TJ6 b).2.1 := by decide +kernel
theorem tyJ6_ok : ∀ k, k < 0 → parseFieldDescriptor (TJ6 k).2.2.1 = some (tyJ6 k) := by decide +kernel
abbrev cJ6_bitCount_0f7a4 : ByteArray := prog_10_method_49_code
abbrev yJ6_bitCount_0f7a4 : MethodName := ⟨RJ6, "bitCount", "(I)I"⟩
abbrev RJ9 : String := "java/lang/Math"
def TJ9 : u_T := fun k => match k with
  | _ => ("", "", "", false)
def tyJ9 : Nat → FieldType := fun k => match k with
  | _ => .int
abbrev wsJ90 : List Cond := u_ws RJ9 TJ9 0
theorem nmJ9 : ∀ a, a < 0 → ∀ b, b < 0 → a ≠ b → (TJ9 a).2.1 ≠ (TJ9 b).2.1 := by decide +kernel
theorem tyJ9_ok : ∀ k, k < 0 → parseFieldDescriptor (TJ9 k).2.2.1 = some (tyJ9 k) := by decide +kernel
abbrev cJ9_max_7cf53 : ByteArray := prog_11_method_65_code
abbrev yJ9_max_7cf53 : MethodName := ⟨RJ9, "max", "(II)I"⟩
abbrev cJ9_min_7cf53 : ByteArray := prog_11_method_69_code
abbrev yJ9_min_7cf53 : MethodName := ⟨RJ9, "min", "(II)I"⟩
abbrev RJ0 : String := "java/lang/String"
def TJ0 : u_T := fun k => match k with
  | _ => ("", "", "", false)
def tyJ0 : Nat → FieldType := fun k => match k with
  | _ => .int
abbrev wsJ00 : List Cond := u_ws RJ0 TJ0 0
theorem nmJ0 : ∀ a, a < 0 → ∀ b, b < 0 → a ≠ b → (TJ0 a).2.1 ≠ (TJ0 b).2.1 := by decide +kernel
theorem tyJ0_ok : ∀ k, k < 0 → parseFieldDescriptor (TJ0 k).2.2.1 = some (tyJ0 k) := by decide +kernel
abbrev cJ0_length_8abf5 : ByteArray := prog_12_method_54_code
abbrev yJ0_length_8abf5 : MethodName := ⟨RJ0, "length", "()I"⟩
abbrev cJ0_charAt_5068e : ByteArray := prog_12_method_56_code
abbrev yJ0_charAt_5068e : MethodName := ⟨RJ0, "charAt", "(I)C"⟩
abbrev cJ0_indexOf_0f7a4 : ByteArray := prog_12_method_79_code
abbrev yJ0_indexOf_0f7a4 : MethodName := ⟨RJ0, "indexOf", "(I)I"⟩
abbrev cJ0_indexOf_7cf53 : ByteArray := prog_12_method_80_code
abbrev yJ0_indexOf_7cf53 : MethodName := ⟨RJ0, "indexOf", "(II)I"⟩
abbrev cJ0_coder_7d493 : ByteArray := prog_12_method_152_code
abbrev yJ0_coder_7d493 : MethodName := ⟨RJ0, "coder", "()B"⟩
abbrev cJ0_isLatin1_aae02 : ByteArray := prog_12_method_154_code
abbrev yJ0_isLatin1_aae02 : MethodName := ⟨RJ0, "isLatin1", "()Z"⟩
abbrev cJ0_checkIndex_df160 : ByteArray := prog_12_method_155_code
abbrev yJ0_checkIndex_df160 : MethodName := ⟨RJ0, "checkIndex", "(II)V"⟩
abbrev cJ0_checkBoundsBeginEnd_23922 : ByteArray := prog_12_method_158_code
abbrev yJ0_checkBoundsBeginEnd_23922 : MethodName := ⟨RJ0, "checkBoundsBeginEnd", "(III)V"⟩
abbrev RJ1 : String := "java/lang/StringLatin1"
def TJ1 : u_T := fun k => match k with
  | _ => ("", "", "", false)
def tyJ1 : Nat → FieldType := fun k => match k with
  | _ => .int
abbrev wsJ10 : List Cond := u_ws RJ1 TJ1 0
theorem nmJ1 : ∀ a, a < 0 → ∀ b, b < 0 → a ≠ b → (TJ1 a).2.1 ≠ (TJ1 b).2.1 := by decide +kernel
theorem tyJ1_ok : ∀ k, k < 0 → parseFieldDescriptor (TJ1 k).2.2.1 = some (tyJ1 k) := by decide +kernel
abbrev cJ1_charAt_3b067 : ByteArray := prog_13_method_2_code
abbrev yJ1_charAt_3b067 : MethodName := ⟨RJ1, "charAt", "([BI)C"⟩
abbrev cJ1_canEncode_9a6ad : ByteArray := prog_13_method_4_code
abbrev yJ1_canEncode_9a6ad : MethodName := ⟨RJ1, "canEncode", "(I)Z"⟩
abbrev cJ1_indexOf_4cfef : ByteArray := prog_13_method_22_code
abbrev yJ1_indexOf_4cfef : MethodName := ⟨RJ1, "indexOf", "([BIII)I"⟩
abbrev cJ1_indexOfChar_4cfef : ByteArray := prog_13_method_23_code
abbrev yJ1_indexOfChar_4cfef : MethodName := ⟨RJ1, "indexOfChar", "([BIII)I"⟩
abbrev RJ2 : String := "java/lang/StringUTF16"
def TJ2 : u_T := fun k => match k with
  | _ => ("", "", "", false)
def tyJ2 : Nat → FieldType := fun k => match k with
  | _ => .int
abbrev wsJ20 : List Cond := u_ws RJ2 TJ2 0
theorem nmJ2 : ∀ a, a < 0 → ∀ b, b < 0 → a ≠ b → (TJ2 a).2.1 ≠ (TJ2 b).2.1 := by decide +kernel
theorem tyJ2_ok : ∀ k, k < 0 → parseFieldDescriptor (TJ2 k).2.2.1 = some (tyJ2 k) := by decide +kernel
abbrev cJ2_getChar_3b067 : ByteArray := prog_14_method_5_code
abbrev yJ2_getChar_3b067 : MethodName := ⟨RJ2, "getChar", "([BI)C"⟩
abbrev cJ2_length_9d52b : ByteArray := prog_14_method_6_code
abbrev yJ2_length_9d52b : MethodName := ⟨RJ2, "length", "([B)I"⟩
abbrev cJ2_indexOf_4cfef : ByteArray := prog_14_method_40_code
abbrev yJ2_indexOf_4cfef : MethodName := ⟨RJ2, "indexOf", "([BIII)I"⟩
abbrev cJ2_indexOfChar_4cfef : ByteArray := prog_14_method_47_code
abbrev yJ2_indexOfChar_4cfef : MethodName := ⟨RJ2, "indexOfChar", "([BIII)I"⟩
abbrev cJ2_indexOfCharUnsafe_4cfef : ByteArray := prog_14_method_48_code
abbrev yJ2_indexOfCharUnsafe_4cfef : MethodName := ⟨RJ2, "indexOfCharUnsafe", "([BIII)I"⟩
abbrev cJ2_indexOfSupplementary_4cfef : ByteArray := prog_14_method_49_code
abbrev yJ2_indexOfSupplementary_4cfef : MethodName := ⟨RJ2, "indexOfSupplementary", "([BIII)I"⟩
abbrev cJ2_charAt_3b067 : ByteArray := prog_14_method_83_code
abbrev yJ2_charAt_3b067 : MethodName := ⟨RJ2, "charAt", "([BI)C"⟩
abbrev cJ2_checkIndex_2214a : ByteArray := prog_14_method_91_code
abbrev yJ2_checkIndex_2214a : MethodName := ⟨RJ2, "checkIndex", "(I[B)V"⟩
abbrev cJ2_checkBoundsBeginEnd_d044e : ByteArray := prog_14_method_93_code
abbrev yJ2_checkBoundsBeginEnd_d044e : MethodName := ⟨RJ2, "checkBoundsBeginEnd", "(II[B)V"⟩
abbrev RJ10 : String := "java/lang/System"
def TJ10 : u_T := fun k => match k with
  | _ => ("", "", "", false)
def tyJ10 : Nat → FieldType := fun k => match k with
  | _ => .int
abbrev wsJ100 : List Cond := u_ws RJ10 TJ10 0
theorem nmJ10 : ∀ a, a < 0 → ∀ b, b < 0 → a ≠ b → (TJ10 a).2.1 ≠ (TJ10 b).2.1 := by decide +kernel
theorem tyJ10_ok : ∀ k, k < 0 → parseFieldDescriptor (TJ10 k).2.2.1 = some (tyJ10 k) := by decide +kernel
abbrev RJ3 : String := "jdk/internal/util/Preconditions"
def TJ3 : u_T := fun k => match k with
  | _ => ("", "", "", false)
def tyJ3 : Nat → FieldType := fun k => match k with
  | _ => .int
abbrev wsJ30 : List Cond := u_ws RJ3 TJ3 0
theorem nmJ3 : ∀ a, a < 0 → ∀ b, b < 0 → a ≠ b → (TJ3 a).2.1 ≠ (TJ3 b).2.1 := by decide +kernel
theorem tyJ3_ok : ∀ k, k < 0 → parseFieldDescriptor (TJ3 k).2.2.1 = some (tyJ3 k) := by decide +kernel
abbrev cJ3_checkIndex_8e157 : ByteArray := prog_16_method_11_code
abbrev yJ3_checkIndex_8e157 : MethodName := ⟨RJ3, "checkIndex", "(IILjava/util/function/BiFunction;)I"⟩
abbrev cJ3_checkFromToIndex_8c36e : ByteArray := prog_16_method_12_code
abbrev yJ3_checkFromToIndex_8c36e : MethodName := ⟨RJ3, "checkFromToIndex", "(IIILjava/util/function/BiFunction;)I"⟩
abbrev RL : String := "LateMirrorsLaw"
abbrev cL_law : ByteArray := code
abbrev yL_law : MethodName := ⟨RL, "law", "([I)Z"⟩
abbrev vwCl : List vw_C := [(RX0, TX0, 9), (RX1, TX1, 7), (RX2, TX2, 3), (RX3, TX3, 15), (RX4, TX4, 19), (RX5, TX5, 16), (RX6, TX6, 75)]
