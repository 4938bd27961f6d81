section
-- ===== PART A: goes FIRST, ahead of the names: the tables' words, and 'selects' of the private methods out of them =====
/-- a private method of a class that the tables say can be made, by its rows of tables_1 -/
def lw_okq (q : MethodName × Nat) : Prop := (q.1.cls ≠ "java/lang/invoke/MethodHandle" ∧ q.1.cls ≠ "java/lang/invoke/VarHandle") ∧ Cond.instantiable q.1.cls q.2 ∈ tables_1 ∧ Cond.privateMethod q.1 ∈ tables_1 ∧ Cond.instanceMethod q.1 ∈ tables_1
theorem lw_p0 : lw_okq (⟨"TailVectors$History", "forgetOldest", "()V"⟩, 2) := ⟨⟨by decide +kernel, by decide +kernel⟩, List.mem_of_getElem? (i := 48) (by decide +kernel), List.mem_of_getElem? (i := 178) (by decide +kernel), List.mem_of_getElem? (i := 179) (by decide +kernel)⟩
theorem lw_p1 : lw_okq (⟨"TailVectors$History", "stateAt", "(I)LTailVectors$State;"⟩, 2) := ⟨⟨by decide +kernel, by decide +kernel⟩, List.mem_of_getElem? (i := 48) (by decide +kernel), List.mem_of_getElem? (i := 182) (by decide +kernel), List.mem_of_getElem? (i := 183) (by decide +kernel)⟩
theorem lw_p2 : lw_okq (⟨"TailVectors$Row", "hangTail", "(II)I"⟩, 3) := ⟨⟨by decide +kernel, by decide +kernel⟩, List.mem_of_getElem? (i := 82) (by decide +kernel), List.mem_of_getElem? (i := 212) (by decide +kernel), List.mem_of_getElem? (i := 213) (by decide +kernel)⟩
theorem lw_p3 : lw_okq (⟨"TailVectors$Row", "makePath", "(IIII)I"⟩, 3) := ⟨⟨by decide +kernel, by decide +kernel⟩, List.mem_of_getElem? (i := 82) (by decide +kernel), List.mem_of_getElem? (i := 219) (by decide +kernel), List.mem_of_getElem? (i := 220) (by decide +kernel)⟩
theorem lw_p4 : lw_okq (⟨"TailVectors$Row", "makeBlock", "(III)I"⟩, 3) := ⟨⟨by decide +kernel, by decide +kernel⟩, List.mem_of_getElem? (i := 82) (by decide +kernel), List.mem_of_getElem? (i := 228) (by decide +kernel), List.mem_of_getElem? (i := 229) (by decide +kernel)⟩
theorem lw_p5 : lw_okq (⟨"TailVectors$Row", "takeLastLeaf", "(II)I"⟩, 3) := ⟨⟨by decide +kernel, by decide +kernel⟩, List.mem_of_getElem? (i := 82) (by decide +kernel), List.mem_of_getElem? (i := 252) (by decide +kernel), List.mem_of_getElem? (i := 253) (by decide +kernel)⟩
theorem lw_p6 : lw_okq (⟨"TailVectors$Row", "removeBlock", "(I)V"⟩, 3) := ⟨⟨by decide +kernel, by decide +kernel⟩, List.mem_of_getElem? (i := 82) (by decide +kernel), List.mem_of_getElem? (i := 259) (by decide +kernel), List.mem_of_getElem? (i := 260) (by decide +kernel)⟩
theorem lw_p7 : lw_okq (⟨"TailVectors$State", "takeEditRow", "(LTailVectors$Row;I)I"⟩, 5) := ⟨⟨by decide +kernel, by decide +kernel⟩, List.mem_of_getElem? (i := 19) (by decide +kernel), List.mem_of_getElem? (i := 295) (by decide +kernel), List.mem_of_getElem? (i := 296) (by decide +kernel)⟩
theorem lw_p8 : lw_okq (⟨"TailVectors$Text", "characterAt", "(I)C"⟩, 2) := ⟨⟨by decide +kernel, by decide +kernel⟩, List.mem_of_getElem? (i := 65) (by decide +kernel), List.mem_of_getElem? (i := 319) (by decide +kernel), List.mem_of_getElem? (i := 320) (by decide +kernel)⟩
theorem lw_p9 : lw_okq (⟨"TailVectors$Text", "commas", "()I"⟩, 2) := ⟨⟨by decide +kernel, by decide +kernel⟩, List.mem_of_getElem? (i := 65) (by decide +kernel), List.mem_of_getElem? (i := 330) (by decide +kernel), List.mem_of_getElem? (i := 331) (by decide +kernel)⟩
theorem lw_p10 : lw_okq (⟨"TailVectors$State", "isInOne", "(III)Z"⟩, 5) := ⟨⟨by decide +kernel, by decide +kernel⟩, List.mem_of_getElem? (i := 19) (by decide +kernel), List.mem_of_getElem? (i := 470) (by decide +kernel), List.mem_of_getElem? (i := 471) (by decide +kernel)⟩
theorem lw_p11 : lw_okq (⟨"TailVectors$State", "rowAt", "(I)LTailVectors$Row;"⟩, 5) := ⟨⟨by decide +kernel, by decide +kernel⟩, List.mem_of_getElem? (i := 19) (by decide +kernel), List.mem_of_getElem? (i := 474) (by decide +kernel), List.mem_of_getElem? (i := 475) (by decide +kernel)⟩
theorem lw_p12 : lw_okq (⟨"TailVectorsModel", "no", "(I)Z"⟩, 9) := ⟨⟨by decide +kernel, by decide +kernel⟩, List.mem_of_getElem? (i := 493) (by decide +kernel), List.mem_of_getElem? (i := 532) (by decide +kernel), List.mem_of_getElem? (i := 533) (by decide +kernel)⟩
theorem lw_p13 : lw_okq (⟨"TailVectorsModel", "first", "(I)I"⟩, 9) := ⟨⟨by decide +kernel, by decide +kernel⟩, List.mem_of_getElem? (i := 493) (by decide +kernel), List.mem_of_getElem? (i := 539) (by decide +kernel), List.mem_of_getElem? (i := 540) (by decide +kernel)⟩
theorem lw_p14 : lw_okq (⟨"TailVectorsModel", "length", "(I)I"⟩, 9) := ⟨⟨by decide +kernel, by decide +kernel⟩, List.mem_of_getElem? (i := 493) (by decide +kernel), List.mem_of_getElem? (i := 543) (by decide +kernel), List.mem_of_getElem? (i := 544) (by decide +kernel)⟩
theorem lw_p15 : lw_okq (⟨"TailVectorsModel", "isWindow", "(I)Z"⟩, 9) := ⟨⟨by decide +kernel, by decide +kernel⟩, List.mem_of_getElem? (i := 493) (by decide +kernel), List.mem_of_getElem? (i := 547) (by decide +kernel), List.mem_of_getElem? (i := 548) (by decide +kernel)⟩
def lw_privs_1 : List (MethodName × Nat) := [(⟨"TailVectors$History", "forgetOldest", "()V"⟩, 2), (⟨"TailVectors$History", "stateAt", "(I)LTailVectors$State;"⟩, 2), (⟨"TailVectors$Row", "hangTail", "(II)I"⟩, 3), (⟨"TailVectors$Row", "makePath", "(IIII)I"⟩, 3), (⟨"TailVectors$Row", "makeBlock", "(III)I"⟩, 3), (⟨"TailVectors$Row", "takeLastLeaf", "(II)I"⟩, 3), (⟨"TailVectors$Row", "removeBlock", "(I)V"⟩, 3), (⟨"TailVectors$State", "takeEditRow", "(LTailVectors$Row;I)I"⟩, 5), (⟨"TailVectors$Text", "characterAt", "(I)C"⟩, 2), (⟨"TailVectors$Text", "commas", "()I"⟩, 2), (⟨"TailVectors$State", "isInOne", "(III)Z"⟩, 5), (⟨"TailVectors$State", "rowAt", "(I)LTailVectors$Row;"⟩, 5), (⟨"TailVectorsModel", "no", "(I)Z"⟩, 9), (⟨"TailVectorsModel", "first", "(I)I"⟩, 9), (⟨"TailVectorsModel", "length", "(I)I"⟩, 9), (⟨"TailVectorsModel", "isWindow", "(I)Z"⟩, 9)]
theorem lw_r1 : ∀ q ∈ lw_privs_1, lw_okq q := List.forall_mem_cons.mpr ⟨lw_p0, List.forall_mem_cons.mpr ⟨lw_p1, List.forall_mem_cons.mpr ⟨lw_p2, List.forall_mem_cons.mpr ⟨lw_p3, List.forall_mem_cons.mpr ⟨lw_p4, List.forall_mem_cons.mpr ⟨lw_p5, List.forall_mem_cons.mpr ⟨lw_p6, List.forall_mem_cons.mpr ⟨lw_p7, List.forall_mem_cons.mpr ⟨lw_p8, List.forall_mem_cons.mpr ⟨lw_p9, List.forall_mem_cons.mpr ⟨lw_p10, List.forall_mem_cons.mpr ⟨lw_p11, List.forall_mem_cons.mpr ⟨lw_p12, List.forall_mem_cons.mpr ⟨lw_p13, List.forall_mem_cons.mpr ⟨lw_p14, List.forall_mem_cons.mpr ⟨lw_p15, fun _ h => absurd h List.not_mem_nil⟩⟩⟩⟩⟩⟩⟩⟩⟩⟩⟩⟩⟩⟩⟩⟩
theorem lw_p16 : lw_okq (⟨"TailVectorsModel", "rowLength", "(I)I"⟩, 9) := ⟨⟨by decide +kernel, by decide +kernel⟩, List.mem_of_getElem? (i := 493) (by decide +kernel), List.mem_of_getElem? (i := 551) (by decide +kernel), List.mem_of_getElem? (i := 552) (by decide +kernel)⟩
theorem lw_p17 : lw_okq (⟨"TailVectorsModel", "isFull", "()Z"⟩, 9) := ⟨⟨by decide +kernel, by decide +kernel⟩, List.mem_of_getElem? (i := 493) (by decide +kernel), List.mem_of_getElem? (i := 555) (by decide +kernel), List.mem_of_getElem? (i := 556) (by decide +kernel)⟩
theorem lw_p18 : lw_okq (⟨"TailVectorsModel", "record", "()V"⟩, 9) := ⟨⟨by decide +kernel, by decide +kernel⟩, List.mem_of_getElem? (i := 493) (by decide +kernel), List.mem_of_getElem? (i := 559) (by decide +kernel), List.mem_of_getElem? (i := 560) (by decide +kernel)⟩
theorem lw_p19 : lw_okq (⟨"TailVectorsModel", "comes", "(IZII)I"⟩, 9) := ⟨⟨by decide +kernel, by decide +kernel⟩, List.mem_of_getElem? (i := 493) (by decide +kernel), List.mem_of_getElem? (i := 563) (by decide +kernel), List.mem_of_getElem? (i := 564) (by decide +kernel)⟩
theorem lw_p20 : lw_okq (⟨"TailVectorsModel", "copies", "(II)V"⟩, 9) := ⟨⟨by decide +kernel, by decide +kernel⟩, List.mem_of_getElem? (i := 493) (by decide +kernel), List.mem_of_getElem? (i := 567) (by decide +kernel), List.mem_of_getElem? (i := 568) (by decide +kernel)⟩
theorem lw_p21 : lw_okq (⟨"TailVectorsModel", "pushes", "(II)V"⟩, 9) := ⟨⟨by decide +kernel, by decide +kernel⟩, List.mem_of_getElem? (i := 493) (by decide +kernel), List.mem_of_getElem? (i := 571) (by decide +kernel), List.mem_of_getElem? (i := 572) (by decide +kernel)⟩
theorem lw_p22 : lw_okq (⟨"TailVectorsModel", "makes", "(IIIZ)V"⟩, 9) := ⟨⟨by decide +kernel, by decide +kernel⟩, List.mem_of_getElem? (i := 493) (by decide +kernel), List.mem_of_getElem? (i := 578) (by decide +kernel), List.mem_of_getElem? (i := 579) (by decide +kernel)⟩
theorem lw_p23 : lw_okq (⟨"TailVectorsModel", "sets", "(III)V"⟩, 9) := ⟨⟨by decide +kernel, by decide +kernel⟩, List.mem_of_getElem? (i := 493) (by decide +kernel), List.mem_of_getElem? (i := 594) (by decide +kernel), List.mem_of_getElem? (i := 595) (by decide +kernel)⟩
theorem lw_p24 : lw_okq (⟨"TailVectorsModel", "pops", "(I)V"⟩, 9) := ⟨⟨by decide +kernel, by decide +kernel⟩, List.mem_of_getElem? (i := 493) (by decide +kernel), List.mem_of_getElem? (i := 606) (by decide +kernel), List.mem_of_getElem? (i := 607) (by decide +kernel)⟩
theorem lw_p25 : lw_okq (⟨"TailVectorsModel", "there", "()I"⟩, 9) := ⟨⟨by decide +kernel, by decide +kernel⟩, List.mem_of_getElem? (i := 493) (by decide +kernel), List.mem_of_getElem? (i := 618) (by decide +kernel), List.mem_of_getElem? (i := 619) (by decide +kernel)⟩
theorem lw_p26 : lw_okq (⟨"TailVectorsModel", "noEdit", "()Z"⟩, 9) := ⟨⟨by decide +kernel, by decide +kernel⟩, List.mem_of_getElem? (i := 493) (by decide +kernel), List.mem_of_getElem? (i := 626) (by decide +kernel), List.mem_of_getElem? (i := 627) (by decide +kernel)⟩
theorem lw_p27 : lw_okq (⟨"TailVectorsModel", "valuesOfText", "()I"⟩, 9) := ⟨⟨by decide +kernel, by decide +kernel⟩, List.mem_of_getElem? (i := 493) (by decide +kernel), List.mem_of_getElem? (i := 662) (by decide +kernel), List.mem_of_getElem? (i := 663) (by decide +kernel)⟩
theorem lw_p28 : lw_okq (⟨"TailVectorsModel", "takesNumber", "()Z"⟩, 9) := ⟨⟨by decide +kernel, by decide +kernel⟩, List.mem_of_getElem? (i := 493) (by decide +kernel), List.mem_of_getElem? (i := 666) (by decide +kernel), List.mem_of_getElem? (i := 667) (by decide +kernel)⟩
theorem lw_p29 : lw_okq (⟨"TailVectorsModel", "isDigit", "()Z"⟩, 9) := ⟨⟨by decide +kernel, by decide +kernel⟩, List.mem_of_getElem? (i := 493) (by decide +kernel), List.mem_of_getElem? (i := 670) (by decide +kernel), List.mem_of_getElem? (i := 671) (by decide +kernel)⟩
theorem lw_p30 : lw_okq (⟨"TailVectorsModel", "value", "(II)I"⟩, 9) := ⟨⟨by decide +kernel, by decide +kernel⟩, List.mem_of_getElem? (i := 493) (by decide +kernel), List.mem_of_getElem? (i := 690) (by decide +kernel), List.mem_of_getElem? (i := 691) (by decide +kernel)⟩
theorem lw_p31 : lw_okq (⟨"TailVectorsModel", "sum", "(I)I"⟩, 9) := ⟨⟨by decide +kernel, by decide +kernel⟩, List.mem_of_getElem? (i := 493) (by decide +kernel), List.mem_of_getElem? (i := 701) (by decide +kernel), List.mem_of_getElem? (i := 702) (by decide +kernel)⟩
def lw_privs_2 : List (MethodName × Nat) := [(⟨"TailVectorsModel", "rowLength", "(I)I"⟩, 9), (⟨"TailVectorsModel", "isFull", "()Z"⟩, 9), (⟨"TailVectorsModel", "record", "()V"⟩, 9), (⟨"TailVectorsModel", "comes", "(IZII)I"⟩, 9), (⟨"TailVectorsModel", "copies", "(II)V"⟩, 9), (⟨"TailVectorsModel", "pushes", "(II)V"⟩, 9), (⟨"TailVectorsModel", "makes", "(IIIZ)V"⟩, 9), (⟨"TailVectorsModel", "sets", "(III)V"⟩, 9), (⟨"TailVectorsModel", "pops", "(I)V"⟩, 9), (⟨"TailVectorsModel", "there", "()I"⟩, 9), (⟨"TailVectorsModel", "noEdit", "()Z"⟩, 9), (⟨"TailVectorsModel", "valuesOfText", "()I"⟩, 9), (⟨"TailVectorsModel", "takesNumber", "()Z"⟩, 9), (⟨"TailVectorsModel", "isDigit", "()Z"⟩, 9), (⟨"TailVectorsModel", "value", "(II)I"⟩, 9), (⟨"TailVectorsModel", "sum", "(I)I"⟩, 9)]
theorem lw_r2 : ∀ q ∈ lw_privs_2, lw_okq q := List.forall_mem_cons.mpr ⟨lw_p16, List.forall_mem_cons.mpr ⟨lw_p17, List.forall_mem_cons.mpr ⟨lw_p18, List.forall_mem_cons.mpr ⟨lw_p19, List.forall_mem_cons.mpr ⟨lw_p20, List.forall_mem_cons.mpr ⟨lw_p21, List.forall_mem_cons.mpr ⟨lw_p22, List.forall_mem_cons.mpr ⟨lw_p23, List.forall_mem_cons.mpr ⟨lw_p24, List.forall_mem_cons.mpr ⟨lw_p25, List.forall_mem_cons.mpr ⟨lw_p26, List.forall_mem_cons.mpr ⟨lw_p27, List.forall_mem_cons.mpr ⟨lw_p28, List.forall_mem_cons.mpr ⟨lw_p29, List.forall_mem_cons.mpr ⟨lw_p30, List.forall_mem_cons.mpr ⟨lw_p31, fun _ h => absurd h List.not_mem_nil⟩⟩⟩⟩⟩⟩⟩⟩⟩⟩⟩⟩⟩⟩⟩⟩
theorem lw_p32 : lw_okq (⟨"TailVectorsModel", "greatest", "(I)I"⟩, 9) := ⟨⟨by decide +kernel, by decide +kernel⟩, List.mem_of_getElem? (i := 493) (by decide +kernel), List.mem_of_getElem? (i := 705) (by decide +kernel), List.mem_of_getElem? (i := 706) (by decide +kernel)⟩
theorem lw_p33 : lw_okq (⟨"TailVectorsModel", "id", "(III)I"⟩, 9) := ⟨⟨by decide +kernel, by decide +kernel⟩, List.mem_of_getElem? (i := 493) (by decide +kernel), List.mem_of_getElem? (i := 713) (by decide +kernel), List.mem_of_getElem? (i := 714) (by decide +kernel)⟩
theorem lw_p34 : lw_okq (⟨"TailVectorsModel", "sharedOf", "(II)I"⟩, 9) := ⟨⟨by decide +kernel, by decide +kernel⟩, List.mem_of_getElem? (i := 493) (by decide +kernel), List.mem_of_getElem? (i := 721) (by decide +kernel), List.mem_of_getElem? (i := 722) (by decide +kernel)⟩
theorem lw_p35 : lw_okq (⟨"TailVectorsModel", "isOfVector", "(I)Z"⟩, 9) := ⟨⟨by decide +kernel, by decide +kernel⟩, List.mem_of_getElem? (i := 493) (by decide +kernel), List.mem_of_getElem? (i := 725) (by decide +kernel), List.mem_of_getElem? (i := 726) (by decide +kernel)⟩
theorem lw_p36 : lw_okq (⟨"TailVectorsModel", "has", "(II)Z"⟩, 9) := ⟨⟨by decide +kernel, by decide +kernel⟩, List.mem_of_getElem? (i := 493) (by decide +kernel), List.mem_of_getElem? (i := 729) (by decide +kernel), List.mem_of_getElem? (i := 730) (by decide +kernel)⟩
theorem lw_p37 : lw_okq (⟨"TailVectorsModel", "own", "()I"⟩, 9) := ⟨⟨by decide +kernel, by decide +kernel⟩, List.mem_of_getElem? (i := 493) (by decide +kernel), List.mem_of_getElem? (i := 749) (by decide +kernel), List.mem_of_getElem? (i := 750) (by decide +kernel)⟩
theorem lw_p38 : lw_okq (⟨"TailVectorsModel", "used", "()I"⟩, 9) := ⟨⟨by decide +kernel, by decide +kernel⟩, List.mem_of_getElem? (i := 493) (by decide +kernel), List.mem_of_getElem? (i := 757) (by decide +kernel), List.mem_of_getElem? (i := 758) (by decide +kernel)⟩
theorem lw_p39 : lw_okq (⟨"TailVectorsModel", "lengths", "()I"⟩, 9) := ⟨⟨by decide +kernel, by decide +kernel⟩, List.mem_of_getElem? (i := 493) (by decide +kernel), List.mem_of_getElem? (i := 761) (by decide +kernel), List.mem_of_getElem? (i := 762) (by decide +kernel)⟩
def lw_privs_3 : List (MethodName × Nat) := [(⟨"TailVectorsModel", "greatest", "(I)I"⟩, 9), (⟨"TailVectorsModel", "id", "(III)I"⟩, 9), (⟨"TailVectorsModel", "sharedOf", "(II)I"⟩, 9), (⟨"TailVectorsModel", "isOfVector", "(I)Z"⟩, 9), (⟨"TailVectorsModel", "has", "(II)Z"⟩, 9), (⟨"TailVectorsModel", "own", "()I"⟩, 9), (⟨"TailVectorsModel", "used", "()I"⟩, 9), (⟨"TailVectorsModel", "lengths", "()I"⟩, 9)]
theorem lw_r3 : ∀ q ∈ lw_privs_3, lw_okq q := List.forall_mem_cons.mpr ⟨lw_p32, List.forall_mem_cons.mpr ⟨lw_p33, List.forall_mem_cons.mpr ⟨lw_p34, List.forall_mem_cons.mpr ⟨lw_p35, List.forall_mem_cons.mpr ⟨lw_p36, List.forall_mem_cons.mpr ⟨lw_p37, List.forall_mem_cons.mpr ⟨lw_p38, List.forall_mem_cons.mpr ⟨lw_p39, fun _ h => absurd h List.not_mem_nil⟩⟩⟩⟩⟩⟩⟩⟩
def lw_privs : List (MethodName × Nat) := lw_privs_1 ++ (lw_privs_2 ++ (lw_privs_3))
def lw_tbl : List Cond := k2_sels lw_privs ++ tables_1
theorem lw_privs_ok : ∀ q ∈ lw_privs, lw_okq q := by
  show ∀ q ∈ lw_privs_1 ++ (lw_privs_2 ++ (lw_privs_3)), lw_okq q
  exact List.forall_mem_append.mpr ⟨lw_r1, List.forall_mem_append.mpr ⟨lw_r2, lw_r3⟩⟩
end
section
/-! ===== BEGIN words of one list among another's, by their places ===== -/
theorem goodIn_r {big : List Cond} (ws : List Cond) (ps : List Nat) (hp : ws = ps.filterMap (fun i => big[i]?)) (h : ws.all goodWord = true) : GoodIn big ws := by
  intro w hw
  have h1 := List.all_eq_true.mp h w hw
  rw [hp] at hw
  obtain ⟨i, -, hi⟩ := List.mem_filterMap.mp hw
  have hm : w ∈ big := by first | exact List.mem_of_getElem? hi | exact List.getElem?_mem hi
  exact ⟨hm, good_of_word h1⟩
theorem goodIn_app {big a b : List Cond} (ha : GoodIn big a) (hb : GoodIn big b) : GoodIn big (a ++ b) := fun w h => (List.mem_append.mp h).elim (ha w) (hb w)
theorem goodIn_ca {big a b : List Cond} {c : Cond} (ha : GoodIn big (c :: a)) (hb : GoodIn big b) : GoodIn big (c :: (a ++ b)) := fun w h => (List.mem_cons.mp h).elim (fun e => ha w (List.mem_cons.mpr (Or.inl e))) (fun h => (List.mem_append.mp h).elim (fun h => ha w (List.mem_cons.mpr (Or.inr h))) (hb w))
theorem goodIn_sub {big ws : List Cond} (hm : ∀ w ∈ ws, w ∈ big) (h : ws.all goodWord = true) : GoodIn big ws := fun w hw => ⟨hm w hw, good_of_word (List.all_eq_true.mp h w hw)⟩
/-! ===== END ===== -/

/-! ===== BEGIN printed: names, fields, word lists, decode rows ===== -/
def RX0 : String := "TailVectors$History"
def TX0 : u_T := fun k => match k with
  | 0 => ("TailVectors$History", "states", "[LTailVectors$State;", true)
  | _ => ("TailVectors$History", "many", "I", false)
def tyX0 : Nat → FieldType := fun k => match k with
  | 0 => .array (.object "TailVectors$State")
  | _ => .int
abbrev wsX00 : List Cond := u_ws RX0 TX0 2
theorem nmX0 : ∀ a, a < 2 → ∀ b, b < 2 → a ≠ b → (TX0 a).2.1 ≠ (TX0 b).2.1 := by decide +kernel
theorem tyX0_ok : ∀ k, k < 2 → parseFieldDescriptor (TX0 k).2.2.1 = some (tyX0 k) := by decide +kernel
abbrev cX0_init : ByteArray := prog_2_method_1_code
def yX0_init : MethodName := ⟨RX0, "<init>", "()V"⟩
abbrev cX0_remember : ByteArray := prog_2_method_2_code
def yX0_remember : MethodName := ⟨RX0, "remember", "(LTailVectors$State;)V"⟩
abbrev cX0_takeBack : ByteArray := prog_2_method_3_code
def yX0_takeBack : MethodName := ⟨RX0, "takeBack", "(LTailVectors$State;)V"⟩
abbrev cX0_stateAt : ByteArray := prog_2_method_4_code
def yX0_stateAt : MethodName := ⟨RX0, "stateAt", "(I)LTailVectors$State;"⟩
abbrev cX0_forgetOldest : ByteArray := prog_2_method_5_code
def yX0_forgetOldest : MethodName := ⟨RX0, "forgetOldest", "()V"⟩
def RX1 : String := "TailVectors$Row"
def TX1 : u_T := fun k => match k with
  | 0 => ("TailVectors$Row", "values", "[I", true)
  | 1 => ("TailVectors$Row", "numbers", "[I", true)
  | _ => ("TailVectors$Row", "length", "I", false)
def tyX1 : Nat → FieldType := fun k => match k with
  | 0 => .array .int
  | 1 => .array .int
  | _ => .int
abbrev wsX10 : List Cond := u_ws RX1 TX1 3
theorem nmX1 : ∀ a, a < 3 → ∀ b, b < 3 → a ≠ b → (TX1 a).2.1 ≠ (TX1 b).2.1 := by decide +kernel
theorem tyX1_ok : ∀ k, k < 3 → parseFieldDescriptor (TX1 k).2.2.1 = some (tyX1 k) := by decide +kernel
abbrev cX1_init : ByteArray := prog_3_method_1_code
def yX1_init : MethodName := ⟨RX1, "<init>", "(I)V"⟩
abbrev cX1_copy : ByteArray := prog_3_method_2_code
def yX1_copy : MethodName := ⟨RX1, "copy", "(I)LTailVectors$Row;"⟩
abbrev cX1_leaves : ByteArray := prog_3_method_3_code
def yX1_leaves : MethodName := ⟨RX1, "leaves", "()I"⟩
abbrev cX1_tail : ByteArray := prog_3_method_4_code
def yX1_tail : MethodName := ⟨RX1, "tail", "()I"⟩
abbrev cX1_slotOf : ByteArray := prog_3_method_5_code
def yX1_slotOf : MethodName := ⟨RX1, "slotOf", "(II)I"⟩
abbrev cX1_numberAt : ByteArray := prog_3_method_6_code
def yX1_numberAt : MethodName := ⟨RX1, "numberAt", "(II)I"⟩
abbrev cX1_write : ByteArray := prog_3_method_7_code
def yX1_write : MethodName := ⟨RX1, "write", "(IIII)I"⟩
abbrev cX1_hangTail : ByteArray := prog_3_method_8_code
def yX1_hangTail : MethodName := ⟨RX1, "hangTail", "(II)I"⟩
abbrev cX1_makePath : ByteArray := prog_3_method_9_code
def yX1_makePath : MethodName := ⟨RX1, "makePath", "(IIII)I"⟩
abbrev cX1_makeBlock : ByteArray := prog_3_method_10_code
def yX1_makeBlock : MethodName := ⟨RX1, "makeBlock", "(III)I"⟩
abbrev cX1_removeLast : ByteArray := prog_3_method_11_code
def yX1_removeLast : MethodName := ⟨RX1, "removeLast", "(II)I"⟩
abbrev cX1_takeLastLeaf : ByteArray := prog_3_method_12_code
def yX1_takeLastLeaf : MethodName := ⟨RX1, "takeLastLeaf", "(II)I"⟩
abbrev cX1_isFirstLeafOfBlock : ByteArray := prog_3_method_13_code
def yX1_isFirstLeafOfBlock : MethodName := ⟨RX1, "isFirstLeafOfBlock", "(II)Z"⟩
abbrev cX1_removeBlock : ByteArray := prog_3_method_14_code
def yX1_removeBlock : MethodName := ⟨RX1, "removeBlock", "(I)V"⟩
abbrev cX1_blocks : ByteArray := prog_3_method_15_code
def yX1_blocks : MethodName := ⟨RX1, "blocks", "()I"⟩
abbrev cX1_blocksFrom : ByteArray := prog_3_method_16_code
def yX1_blocksFrom : MethodName := ⟨RX1, "blocksFrom", "(I)I"⟩
abbrev cX1_has : ByteArray := prog_3_method_17_code
def yX1_has : MethodName := ⟨RX1, "has", "(II)Z"⟩
abbrev cX1_sharedWith : ByteArray := prog_3_method_18_code
def yX1_sharedWith : MethodName := ⟨RX1, "sharedWith", "(LTailVectors$Row;)I"⟩
def RX2 : String := "TailVectors$State"
def TX2 : u_T := fun k => match k with
  | 0 => ("TailVectors$State", "views", "[LTailVectors$View;", true)
  | 1 => ("TailVectors$State", "ever", "I", false)
  | 2 => ("TailVectors$State", "made", "I", false)
  | 3 => ("TailVectors$State", "editRow", "LTailVectors$Row;", false)
  | _ => ("TailVectors$State", "firstOwn", "I", false)
def tyX2 : Nat → FieldType := fun k => match k with
  | 0 => .array (.object "TailVectors$View")
  | 1 => .int
  | 2 => .int
  | 3 => .object "TailVectors$Row"
  | _ => .int
abbrev wsX20 : List Cond := u_ws RX2 TX2 5
theorem nmX2 : ∀ a, a < 5 → ∀ b, b < 5 → a ≠ b → (TX2 a).2.1 ≠ (TX2 b).2.1 := by decide +kernel
theorem tyX2_ok : ∀ k, k < 5 → parseFieldDescriptor (TX2 k).2.2.1 = some (tyX2 k) := by decide +kernel
abbrev cX2_init : ByteArray := prog_4_method_1_code
def yX2_init : MethodName := ⟨RX2, "<init>", "()V"⟩
abbrev cX2_copyFrom : ByteArray := prog_4_method_2_code
def yX2_copyFrom : MethodName := ⟨RX2, "copyFrom", "(LTailVectors$State;)V"⟩
abbrev cX2_isFull : ByteArray := prog_4_method_3_code
def yX2_isFull : MethodName := ⟨RX2, "isFull", "()Z"⟩
abbrev cX2_viewOf : ByteArray := prog_4_method_4_code
def yX2_viewOf : MethodName := ⟨RX2, "viewOf", "(I)LTailVectors$View;"⟩
abbrev cX2_addView : ByteArray := prog_4_method_5_code
def yX2_addView : MethodName := ⟨RX2, "addView", "(LTailVectors$View;)I"⟩
abbrev cX2_removeView : ByteArray := prog_4_method_6_code
def yX2_removeView : MethodName := ⟨RX2, "removeView", "(I)V"⟩
abbrev cX2_viewsLeft : ByteArray := prog_4_method_7_code
def yX2_viewsLeft : MethodName := ⟨RX2, "viewsLeft", "()I"⟩
abbrev cX2_valuesShown : ByteArray := prog_4_method_8_code
def yX2_valuesShown : MethodName := ⟨RX2, "valuesShown", "()I"⟩
abbrev cX2_rowWith : ByteArray := prog_4_method_9_code
def yX2_rowWith : MethodName := ⟨RX2, "rowWith", "(LTailVectors$Row;II)LTailVectors$Row;"⟩
abbrev cX2_rowWithoutLast : ByteArray := prog_4_method_10_code
def yX2_rowWithoutLast : MethodName := ⟨RX2, "rowWithoutLast", "(LTailVectors$Row;)LTailVectors$Row;"⟩
abbrev cX2_beginEdit : ByteArray := prog_4_method_11_code
def yX2_beginEdit : MethodName := ⟨RX2, "beginEdit", "(LTailVectors$Row;)V"⟩
abbrev cX2_endEdit : ByteArray := prog_4_method_12_code
def yX2_endEdit : MethodName := ⟨RX2, "endEdit", "()V"⟩
abbrev cX2_editWrite : ByteArray := prog_4_method_13_code
def yX2_editWrite : MethodName := ⟨RX2, "editWrite", "(LTailVectors$Row;II)I"⟩
abbrev cX2_editRemoveLast : ByteArray := prog_4_method_14_code
def yX2_editRemoveLast : MethodName := ⟨RX2, "editRemoveLast", "(LTailVectors$Row;)I"⟩
abbrev cX2_editAppendAll : ByteArray := prog_4_method_15_code
def yX2_editAppendAll : MethodName := ⟨RX2, "editAppendAll", "(LTailVectors$Row;[I)I"⟩
abbrev cX2_takeEditRow : ByteArray := prog_4_method_16_code
def yX2_takeEditRow : MethodName := ⟨RX2, "takeEditRow", "(LTailVectors$Row;I)I"⟩
abbrev cX2_rowAt : ByteArray := prog_4_method_17_code
def yX2_rowAt : MethodName := ⟨RX2, "rowAt", "(I)LTailVectors$Row;"⟩
abbrev cX2_blocksInUse : ByteArray := prog_4_method_18_code
def yX2_blocksInUse : MethodName := ⟨RX2, "blocksInUse", "()I"⟩
abbrev cX2_blocksNotIn : ByteArray := prog_4_method_19_code
def yX2_blocksNotIn : MethodName := ⟨RX2, "blocksNotIn", "(ILTailVectors$Row;)I"⟩
abbrev cX2_isInOne : ByteArray := prog_4_method_20_code
def yX2_isInOne : MethodName := ⟨RX2, "isInOne", "(III)Z"⟩
def RX3 : String := "TailVectors$Text"
def TX3 : u_T := fun k => match k with
  | 0 => ("TailVectors$Text", "characters", "[C", true)
  | _ => ("TailVectors$Text", "length", "I", false)
def tyX3 : Nat → FieldType := fun k => match k with
  | 0 => .array .char
  | _ => .int
abbrev wsX30 : List Cond := u_ws RX3 TX3 2
theorem nmX3 : ∀ a, a < 2 → ∀ b, b < 2 → a ≠ b → (TX3 a).2.1 ≠ (TX3 b).2.1 := by decide +kernel
theorem tyX3_ok : ∀ k, k < 2 → parseFieldDescriptor (TX3 k).2.2.1 = some (tyX3 k) := by decide +kernel
abbrev cX3_init : ByteArray := prog_5_method_1_code
def yX3_init : MethodName := ⟨RX3, "<init>", "()V"⟩
abbrev cX3_add : ByteArray := prog_5_method_2_code
def yX3_add : MethodName := ⟨RX3, "add", "(C)Z"⟩
abbrev cX3_empty : ByteArray := prog_5_method_3_code
def yX3_empty : MethodName := ⟨RX3, "empty", "()V"⟩
abbrev cX3_characterAt : ByteArray := prog_5_method_4_code
def yX3_characterAt : MethodName := ⟨RX3, "characterAt", "(I)C"⟩
abbrev cX3_isDigit : ByteArray := prog_5_method_5_code
def yX3_isDigit : MethodName := ⟨RX3, "isDigit", "(C)Z"⟩
abbrev cX3_fault : ByteArray := prog_5_method_6_code
def yX3_fault : MethodName := ⟨RX3, "fault", "()I"⟩
abbrev cX3_values : ByteArray := prog_5_method_7_code
def yX3_values : MethodName := ⟨RX3, "values", "()[I"⟩
abbrev cX3_commas : ByteArray := prog_5_method_8_code
def yX3_commas : MethodName := ⟨RX3, "commas", "()I"⟩
def RX4 : String := "TailVectors$View"
def TX4 : u_T := fun k => match k with
  | 0 => ("TailVectors$View", "row", "LTailVectors$Row;", true)
  | 1 => ("TailVectors$View", "window", "Z", true)
  | 2 => ("TailVectors$View", "first", "I", true)
  | _ => ("TailVectors$View", "many", "I", true)
def tyX4 : Nat → FieldType := fun k => match k with
  | 0 => .object "TailVectors$Row"
  | 1 => .boolean
  | 2 => .int
  | _ => .int
abbrev wsX40 : List Cond := u_ws RX4 TX4 4
theorem nmX4 : ∀ a, a < 4 → ∀ b, b < 4 → a ≠ b → (TX4 a).2.1 ≠ (TX4 b).2.1 := by decide +kernel
theorem tyX4_ok : ∀ k, k < 4 → parseFieldDescriptor (TX4 k).2.2.1 = some (tyX4 k) := by decide +kernel
abbrev cX4_init : ByteArray := prog_6_method_1_code
def yX4_init : MethodName := ⟨RX4, "<init>", "(LTailVectors$Row;ZII)V"⟩
abbrev cX4_end : ByteArray := prog_6_method_2_code
def yX4_end : MethodName := ⟨RX4, "end", "()I"⟩
abbrev cX4_shows : ByteArray := prog_6_method_3_code
def yX4_shows : MethodName := ⟨RX4, "shows", "(I)Z"⟩
abbrev cX4_valueAt : ByteArray := prog_6_method_4_code
def yX4_valueAt : MethodName := ⟨RX4, "valueAt", "(I)I"⟩
abbrev cX4_sum : ByteArray := prog_6_method_5_code
def yX4_sum : MethodName := ⟨RX4, "sum", "()I"⟩
abbrev cX4_greatest : ByteArray := prog_6_method_6_code
def yX4_greatest : MethodName := ⟨RX4, "greatest", "()I"⟩
abbrev cX4_firstDifference : ByteArray := prog_6_method_7_code
def yX4_firstDifference : MethodName := ⟨RX4, "firstDifference", "(LTailVectors$View;)I"⟩
abbrev cX4_placeOf : ByteArray := prog_6_method_8_code
def yX4_placeOf : MethodName := ⟨RX4, "placeOf", "(II)I"⟩
def RX5 : String := "TailVectors"
def TX5 : u_T := fun k => match k with
  | 0 => ("TailVectors", "now", "LTailVectors$State;", true)
  | 1 => ("TailVectors", "snapshot", "LTailVectors$State;", true)
  | 2 => ("TailVectors", "hasSnapshot", "Z", false)
  | 3 => ("TailVectors", "history", "LTailVectors$History;", true)
  | _ => ("TailVectors", "text", "LTailVectors$Text;", true)
def tyX5 : Nat → FieldType := fun k => match k with
  | 0 => .object "TailVectors$State"
  | 1 => .object "TailVectors$State"
  | 2 => .boolean
  | 3 => .object "TailVectors$History"
  | _ => .object "TailVectors$Text"
abbrev wsX50 : List Cond := u_ws RX5 TX5 5
theorem nmX5 : ∀ a, a < 5 → ∀ b, b < 5 → a ≠ b → (TX5 a).2.1 ≠ (TX5 b).2.1 := by decide +kernel
theorem tyX5_ok : ∀ k, k < 5 → parseFieldDescriptor (TX5 k).2.2.1 = some (tyX5 k) := by decide +kernel
abbrev cX5_init : ByteArray := prog_1_method_1_code
def yX5_init : MethodName := ⟨RX5, "<init>", "()V"⟩
abbrev cX5_push : ByteArray := prog_1_method_2_code
def yX5_push : MethodName := ⟨RX5, "push", "(II)I"⟩
abbrev cX5_set : ByteArray := prog_1_method_3_code
def yX5_set : MethodName := ⟨RX5, "set", "(III)I"⟩
abbrev cX5_pop : ByteArray := prog_1_method_4_code
def yX5_pop : MethodName := ⟨RX5, "pop", "(I)I"⟩
abbrev cX5_window : ByteArray := prog_1_method_5_code
def yX5_window : MethodName := ⟨RX5, "window", "(III)I"⟩
abbrev cX5_drop : ByteArray := prog_1_method_6_code
def yX5_drop : MethodName := ⟨RX5, "drop", "(I)I"⟩
abbrev cX5_begin : ByteArray := prog_1_method_7_code
def yX5_begin : MethodName := ⟨RX5, "begin", "(I)I"⟩
abbrev cX5_editPush : ByteArray := prog_1_method_8_code
def yX5_editPush : MethodName := ⟨RX5, "editPush", "(I)I"⟩
abbrev cX5_editSet : ByteArray := prog_1_method_9_code
def yX5_editSet : MethodName := ⟨RX5, "editSet", "(II)I"⟩
abbrev cX5_editPop : ByteArray := prog_1_method_10_code
def yX5_editPop : MethodName := ⟨RX5, "editPop", "()I"⟩
abbrev cX5_editRead : ByteArray := prog_1_method_11_code
def yX5_editRead : MethodName := ⟨RX5, "editRead", "()I"⟩
abbrev cX5_finish : ByteArray := prog_1_method_12_code
def yX5_finish : MethodName := ⟨RX5, "finish", "()I"⟩
abbrev cX5_abandon : ByteArray := prog_1_method_13_code
def yX5_abandon : MethodName := ⟨RX5, "abandon", "()I"⟩
abbrev cX5_type : ByteArray := prog_1_method_14_code
def yX5_type : MethodName := ⟨RX5, "type", "(C)I"⟩
abbrev cX5_clearText : ByteArray := prog_1_method_15_code
def yX5_clearText : MethodName := ⟨RX5, "clearText", "()I"⟩
abbrev cX5_undo : ByteArray := prog_1_method_16_code
def yX5_undo : MethodName := ⟨RX5, "undo", "()I"⟩
abbrev cX5_keep : ByteArray := prog_1_method_17_code
def yX5_keep : MethodName := ⟨RX5, "keep", "()I"⟩
abbrev cX5_restore : ByteArray := prog_1_method_18_code
def yX5_restore : MethodName := ⟨RX5, "restore", "()I"⟩
abbrev cX5_get : ByteArray := prog_1_method_19_code
def yX5_get : MethodName := ⟨RX5, "get", "(II)I"⟩
abbrev cX5_vector : ByteArray := prog_1_method_20_code
def yX5_vector : MethodName := ⟨RX5, "vector", "(II)I"⟩
abbrev cX5_block : ByteArray := prog_1_method_21_code
def yX5_block : MethodName := ⟨RX5, "block", "(III)I"⟩
abbrev cX5_shared : ByteArray := prog_1_method_22_code
def yX5_shared : MethodName := ⟨RX5, "shared", "(II)I"⟩
abbrev cX5_differ : ByteArray := prog_1_method_23_code
def yX5_differ : MethodName := ⟨RX5, "differ", "(II)I"⟩
abbrev cX5_find : ByteArray := prog_1_method_24_code
def yX5_find : MethodName := ⟨RX5, "find", "(III)I"⟩
abbrev cX5_wouldMake : ByteArray := prog_1_method_25_code
def yX5_wouldMake : MethodName := ⟨RX5, "wouldMake", "(II)I"⟩
abbrev cX5_edit : ByteArray := prog_1_method_26_code
def yX5_edit : MethodName := ⟨RX5, "edit", "(I)I"⟩
abbrev cX5_count : ByteArray := prog_1_method_27_code
def yX5_count : MethodName := ⟨RX5, "count", "(I)I"⟩
abbrev cX5_isValue : ByteArray := prog_1_method_28_code
def yX5_isValue : MethodName := ⟨RX5, "isValue", "(I)Z"⟩
abbrev cX5_rootLevel : ByteArray := prog_1_method_29_code
def yX5_rootLevel : MethodName := ⟨RX5, "rootLevel", "(I)I"⟩
def RX6 : String := "TailVectorsModel"
def TX6 : u_T := fun k => match k with
  | 0 => ("TailVectorsModel", "now", "[I", true)
  | 1 => ("TailVectorsModel", "history", "[I", true)
  | 2 => ("TailVectorsModel", "kept", "I", false)
  | 3 => ("TailVectorsModel", "slot", "[I", true)
  | 4 => ("TailVectorsModel", "isFilled", "Z", false)
  | 5 => ("TailVectorsModel", "typed", "I", false)
  | 6 => ("TailVectorsModel", "text", "[C", true)
  | 7 => ("TailVectorsModel", "at", "I", false)
  | _ => ("TailVectorsModel", "number", "I", false)
def tyX6 : Nat → FieldType := fun k => match k with
  | 0 => .array .int
  | 1 => .array .int
  | 2 => .int
  | 3 => .array .int
  | 4 => .boolean
  | 5 => .int
  | 6 => .array .char
  | 7 => .int
  | _ => .int
abbrev wsX60 : List Cond := u_ws RX6 TX6 9
theorem nmX6 : ∀ a, a < 9 → ∀ b, b < 9 → a ≠ b → (TX6 a).2.1 ≠ (TX6 b).2.1 := by decide +kernel
theorem tyX6_ok : ∀ k, k < 9 → parseFieldDescriptor (TX6 k).2.2.1 = some (tyX6 k) := by decide +kernel
abbrev cX6_init : ByteArray := prog_8_method_1_code
def yX6_init : MethodName := ⟨RX6, "<init>", "()V"⟩
abbrev cX6_in : ByteArray := prog_8_method_2_code
def yX6_in : MethodName := ⟨RX6, "in", "(III)Z"⟩
abbrev cX6_no : ByteArray := prog_8_method_3_code
def yX6_no : MethodName := ⟨RX6, "no", "(I)Z"⟩
abbrev cX6_isWindow : ByteArray := prog_8_method_4_code
def yX6_isWindow : MethodName := ⟨RX6, "isWindow", "(I)Z"⟩
abbrev cX6_first : ByteArray := prog_8_method_5_code
def yX6_first : MethodName := ⟨RX6, "first", "(I)I"⟩
abbrev cX6_rowLength : ByteArray := prog_8_method_6_code
def yX6_rowLength : MethodName := ⟨RX6, "rowLength", "(I)I"⟩
abbrev cX6_length : ByteArray := prog_8_method_7_code
def yX6_length : MethodName := ⟨RX6, "length", "(I)I"⟩
abbrev cX6_value : ByteArray := prog_8_method_8_code
def yX6_value : MethodName := ⟨RX6, "value", "(II)I"⟩
abbrev cX6_record : ByteArray := prog_8_method_9_code
def yX6_record : MethodName := ⟨RX6, "record", "()V"⟩
abbrev cX6_leaves : ByteArray := prog_8_method_10_code
def yX6_leaves : MethodName := ⟨RX6, "leaves", "(I)I"⟩
abbrev cX6_power : ByteArray := prog_8_method_11_code
def yX6_power : MethodName := ⟨RX6, "power", "(I)I"⟩
abbrev cX6_blocks : ByteArray := prog_8_method_12_code
def yX6_blocks : MethodName := ⟨RX6, "blocks", "(II)I"⟩
abbrev cX6_rootLevel : ByteArray := prog_8_method_13_code
def yX6_rootLevel : MethodName := ⟨RX6, "rootLevel", "(I)I"⟩
abbrev cX6_allBlocks : ByteArray := prog_8_method_14_code
def yX6_allBlocks : MethodName := ⟨RX6, "allBlocks", "(I)I"⟩
abbrev cX6_begins : ByteArray := prog_8_method_15_code
def yX6_begins : MethodName := ⟨RX6, "begins", "(I)I"⟩
abbrev cX6_id : ByteArray := prog_8_method_16_code
def yX6_id : MethodName := ⟨RX6, "id", "(III)I"⟩
abbrev cX6_makes : ByteArray := prog_8_method_17_code
def yX6_makes : MethodName := ⟨RX6, "makes", "(IIIZ)V"⟩
abbrev cX6_pushes : ByteArray := prog_8_method_18_code
def yX6_pushes : MethodName := ⟨RX6, "pushes", "(II)V"⟩
abbrev cX6_sets : ByteArray := prog_8_method_19_code
def yX6_sets : MethodName := ⟨RX6, "sets", "(III)V"⟩
abbrev cX6_pops : ByteArray := prog_8_method_20_code
def yX6_pops : MethodName := ⟨RX6, "pops", "(I)V"⟩
abbrev cX6_isFull : ByteArray := prog_8_method_21_code
def yX6_isFull : MethodName := ⟨RX6, "isFull", "()Z"⟩
abbrev cX6_copies : ByteArray := prog_8_method_22_code
def yX6_copies : MethodName := ⟨RX6, "copies", "(II)V"⟩
abbrev cX6_comes : ByteArray := prog_8_method_23_code
def yX6_comes : MethodName := ⟨RX6, "comes", "(IZII)I"⟩
abbrev cX6_push : ByteArray := prog_8_method_24_code
def yX6_push : MethodName := ⟨RX6, "push", "(II)I"⟩
abbrev cX6_set : ByteArray := prog_8_method_25_code
def yX6_set : MethodName := ⟨RX6, "set", "(III)I"⟩
abbrev cX6_pop : ByteArray := prog_8_method_26_code
def yX6_pop : MethodName := ⟨RX6, "pop", "(I)I"⟩
abbrev cX6_window : ByteArray := prog_8_method_27_code
def yX6_window : MethodName := ⟨RX6, "window", "(III)I"⟩
abbrev cX6_there : ByteArray := prog_8_method_28_code
def yX6_there : MethodName := ⟨RX6, "there", "()I"⟩
abbrev cX6_drop : ByteArray := prog_8_method_29_code
def yX6_drop : MethodName := ⟨RX6, "drop", "(I)I"⟩
abbrev cX6_noEdit : ByteArray := prog_8_method_30_code
def yX6_noEdit : MethodName := ⟨RX6, "noEdit", "()Z"⟩
abbrev cX6_begin : ByteArray := prog_8_method_31_code
def yX6_begin : MethodName := ⟨RX6, "begin", "(I)I"⟩
abbrev cX6_editPush : ByteArray := prog_8_method_32_code
def yX6_editPush : MethodName := ⟨RX6, "editPush", "(I)I"⟩
abbrev cX6_editSet : ByteArray := prog_8_method_33_code
def yX6_editSet : MethodName := ⟨RX6, "editSet", "(II)I"⟩
abbrev cX6_editPop : ByteArray := prog_8_method_34_code
def yX6_editPop : MethodName := ⟨RX6, "editPop", "()I"⟩
abbrev cX6_finish : ByteArray := prog_8_method_35_code
def yX6_finish : MethodName := ⟨RX6, "finish", "()I"⟩
abbrev cX6_abandon : ByteArray := prog_8_method_36_code
def yX6_abandon : MethodName := ⟨RX6, "abandon", "()I"⟩
abbrev cX6_type : ByteArray := prog_8_method_37_code
def yX6_type : MethodName := ⟨RX6, "type", "(C)I"⟩
abbrev cX6_clearText : ByteArray := prog_8_method_38_code
def yX6_clearText : MethodName := ⟨RX6, "clearText", "()I"⟩
abbrev cX6_isDigit : ByteArray := prog_8_method_39_code
def yX6_isDigit : MethodName := ⟨RX6, "isDigit", "()Z"⟩
abbrev cX6_takesNumber : ByteArray := prog_8_method_40_code
def yX6_takesNumber : MethodName := ⟨RX6, "takesNumber", "()Z"⟩
abbrev cX6_valuesOfText : ByteArray := prog_8_method_41_code
def yX6_valuesOfText : MethodName := ⟨RX6, "valuesOfText", "()I"⟩
abbrev cX6_editRead : ByteArray := prog_8_method_42_code
def yX6_editRead : MethodName := ⟨RX6, "editRead", "()I"⟩
abbrev cX6_undo : ByteArray := prog_8_method_43_code
def yX6_undo : MethodName := ⟨RX6, "undo", "()I"⟩
abbrev cX6_keep : ByteArray := prog_8_method_44_code
def yX6_keep : MethodName := ⟨RX6, "keep", "()I"⟩
abbrev cX6_restore : ByteArray := prog_8_method_45_code
def yX6_restore : MethodName := ⟨RX6, "restore", "()I"⟩
abbrev cX6_get : ByteArray := prog_8_method_46_code
def yX6_get : MethodName := ⟨RX6, "get", "(II)I"⟩
abbrev cX6_sum : ByteArray := prog_8_method_47_code
def yX6_sum : MethodName := ⟨RX6, "sum", "(I)I"⟩
abbrev cX6_greatest : ByteArray := prog_8_method_48_code
def yX6_greatest : MethodName := ⟨RX6, "greatest", "(I)I"⟩
abbrev cX6_vector : ByteArray := prog_8_method_49_code
def yX6_vector : MethodName := ⟨RX6, "vector", "(II)I"⟩
abbrev cX6_block : ByteArray := prog_8_method_50_code
def yX6_block : MethodName := ⟨RX6, "block", "(III)I"⟩
abbrev cX6_has : ByteArray := prog_8_method_51_code
def yX6_has : MethodName := ⟨RX6, "has", "(II)Z"⟩
abbrev cX6_sharedOf : ByteArray := prog_8_method_52_code
def yX6_sharedOf : MethodName := ⟨RX6, "sharedOf", "(II)I"⟩
abbrev cX6_isOfVector : ByteArray := prog_8_method_53_code
def yX6_isOfVector : MethodName := ⟨RX6, "isOfVector", "(I)Z"⟩
abbrev cX6_shared : ByteArray := prog_8_method_54_code
def yX6_shared : MethodName := ⟨RX6, "shared", "(II)I"⟩
abbrev cX6_differ : ByteArray := prog_8_method_55_code
def yX6_differ : MethodName := ⟨RX6, "differ", "(II)I"⟩
abbrev cX6_find : ByteArray := prog_8_method_56_code
def yX6_find : MethodName := ⟨RX6, "find", "(III)I"⟩
abbrev cX6_wouldMake : ByteArray := prog_8_method_57_code
def yX6_wouldMake : MethodName := ⟨RX6, "wouldMake", "(II)I"⟩
abbrev cX6_own : ByteArray := prog_8_method_58_code
def yX6_own : MethodName := ⟨RX6, "own", "()I"⟩
abbrev cX6_edit : ByteArray := prog_8_method_59_code
def yX6_edit : MethodName := ⟨RX6, "edit", "(I)I"⟩
abbrev cX6_used : ByteArray := prog_8_method_60_code
def yX6_used : MethodName := ⟨RX6, "used", "()I"⟩
abbrev cX6_lengths : ByteArray := prog_8_method_61_code
def yX6_lengths : MethodName := ⟨RX6, "lengths", "()I"⟩
abbrev cX6_count : ByteArray := prog_8_method_62_code
def yX6_count : MethodName := ⟨RX6, "count", "(I)I"⟩
def RJ9 : String := "java/lang/Math"
def TJ9 : u_T := fun k => match k with
  | _ => ("", "", "", false)
def tyJ9 : Nat → FieldType := fun k => match k with
  | _ => .int
abbrev wsJ90 : List Cond := u_ws RJ9 TJ9 0
theorem nmJ9 : ∀ a, a < 0 → ∀ b, b < 0 → a ≠ b → (TJ9 a).2.1 ≠ (TJ9 b).2.1 := by decide +kernel
theorem tyJ9_ok : ∀ k, k < 0 → parseFieldDescriptor (TJ9 k).2.2.1 = some (tyJ9 k) := by decide +kernel
abbrev cJ9_max_7cf53 : ByteArray := prog_9_method_65_code
def yJ9_max_7cf53 : MethodName := ⟨RJ9, "max", "(II)I"⟩
abbrev cJ9_min_7cf53 : ByteArray := prog_9_method_69_code
def yJ9_min_7cf53 : MethodName := ⟨RJ9, "min", "(II)I"⟩
def RJ7 : String := "java/util/Arrays"
def TJ7 : u_T := fun k => match k with
  | _ => ("", "", "", false)
def tyJ7 : Nat → FieldType := fun k => match k with
  | _ => .int
abbrev wsJ70 : List Cond := u_ws RJ7 TJ7 0
theorem nmJ7 : ∀ a, a < 0 → ∀ b, b < 0 → a ≠ b → (TJ7 a).2.1 ≠ (TJ7 b).2.1 := by decide +kernel
theorem tyJ7_ok : ∀ k, k < 0 → parseFieldDescriptor (TJ7 k).2.2.1 = some (tyJ7 k) := by decide +kernel
abbrev cJ7_fill_53178 : ByteArray := prog_10_method_103_code
def yJ7_fill_53178 : MethodName := ⟨RJ7, "fill", "([II)V"⟩
def RL : String := "TailVectorsLaw"
abbrev cL_law : ByteArray := code
def yL_law : MethodName := ⟨RL, "law", "([I)Z"⟩
def wsX2_init : List Cond := .code yX2_init cX2_init 1 none :: ([.methodLink RX2 3 objectInit, .instanceMethod objectInit, .code objectInit ⟨#[0xb1]⟩ 1 none, .classLink RX2 9 RX4, .fieldLink RX2 11 "TailVectors$State" "views" "[LTailVectors$View;", .fieldLink RX2 17 "TailVectors$State" "ever" "I", .fieldLink RX2 21 "TailVectors$State" "made" "I", .fieldLink RX2 24 "TailVectors$State" "editRow" "LTailVectors$Row;", .constant RX2 28 (2147483647), .fieldLink RX2 29 "TailVectors$State" "firstOwn" "I"] ++ wsX20)
def wsX0_init : List Cond := .code yX0_init cX0_init 2 none :: ([.methodLink RX0 3 objectInit, .instanceMethod objectInit, .code objectInit ⟨#[0xb1]⟩ 1 none, .classLink RX0 9 RX2, .fieldLink RX0 11 "TailVectors$History" "states" "[LTailVectors$State;", .instantiable RX2 5, .initialized RX2, .fieldLink RX0 18 "TailVectors$History" "many" "I", .methodLink RX0 17 yX2_init, .instanceMethod yX2_init, .code yX2_init cX2_init 1 none, .methodLink RX2 3 objectInit, .classLink RX2 9 RX4, .fieldLink RX2 11 "TailVectors$State" "views" "[LTailVectors$View;", .fieldLink RX2 17 "TailVectors$State" "ever" "I", .fieldLink RX2 21 "TailVectors$State" "made" "I", .fieldLink RX2 24 "TailVectors$State" "editRow" "LTailVectors$Row;", .constant RX2 28 (2147483647), .fieldLink RX2 29 "TailVectors$State" "firstOwn" "I"] ++ wsX00 ++ wsX20)
def wsX0_forgetOldest : List Cond := .code yX0_forgetOldest cX0_forgetOldest 3 none :: ([.fieldLink RX0 11 "TailVectors$History" "states" "[LTailVectors$State;", .fieldLink RX0 18 "TailVectors$History" "many" "I"] ++ wsX00)
def wsX0_stateAt : List Cond := .code yX0_stateAt cX0_stateAt 2 (some (.object "TailVectors$State")) :: ([.fieldLink RX0 11 "TailVectors$History" "states" "[LTailVectors$State;"] ++ wsX00)
def wsX2_copyFrom : List Cond := .code yX2_copyFrom cX2_copyFrom 3 none :: ([.fieldLink RX2 11 "TailVectors$State" "views" "[LTailVectors$View;", .fieldLink RX2 17 "TailVectors$State" "ever" "I", .fieldLink RX2 21 "TailVectors$State" "made" "I", .fieldLink RX2 24 "TailVectors$State" "editRow" "LTailVectors$Row;", .fieldLink RX2 29 "TailVectors$State" "firstOwn" "I"] ++ wsX20)
def wsX0_remember : List Cond := .code yX0_remember cX0_remember 3 none :: ([.fieldLink RX0 18 "TailVectors$History" "many" "I", .methodLink RX0 22 yX0_forgetOldest, .instanceMethod yX0_forgetOldest, .selects RX0 yX0_forgetOldest yX0_forgetOldest, .initialized RX0, .code yX0_forgetOldest cX0_forgetOldest 3 none, .fieldLink RX0 11 "TailVectors$History" "states" "[LTailVectors$State;", .methodLink RX0 25 yX0_stateAt, .instanceMethod yX0_stateAt, .selects RX0 yX0_stateAt yX0_stateAt, .code yX0_stateAt cX0_stateAt 2 (some (.object "TailVectors$State")), .methodLink RX0 29 yX2_copyFrom, .instanceMethod yX2_copyFrom, .selects RX2 yX2_copyFrom yX2_copyFrom, .initialized RX2, .code yX2_copyFrom cX2_copyFrom 3 none, .fieldLink RX2 11 "TailVectors$State" "views" "[LTailVectors$View;", .fieldLink RX2 17 "TailVectors$State" "ever" "I", .fieldLink RX2 21 "TailVectors$State" "made" "I", .fieldLink RX2 24 "TailVectors$State" "editRow" "LTailVectors$Row;", .fieldLink RX2 29 "TailVectors$State" "firstOwn" "I"] ++ wsX00 ++ wsX20)
def wsX0_takeBack : List Cond := .code yX0_takeBack cX0_takeBack 3 none :: ([.fieldLink RX0 18 "TailVectors$History" "many" "I", .methodLink RX0 25 yX0_stateAt, .instanceMethod yX0_stateAt, .selects RX0 yX0_stateAt yX0_stateAt, .initialized RX0, .code yX0_stateAt cX0_stateAt 2 (some (.object "TailVectors$State")), .fieldLink RX0 11 "TailVectors$History" "states" "[LTailVectors$State;", .methodLink RX0 29 yX2_copyFrom, .instanceMethod yX2_copyFrom, .selects RX2 yX2_copyFrom yX2_copyFrom, .initialized RX2, .code yX2_copyFrom cX2_copyFrom 3 none, .fieldLink RX2 11 "TailVectors$State" "views" "[LTailVectors$View;", .fieldLink RX2 17 "TailVectors$State" "ever" "I", .fieldLink RX2 21 "TailVectors$State" "made" "I", .fieldLink RX2 24 "TailVectors$State" "editRow" "LTailVectors$Row;", .fieldLink RX2 29 "TailVectors$State" "firstOwn" "I"] ++ wsX00 ++ wsX20)
def wsJ7_fill_53178 : List Cond := .code yJ7_fill_53178 cJ7_fill_53178 4 none :: ([])
def wsX1_init : List Cond := .code yX1_init cX1_init 2 none :: ([.methodLink RX1 3 objectInit, .instanceMethod objectInit, .code objectInit ⟨#[0xb1]⟩ 1 none, .methodLink RX1 9 Lib.Math.min.name, .static Lib.Math.min.name, .initialized "java/lang/Math", .code Lib.Math.min.name Lib.Math.min.code 2 (some .int), .methodLink RX1 15 Lib.Math.max.name, .static Lib.Math.max.name, .code Lib.Math.max.name Lib.Math.max.code 2 (some .int), .arrayClass .int, .fieldLink RX1 18 "TailVectors$Row" "values" "[I", .fieldLink RX1 24 "TailVectors$Row" "numbers" "[I", .fieldLink RX1 33 "TailVectors$Row" "length" "I", .methodLink RX1 27 yJ7_fill_53178, .static yJ7_fill_53178, .initialized RJ7, .code yJ7_fill_53178 cJ7_fill_53178 4 none] ++ wsX10)
def wsX1_copy : List Cond := .code yX1_copy cX1_copy 5 (some (.object "TailVectors$Row")) :: ([.classLink RX1 19 RX1, .instantiable RX1 3, .initialized RX1, .fieldLink RX1 33 "TailVectors$Row" "length" "I", .fieldLink RX1 18 "TailVectors$Row" "values" "[I", .methodLink RX1 9 Lib.Math.min.name, .static Lib.Math.min.name, .initialized "java/lang/Math", .code Lib.Math.min.name Lib.Math.min.code 2 (some .int), .fieldLink RX1 24 "TailVectors$Row" "numbers" "[I", .methodLink RX1 37 yX1_init, .instanceMethod yX1_init, .code yX1_init cX1_init 2 none, .methodLink RX1 3 objectInit, .instanceMethod objectInit, .code objectInit ⟨#[0xb1]⟩ 1 none, .methodLink RX1 15 Lib.Math.max.name, .static Lib.Math.max.name, .code Lib.Math.max.name Lib.Math.max.code 2 (some .int), .arrayClass .int, .methodLink RX1 27 yJ7_fill_53178, .static yJ7_fill_53178, .initialized RJ7, .code yJ7_fill_53178 cJ7_fill_53178 4 none] ++ wsX10)
def wsX1_leaves : List Cond := .code yX1_leaves cX1_leaves 1 (some .int) :: ([.fieldLink RX1 33 "TailVectors$Row" "length" "I"] ++ wsX10)
def wsX1_tail : List Cond := .code yX1_tail cX1_tail 1 (some .int) :: ([.fieldLink RX1 33 "TailVectors$Row" "length" "I", .methodLink RX1 40 yX1_leaves, .instanceMethod yX1_leaves, .selects RX1 yX1_leaves yX1_leaves, .initialized RX1, .code yX1_leaves cX1_leaves 1 (some .int)] ++ wsX10)
def wsX1_slotOf : List Cond := .code yX1_slotOf cX1_slotOf 3 (some .int) :: ([])
def wsX1_numberAt : List Cond := .code yX1_numberAt cX1_numberAt 4 (some .int) :: ([.fieldLink RX1 24 "TailVectors$Row" "numbers" "[I", .methodLink RX1 47 yX1_slotOf, .static yX1_slotOf, .initialized RX1, .code yX1_slotOf cX1_slotOf 3 (some .int)] ++ wsX10)
def wsX5_rootLevel : List Cond := .code yX5_rootLevel cX5_rootLevel 2 (some .int) :: ([])
def wsX1_makeBlock : List Cond := .code yX1_makeBlock cX1_makeBlock 4 (some .int) :: ([.fieldLink RX1 24 "TailVectors$Row" "numbers" "[I"] ++ wsX10)
def wsX1_makePath : List Cond := .code yX1_makePath cX1_makePath 7 (some .int) :: ([.methodLink RX1 47 yX1_slotOf, .static yX1_slotOf, .initialized RX1, .code yX1_slotOf cX1_slotOf 3 (some .int), .methodLink RX1 64 yX1_makeBlock, .instanceMethod yX1_makeBlock, .selects RX1 yX1_makeBlock yX1_makeBlock, .code yX1_makeBlock cX1_makeBlock 4 (some .int), .fieldLink RX1 24 "TailVectors$Row" "numbers" "[I"] ++ wsX10)
def wsX1_hangTail : List Cond := .code yX1_hangTail cX1_hangTail 4 (some .int) :: ([.methodLink RX1 40 yX1_leaves, .instanceMethod yX1_leaves, .selects RX1 yX1_leaves yX1_leaves, .initialized RX1, .code yX1_leaves cX1_leaves 1 (some .int), .fieldLink RX1 33 "TailVectors$Row" "length" "I", .static yX5_rootLevel, .initialized RX5, .code yX5_rootLevel cX5_rootLevel 2 (some .int), .methodLink RX1 60 yX1_makePath, .instanceMethod yX1_makePath, .selects RX1 yX1_makePath yX1_makePath, .code yX1_makePath cX1_makePath 7 (some .int), .methodLink RX1 47 yX1_slotOf, .static yX1_slotOf, .code yX1_slotOf cX1_slotOf 3 (some .int), .methodLink RX1 64 yX1_makeBlock, .instanceMethod yX1_makeBlock, .selects RX1 yX1_makeBlock yX1_makeBlock, .code yX1_makeBlock cX1_makeBlock 4 (some .int), .fieldLink RX1 24 "TailVectors$Row" "numbers" "[I"] ++ wsX10)
def wsX1_write_r1 : List Cond := [Cond.fieldLink RX1 33 "TailVectors$Row" "length" "I", Cond.fieldLink RX1 18 "TailVectors$Row" "values" "[I", Cond.methodLink RX1 50 yX1_tail, Cond.instanceMethod yX1_tail, Cond.selects RX1 yX1_tail yX1_tail, Cond.initialized RX1, Cond.code yX1_tail cX1_tail 1 (some .int), Cond.methodLink RX1 40 yX1_leaves, Cond.instanceMethod yX1_leaves, Cond.selects RX1 yX1_leaves yX1_leaves, Cond.code yX1_leaves cX1_leaves 1 (some .int), Cond.methodLink RX1 53 yX1_hangTail, Cond.instanceMethod yX1_hangTail, Cond.selects RX1 yX1_hangTail yX1_hangTail, Cond.code yX1_hangTail cX1_hangTail 4 (some .int), Cond.static yX5_rootLevel, Cond.initialized RX5, Cond.code yX5_rootLevel cX5_rootLevel 2 (some .int), Cond.methodLink RX1 60 yX1_makePath, Cond.instanceMethod yX1_makePath, Cond.selects RX1 yX1_makePath yX1_makePath, Cond.code yX1_makePath cX1_makePath 7 (some .int), Cond.methodLink RX1 47 yX1_slotOf, Cond.static yX1_slotOf]
def wsX1_write_r2 : List Cond := [Cond.code yX1_slotOf cX1_slotOf 3 (some .int), Cond.methodLink RX1 64 yX1_makeBlock, Cond.instanceMethod yX1_makeBlock, Cond.selects RX1 yX1_makeBlock yX1_makeBlock, Cond.code yX1_makeBlock cX1_makeBlock 4 (some .int), Cond.fieldLink RX1 24 "TailVectors$Row" "numbers" "[I"]
def wsX1_write : List Cond := .code yX1_write cX1_write 6 (some .int) :: ((wsX1_write_r1 ++ wsX1_write_r2) ++ wsX10)
def wsX1_isFirstLeafOfBlock : List Cond := .code yX1_isFirstLeafOfBlock cX1_isFirstLeafOfBlock 2 (some .boolean) :: ([])
def wsX1_removeBlock : List Cond := .code yX1_removeBlock cX1_removeBlock 2 none :: ([.fieldLink RX1 24 "TailVectors$Row" "numbers" "[I"] ++ wsX10)
def wsX1_takeLastLeaf : List Cond := .code yX1_takeLastLeaf cX1_takeLastLeaf 9 (some .int) :: ([.methodLink RX1 40 yX1_leaves, .instanceMethod yX1_leaves, .selects RX1 yX1_leaves yX1_leaves, .initialized RX1, .code yX1_leaves cX1_leaves 1 (some .int), .fieldLink RX1 33 "TailVectors$Row" "length" "I", .static yX5_rootLevel, .initialized RX5, .code yX5_rootLevel cX5_rootLevel 2 (some .int), .methodLink RX1 47 yX1_slotOf, .static yX1_slotOf, .code yX1_slotOf cX1_slotOf 3 (some .int), .methodLink RX1 71 yX1_isFirstLeafOfBlock, .static yX1_isFirstLeafOfBlock, .code yX1_isFirstLeafOfBlock cX1_isFirstLeafOfBlock 2 (some .boolean), .methodLink RX1 75 yX1_removeBlock, .instanceMethod yX1_removeBlock, .selects RX1 yX1_removeBlock yX1_removeBlock, .code yX1_removeBlock cX1_removeBlock 2 none, .fieldLink RX1 24 "TailVectors$Row" "numbers" "[I", .methodLink RX1 64 yX1_makeBlock, .instanceMethod yX1_makeBlock, .selects RX1 yX1_makeBlock yX1_makeBlock, .code yX1_makeBlock cX1_makeBlock 4 (some .int)] ++ wsX10)
def wsX1_removeLast_r1 : List Cond := [Cond.fieldLink RX1 33 "TailVectors$Row" "length" "I", Cond.methodLink RX1 50 yX1_tail, Cond.instanceMethod yX1_tail, Cond.selects RX1 yX1_tail yX1_tail, Cond.initialized RX1, Cond.code yX1_tail cX1_tail 1 (some .int), Cond.methodLink RX1 40 yX1_leaves, Cond.instanceMethod yX1_leaves, Cond.selects RX1 yX1_leaves yX1_leaves, Cond.code yX1_leaves cX1_leaves 1 (some .int), Cond.methodLink RX1 68 yX1_takeLastLeaf, Cond.instanceMethod yX1_takeLastLeaf, Cond.selects RX1 yX1_takeLastLeaf yX1_takeLastLeaf, Cond.code yX1_takeLastLeaf cX1_takeLastLeaf 9 (some .int), Cond.static yX5_rootLevel, Cond.initialized RX5, Cond.code yX5_rootLevel cX5_rootLevel 2 (some .int), Cond.methodLink RX1 47 yX1_slotOf, Cond.static yX1_slotOf, Cond.code yX1_slotOf cX1_slotOf 3 (some .int), Cond.methodLink RX1 71 yX1_isFirstLeafOfBlock, Cond.static yX1_isFirstLeafOfBlock, Cond.code yX1_isFirstLeafOfBlock cX1_isFirstLeafOfBlock 2 (some .boolean), Cond.methodLink RX1 75 yX1_removeBlock]
def wsX1_removeLast_r2 : List Cond := [Cond.instanceMethod yX1_removeBlock, Cond.selects RX1 yX1_removeBlock yX1_removeBlock, Cond.code yX1_removeBlock cX1_removeBlock 2 none, Cond.fieldLink RX1 24 "TailVectors$Row" "numbers" "[I", Cond.methodLink RX1 64 yX1_makeBlock, Cond.instanceMethod yX1_makeBlock, Cond.selects RX1 yX1_makeBlock yX1_makeBlock, Cond.code yX1_makeBlock cX1_makeBlock 4 (some .int)]
def wsX1_removeLast : List Cond := .code yX1_removeLast cX1_removeLast 4 (some .int) :: ((wsX1_removeLast_r1 ++ wsX1_removeLast_r2) ++ wsX10)
def wsX1_blocksFrom : List Cond := .code yX1_blocksFrom cX1_blocksFrom 4 (some .int) :: ([.fieldLink RX1 24 "TailVectors$Row" "numbers" "[I"] ++ wsX10)
def wsX1_blocks : List Cond := .code yX1_blocks cX1_blocks 1 (some .int) :: ([.methodLink RX1 78 yX1_blocksFrom, .instanceMethod yX1_blocksFrom, .selects RX1 yX1_blocksFrom yX1_blocksFrom, .initialized RX1, .code yX1_blocksFrom cX1_blocksFrom 4 (some .int), .fieldLink RX1 24 "TailVectors$Row" "numbers" "[I"] ++ wsX10)
def wsX1_has : List Cond := .code yX1_has cX1_has 3 (some .boolean) :: ([.fieldLink RX1 24 "TailVectors$Row" "numbers" "[I"] ++ wsX10)
def wsX1_sharedWith : List Cond := .code yX1_sharedWith cX1_sharedWith 4 (some .int) :: ([.fieldLink RX1 24 "TailVectors$Row" "numbers" "[I", .methodLink RX1 81 yX1_has, .instanceMethod yX1_has, .selects RX1 yX1_has yX1_has, .initialized RX1, .code yX1_has cX1_has 3 (some .boolean)] ++ wsX10)
def wsX2_isFull : List Cond := .code yX2_isFull cX2_isFull 1 (some .boolean) :: ([.fieldLink RX2 17 "TailVectors$State" "ever" "I"] ++ wsX20)
def wsX2_viewOf : List Cond := .code yX2_viewOf cX2_viewOf 2 (some (.object "TailVectors$View")) :: ([.fieldLink RX2 11 "TailVectors$State" "views" "[LTailVectors$View;"] ++ wsX20)
def wsX2_addView : List Cond := .code yX2_addView cX2_addView 2 (some .int) :: ([.fieldLink RX2 17 "TailVectors$State" "ever" "I", .fieldLink RX2 11 "TailVectors$State" "views" "[LTailVectors$View;"] ++ wsX20)
def wsX2_removeView : List Cond := .code yX2_removeView cX2_removeView 2 none :: ([.fieldLink RX2 11 "TailVectors$State" "views" "[LTailVectors$View;"] ++ wsX20)
def wsX2_viewsLeft : List Cond := .code yX2_viewsLeft cX2_viewsLeft 3 (some .int) :: ([.fieldLink RX2 11 "TailVectors$State" "views" "[LTailVectors$View;"] ++ wsX20)
def wsX2_valuesShown : List Cond := .code yX2_valuesShown cX2_valuesShown 4 (some .int) :: ([.fieldLink RX2 11 "TailVectors$State" "views" "[LTailVectors$View;", .fieldLink RX2 32 "TailVectors$View" "many" "I"] ++ wsX20 ++ wsX40)
def wsX2_rowWith_r1 : List Cond := [Cond.fieldLink RX2 21 "TailVectors$State" "made" "I", Cond.constant RX2 28 (2147483647), Cond.methodLink RX2 35 yX1_copy, Cond.instanceMethod yX1_copy, Cond.selects RX1 yX1_copy yX1_copy, Cond.initialized RX1, Cond.code yX1_copy cX1_copy 5 (some (.object "TailVectors$Row")), Cond.classLink RX1 19 RX1, Cond.instantiable RX1 3, Cond.fieldLink RX1 33 "TailVectors$Row" "length" "I", Cond.fieldLink RX1 18 "TailVectors$Row" "values" "[I", Cond.methodLink RX1 9 Lib.Math.min.name, Cond.static Lib.Math.min.name, Cond.initialized "java/lang/Math", Cond.code Lib.Math.min.name Lib.Math.min.code 2 (some .int), Cond.fieldLink RX1 24 "TailVectors$Row" "numbers" "[I", Cond.methodLink RX1 37 yX1_init, Cond.instanceMethod yX1_init, Cond.code yX1_init cX1_init 2 none, Cond.methodLink RX1 3 objectInit, Cond.instanceMethod objectInit, Cond.code objectInit ⟨#[0xb1]⟩ 1 none, Cond.methodLink RX1 15 Lib.Math.max.name, Cond.static Lib.Math.max.name]
def wsX2_rowWith_r2 : List Cond := [Cond.code Lib.Math.max.name Lib.Math.max.code 2 (some .int), Cond.arrayClass .int, Cond.methodLink RX1 27 yJ7_fill_53178, Cond.static yJ7_fill_53178, Cond.initialized RJ7, Cond.code yJ7_fill_53178 cJ7_fill_53178 4 none, Cond.methodLink RX2 41 yX1_write, Cond.instanceMethod yX1_write, Cond.selects RX1 yX1_write yX1_write, Cond.code yX1_write cX1_write 6 (some .int), Cond.methodLink RX1 50 yX1_tail, Cond.instanceMethod yX1_tail, Cond.selects RX1 yX1_tail yX1_tail, Cond.code yX1_tail cX1_tail 1 (some .int), Cond.methodLink RX1 40 yX1_leaves, Cond.instanceMethod yX1_leaves, Cond.selects RX1 yX1_leaves yX1_leaves, Cond.code yX1_leaves cX1_leaves 1 (some .int), Cond.methodLink RX1 53 yX1_hangTail, Cond.instanceMethod yX1_hangTail, Cond.selects RX1 yX1_hangTail yX1_hangTail, Cond.code yX1_hangTail cX1_hangTail 4 (some .int), Cond.static yX5_rootLevel, Cond.initialized RX5]
def wsX2_rowWith_r3 : List Cond := [Cond.code yX5_rootLevel cX5_rootLevel 2 (some .int), Cond.methodLink RX1 60 yX1_makePath, Cond.instanceMethod yX1_makePath, Cond.selects RX1 yX1_makePath yX1_makePath, Cond.code yX1_makePath cX1_makePath 7 (some .int), Cond.methodLink RX1 47 yX1_slotOf, Cond.static yX1_slotOf, Cond.code yX1_slotOf cX1_slotOf 3 (some .int), Cond.methodLink RX1 64 yX1_makeBlock, Cond.instanceMethod yX1_makeBlock, Cond.selects RX1 yX1_makeBlock yX1_makeBlock, Cond.code yX1_makeBlock cX1_makeBlock 4 (some .int)]
def wsX2_rowWith : List Cond := .code yX2_rowWith cX2_rowWith 5 (some (.object "TailVectors$Row")) :: ((wsX2_rowWith_r1 ++ (wsX2_rowWith_r2 ++ wsX2_rowWith_r3)) ++ wsX20 ++ wsX10)
def wsX2_rowWithoutLast_r1 : List Cond := [Cond.fieldLink RX2 21 "TailVectors$State" "made" "I", Cond.constant RX2 28 (2147483647), Cond.methodLink RX2 35 yX1_copy, Cond.instanceMethod yX1_copy, Cond.selects RX1 yX1_copy yX1_copy, Cond.initialized RX1, Cond.code yX1_copy cX1_copy 5 (some (.object "TailVectors$Row")), Cond.classLink RX1 19 RX1, Cond.instantiable RX1 3, Cond.fieldLink RX1 33 "TailVectors$Row" "length" "I", Cond.fieldLink RX1 18 "TailVectors$Row" "values" "[I", Cond.methodLink RX1 9 Lib.Math.min.name, Cond.static Lib.Math.min.name, Cond.initialized "java/lang/Math", Cond.code Lib.Math.min.name Lib.Math.min.code 2 (some .int), Cond.fieldLink RX1 24 "TailVectors$Row" "numbers" "[I", Cond.methodLink RX1 37 yX1_init, Cond.instanceMethod yX1_init, Cond.code yX1_init cX1_init 2 none, Cond.methodLink RX1 3 objectInit, Cond.instanceMethod objectInit, Cond.code objectInit ⟨#[0xb1]⟩ 1 none, Cond.methodLink RX1 15 Lib.Math.max.name, Cond.static Lib.Math.max.name]
def wsX2_rowWithoutLast_r2 : List Cond := [Cond.code Lib.Math.max.name Lib.Math.max.code 2 (some .int), Cond.arrayClass .int, Cond.methodLink RX1 27 yJ7_fill_53178, Cond.static yJ7_fill_53178, Cond.initialized RJ7, Cond.code yJ7_fill_53178 cJ7_fill_53178 4 none, Cond.methodLink RX2 45 yX1_removeLast, Cond.instanceMethod yX1_removeLast, Cond.selects RX1 yX1_removeLast yX1_removeLast, Cond.code yX1_removeLast cX1_removeLast 4 (some .int), Cond.methodLink RX1 50 yX1_tail, Cond.instanceMethod yX1_tail, Cond.selects RX1 yX1_tail yX1_tail, Cond.code yX1_tail cX1_tail 1 (some .int), Cond.methodLink RX1 40 yX1_leaves, Cond.instanceMethod yX1_leaves, Cond.selects RX1 yX1_leaves yX1_leaves, Cond.code yX1_leaves cX1_leaves 1 (some .int), Cond.methodLink RX1 68 yX1_takeLastLeaf, Cond.instanceMethod yX1_takeLastLeaf, Cond.selects RX1 yX1_takeLastLeaf yX1_takeLastLeaf, Cond.code yX1_takeLastLeaf cX1_takeLastLeaf 9 (some .int), Cond.static yX5_rootLevel, Cond.initialized RX5]
def wsX2_rowWithoutLast_r3 : List Cond := [Cond.code yX5_rootLevel cX5_rootLevel 2 (some .int), Cond.methodLink RX1 47 yX1_slotOf, Cond.static yX1_slotOf, Cond.code yX1_slotOf cX1_slotOf 3 (some .int), Cond.methodLink RX1 71 yX1_isFirstLeafOfBlock, Cond.static yX1_isFirstLeafOfBlock, Cond.code yX1_isFirstLeafOfBlock cX1_isFirstLeafOfBlock 2 (some .boolean), Cond.methodLink RX1 75 yX1_removeBlock, Cond.instanceMethod yX1_removeBlock, Cond.selects RX1 yX1_removeBlock yX1_removeBlock, Cond.code yX1_removeBlock cX1_removeBlock 2 none, Cond.methodLink RX1 64 yX1_makeBlock, Cond.instanceMethod yX1_makeBlock, Cond.selects RX1 yX1_makeBlock yX1_makeBlock, Cond.code yX1_makeBlock cX1_makeBlock 4 (some .int)]
def wsX2_rowWithoutLast : List Cond := .code yX2_rowWithoutLast cX2_rowWithoutLast 3 (some (.object "TailVectors$Row")) :: ((wsX2_rowWithoutLast_r1 ++ (wsX2_rowWithoutLast_r2 ++ wsX2_rowWithoutLast_r3)) ++ wsX20 ++ wsX10)
def wsX2_beginEdit : List Cond := .code yX2_beginEdit cX2_beginEdit 2 none :: ([.fieldLink RX2 24 "TailVectors$State" "editRow" "LTailVectors$Row;", .fieldLink RX2 21 "TailVectors$State" "made" "I", .fieldLink RX2 29 "TailVectors$State" "firstOwn" "I"] ++ wsX20)
def wsX2_endEdit : List Cond := .code yX2_endEdit cX2_endEdit 1 none :: ([.fieldLink RX2 24 "TailVectors$State" "editRow" "LTailVectors$Row;", .constant RX2 28 (2147483647), .fieldLink RX2 29 "TailVectors$State" "firstOwn" "I"] ++ wsX20)
def wsX2_takeEditRow : List Cond := .code yX2_takeEditRow cX2_takeEditRow 3 (some .int) :: ([.fieldLink RX2 24 "TailVectors$State" "editRow" "LTailVectors$Row;", .fieldLink RX2 21 "TailVectors$State" "made" "I"] ++ wsX20)
def wsX2_editWrite_r1 : List Cond := [Cond.fieldLink RX2 21 "TailVectors$State" "made" "I", Cond.fieldLink RX2 29 "TailVectors$State" "firstOwn" "I", Cond.methodLink RX2 35 yX1_copy, Cond.instanceMethod yX1_copy, Cond.selects RX1 yX1_copy yX1_copy, Cond.initialized RX1, Cond.code yX1_copy cX1_copy 5 (some (.object "TailVectors$Row")), Cond.classLink RX1 19 RX1, Cond.instantiable RX1 3, Cond.fieldLink RX1 33 "TailVectors$Row" "length" "I", Cond.fieldLink RX1 18 "TailVectors$Row" "values" "[I", Cond.methodLink RX1 9 Lib.Math.min.name, Cond.static Lib.Math.min.name, Cond.initialized "java/lang/Math", Cond.code Lib.Math.min.name Lib.Math.min.code 2 (some .int), Cond.fieldLink RX1 24 "TailVectors$Row" "numbers" "[I", Cond.methodLink RX1 37 yX1_init, Cond.instanceMethod yX1_init, Cond.code yX1_init cX1_init 2 none, Cond.methodLink RX1 3 objectInit, Cond.instanceMethod objectInit, Cond.code objectInit ⟨#[0xb1]⟩ 1 none, Cond.methodLink RX1 15 Lib.Math.max.name, Cond.static Lib.Math.max.name]
def wsX2_editWrite_r2 : List Cond := [Cond.code Lib.Math.max.name Lib.Math.max.code 2 (some .int), Cond.arrayClass .int, Cond.methodLink RX1 27 yJ7_fill_53178, Cond.static yJ7_fill_53178, Cond.initialized RJ7, Cond.code yJ7_fill_53178 cJ7_fill_53178 4 none, Cond.methodLink RX2 41 yX1_write, Cond.instanceMethod yX1_write, Cond.selects RX1 yX1_write yX1_write, Cond.code yX1_write cX1_write 6 (some .int), Cond.methodLink RX1 50 yX1_tail, Cond.instanceMethod yX1_tail, Cond.selects RX1 yX1_tail yX1_tail, Cond.code yX1_tail cX1_tail 1 (some .int), Cond.methodLink RX1 40 yX1_leaves, Cond.instanceMethod yX1_leaves, Cond.selects RX1 yX1_leaves yX1_leaves, Cond.code yX1_leaves cX1_leaves 1 (some .int), Cond.methodLink RX1 53 yX1_hangTail, Cond.instanceMethod yX1_hangTail, Cond.selects RX1 yX1_hangTail yX1_hangTail, Cond.code yX1_hangTail cX1_hangTail 4 (some .int), Cond.static yX5_rootLevel, Cond.initialized RX5]
def wsX2_editWrite_r3 : List Cond := [Cond.code yX5_rootLevel cX5_rootLevel 2 (some .int), Cond.methodLink RX1 60 yX1_makePath, Cond.instanceMethod yX1_makePath, Cond.selects RX1 yX1_makePath yX1_makePath, Cond.code yX1_makePath cX1_makePath 7 (some .int), Cond.methodLink RX1 47 yX1_slotOf, Cond.static yX1_slotOf, Cond.code yX1_slotOf cX1_slotOf 3 (some .int), Cond.methodLink RX1 64 yX1_makeBlock, Cond.instanceMethod yX1_makeBlock, Cond.selects RX1 yX1_makeBlock yX1_makeBlock, Cond.code yX1_makeBlock cX1_makeBlock 4 (some .int), Cond.methodLink RX2 49 yX2_takeEditRow, Cond.instanceMethod yX2_takeEditRow, Cond.selects RX2 yX2_takeEditRow yX2_takeEditRow, Cond.initialized RX2, Cond.code yX2_takeEditRow cX2_takeEditRow 3 (some .int), Cond.fieldLink RX2 24 "TailVectors$State" "editRow" "LTailVectors$Row;"]
def wsX2_editWrite : List Cond := .code yX2_editWrite cX2_editWrite 5 (some .int) :: ((wsX2_editWrite_r1 ++ (wsX2_editWrite_r2 ++ wsX2_editWrite_r3)) ++ wsX20 ++ wsX10)
def wsX2_editRemoveLast_r1 : List Cond := [Cond.fieldLink RX2 21 "TailVectors$State" "made" "I", Cond.fieldLink RX2 29 "TailVectors$State" "firstOwn" "I", Cond.methodLink RX2 35 yX1_copy, Cond.instanceMethod yX1_copy, Cond.selects RX1 yX1_copy yX1_copy, Cond.initialized RX1, Cond.code yX1_copy cX1_copy 5 (some (.object "TailVectors$Row")), Cond.classLink RX1 19 RX1, Cond.instantiable RX1 3, Cond.fieldLink RX1 33 "TailVectors$Row" "length" "I", Cond.fieldLink RX1 18 "TailVectors$Row" "values" "[I", Cond.methodLink RX1 9 Lib.Math.min.name, Cond.static Lib.Math.min.name, Cond.initialized "java/lang/Math", Cond.code Lib.Math.min.name Lib.Math.min.code 2 (some .int), Cond.fieldLink RX1 24 "TailVectors$Row" "numbers" "[I", Cond.methodLink RX1 37 yX1_init, Cond.instanceMethod yX1_init, Cond.code yX1_init cX1_init 2 none, Cond.methodLink RX1 3 objectInit, Cond.instanceMethod objectInit, Cond.code objectInit ⟨#[0xb1]⟩ 1 none, Cond.methodLink RX1 15 Lib.Math.max.name, Cond.static Lib.Math.max.name]
def wsX2_editRemoveLast_r2 : List Cond := [Cond.code Lib.Math.max.name Lib.Math.max.code 2 (some .int), Cond.arrayClass .int, Cond.methodLink RX1 27 yJ7_fill_53178, Cond.static yJ7_fill_53178, Cond.initialized RJ7, Cond.code yJ7_fill_53178 cJ7_fill_53178 4 none, Cond.methodLink RX2 45 yX1_removeLast, Cond.instanceMethod yX1_removeLast, Cond.selects RX1 yX1_removeLast yX1_removeLast, Cond.code yX1_removeLast cX1_removeLast 4 (some .int), Cond.methodLink RX1 50 yX1_tail, Cond.instanceMethod yX1_tail, Cond.selects RX1 yX1_tail yX1_tail, Cond.code yX1_tail cX1_tail 1 (some .int), Cond.methodLink RX1 40 yX1_leaves, Cond.instanceMethod yX1_leaves, Cond.selects RX1 yX1_leaves yX1_leaves, Cond.code yX1_leaves cX1_leaves 1 (some .int), Cond.methodLink RX1 68 yX1_takeLastLeaf, Cond.instanceMethod yX1_takeLastLeaf, Cond.selects RX1 yX1_takeLastLeaf yX1_takeLastLeaf, Cond.code yX1_takeLastLeaf cX1_takeLastLeaf 9 (some .int), Cond.static yX5_rootLevel, Cond.initialized RX5]
def wsX2_editRemoveLast_r3 : List Cond := [Cond.code yX5_rootLevel cX5_rootLevel 2 (some .int), Cond.methodLink RX1 47 yX1_slotOf, Cond.static yX1_slotOf, Cond.code yX1_slotOf cX1_slotOf 3 (some .int), Cond.methodLink RX1 71 yX1_isFirstLeafOfBlock, Cond.static yX1_isFirstLeafOfBlock, Cond.code yX1_isFirstLeafOfBlock cX1_isFirstLeafOfBlock 2 (some .boolean), Cond.methodLink RX1 75 yX1_removeBlock, Cond.instanceMethod yX1_removeBlock, Cond.selects RX1 yX1_removeBlock yX1_removeBlock, Cond.code yX1_removeBlock cX1_removeBlock 2 none, Cond.methodLink RX1 64 yX1_makeBlock, Cond.instanceMethod yX1_makeBlock, Cond.selects RX1 yX1_makeBlock yX1_makeBlock, Cond.code yX1_makeBlock cX1_makeBlock 4 (some .int), Cond.methodLink RX2 49 yX2_takeEditRow, Cond.instanceMethod yX2_takeEditRow, Cond.selects RX2 yX2_takeEditRow yX2_takeEditRow, Cond.initialized RX2, Cond.code yX2_takeEditRow cX2_takeEditRow 3 (some .int), Cond.fieldLink RX2 24 "TailVectors$State" "editRow" "LTailVectors$Row;"]
def wsX2_editRemoveLast : List Cond := .code yX2_editRemoveLast cX2_editRemoveLast 3 (some .int) :: ((wsX2_editRemoveLast_r1 ++ (wsX2_editRemoveLast_r2 ++ wsX2_editRemoveLast_r3)) ++ wsX20 ++ wsX10)
def wsX2_editAppendAll_r1 : List Cond := [Cond.fieldLink RX2 53 "TailVectors$Row" "length" "I", Cond.fieldLink RX2 21 "TailVectors$State" "made" "I", Cond.fieldLink RX2 29 "TailVectors$State" "firstOwn" "I", Cond.methodLink RX2 35 yX1_copy, Cond.instanceMethod yX1_copy, Cond.selects RX1 yX1_copy yX1_copy, Cond.initialized RX1, Cond.code yX1_copy cX1_copy 5 (some (.object "TailVectors$Row")), Cond.classLink RX1 19 RX1, Cond.instantiable RX1 3, Cond.fieldLink RX1 33 "TailVectors$Row" "length" "I", Cond.fieldLink RX1 18 "TailVectors$Row" "values" "[I", Cond.methodLink RX1 9 Lib.Math.min.name, Cond.static Lib.Math.min.name, Cond.initialized "java/lang/Math", Cond.code Lib.Math.min.name Lib.Math.min.code 2 (some .int), Cond.fieldLink RX1 24 "TailVectors$Row" "numbers" "[I", Cond.methodLink RX1 37 yX1_init, Cond.instanceMethod yX1_init, Cond.code yX1_init cX1_init 2 none, Cond.methodLink RX1 3 objectInit, Cond.instanceMethod objectInit, Cond.code objectInit ⟨#[0xb1]⟩ 1 none, Cond.methodLink RX1 15 Lib.Math.max.name]
def wsX2_editAppendAll_r2 : List Cond := [Cond.static Lib.Math.max.name, Cond.code Lib.Math.max.name Lib.Math.max.code 2 (some .int), Cond.arrayClass .int, Cond.methodLink RX1 27 yJ7_fill_53178, Cond.static yJ7_fill_53178, Cond.initialized RJ7, Cond.code yJ7_fill_53178 cJ7_fill_53178 4 none, Cond.methodLink RX2 41 yX1_write, Cond.instanceMethod yX1_write, Cond.selects RX1 yX1_write yX1_write, Cond.code yX1_write cX1_write 6 (some .int), Cond.methodLink RX1 50 yX1_tail, Cond.instanceMethod yX1_tail, Cond.selects RX1 yX1_tail yX1_tail, Cond.code yX1_tail cX1_tail 1 (some .int), Cond.methodLink RX1 40 yX1_leaves, Cond.instanceMethod yX1_leaves, Cond.selects RX1 yX1_leaves yX1_leaves, Cond.code yX1_leaves cX1_leaves 1 (some .int), Cond.methodLink RX1 53 yX1_hangTail, Cond.instanceMethod yX1_hangTail, Cond.selects RX1 yX1_hangTail yX1_hangTail, Cond.code yX1_hangTail cX1_hangTail 4 (some .int), Cond.static yX5_rootLevel]
def wsX2_editAppendAll_r3 : List Cond := [Cond.initialized RX5, Cond.code yX5_rootLevel cX5_rootLevel 2 (some .int), Cond.methodLink RX1 60 yX1_makePath, Cond.instanceMethod yX1_makePath, Cond.selects RX1 yX1_makePath yX1_makePath, Cond.code yX1_makePath cX1_makePath 7 (some .int), Cond.methodLink RX1 47 yX1_slotOf, Cond.static yX1_slotOf, Cond.code yX1_slotOf cX1_slotOf 3 (some .int), Cond.methodLink RX1 64 yX1_makeBlock, Cond.instanceMethod yX1_makeBlock, Cond.selects RX1 yX1_makeBlock yX1_makeBlock, Cond.code yX1_makeBlock cX1_makeBlock 4 (some .int), Cond.methodLink RX2 49 yX2_takeEditRow, Cond.instanceMethod yX2_takeEditRow, Cond.selects RX2 yX2_takeEditRow yX2_takeEditRow, Cond.initialized RX2, Cond.code yX2_takeEditRow cX2_takeEditRow 3 (some .int), Cond.fieldLink RX2 24 "TailVectors$State" "editRow" "LTailVectors$Row;"]
def wsX2_editAppendAll : List Cond := .code yX2_editAppendAll cX2_editAppendAll 9 (some .int) :: ((wsX2_editAppendAll_r1 ++ (wsX2_editAppendAll_r2 ++ wsX2_editAppendAll_r3)) ++ wsX10 ++ wsX20)
def wsX2_rowAt : List Cond := .code yX2_rowAt cX2_rowAt 3 (some (.object "TailVectors$Row")) :: ([.fieldLink RX2 60 "TailVectors$View" "row" "LTailVectors$Row;", .fieldLink RX2 24 "TailVectors$State" "editRow" "LTailVectors$Row;", .methodLink RX2 56 yX2_viewOf, .instanceMethod yX2_viewOf, .selects RX2 yX2_viewOf yX2_viewOf, .initialized RX2, .code yX2_viewOf cX2_viewOf 2 (some (.object "TailVectors$View")), .fieldLink RX2 11 "TailVectors$State" "views" "[LTailVectors$View;"] ++ wsX40 ++ wsX20)
def wsX2_isInOne : List Cond := .code yX2_isInOne cX2_isInOne 6 (some .boolean) :: ([.methodLink RX2 63 yX2_rowAt, .instanceMethod yX2_rowAt, .selects RX2 yX2_rowAt yX2_rowAt, .initialized RX2, .code yX2_rowAt cX2_rowAt 3 (some (.object "TailVectors$Row")), .fieldLink RX2 60 "TailVectors$View" "row" "LTailVectors$Row;", .fieldLink RX2 24 "TailVectors$State" "editRow" "LTailVectors$Row;", .methodLink RX2 56 yX2_viewOf, .instanceMethod yX2_viewOf, .selects RX2 yX2_viewOf yX2_viewOf, .code yX2_viewOf cX2_viewOf 2 (some (.object "TailVectors$View")), .fieldLink RX2 11 "TailVectors$State" "views" "[LTailVectors$View;", .methodLink RX2 78 yX1_has, .instanceMethod yX1_has, .selects RX1 yX1_has yX1_has, .initialized RX1, .code yX1_has cX1_has 3 (some .boolean), .fieldLink RX1 24 "TailVectors$Row" "numbers" "[I"] ++ wsX40 ++ wsX20 ++ wsX10)
def wsX2_blocksNotIn : List Cond := .code yX2_blocksNotIn cX2_blocksNotIn 6 (some .int) :: ([.fieldLink RX2 70 "TailVectors$Row" "numbers" "[I", .methodLink RX2 74 yX2_isInOne, .instanceMethod yX2_isInOne, .selects RX2 yX2_isInOne yX2_isInOne, .initialized RX2, .code yX2_isInOne cX2_isInOne 6 (some .boolean), .methodLink RX2 63 yX2_rowAt, .instanceMethod yX2_rowAt, .selects RX2 yX2_rowAt yX2_rowAt, .code yX2_rowAt cX2_rowAt 3 (some (.object "TailVectors$Row")), .fieldLink RX2 60 "TailVectors$View" "row" "LTailVectors$Row;", .fieldLink RX2 24 "TailVectors$State" "editRow" "LTailVectors$Row;", .methodLink RX2 56 yX2_viewOf, .instanceMethod yX2_viewOf, .selects RX2 yX2_viewOf yX2_viewOf, .code yX2_viewOf cX2_viewOf 2 (some (.object "TailVectors$View")), .fieldLink RX2 11 "TailVectors$State" "views" "[LTailVectors$View;", .methodLink RX2 78 yX1_has, .instanceMethod yX1_has, .selects RX1 yX1_has yX1_has, .initialized RX1, .code yX1_has cX1_has 3 (some .boolean), .fieldLink RX1 24 "TailVectors$Row" "numbers" "[I"] ++ wsX10 ++ wsX40 ++ wsX20)
def wsX2_blocksInUse_r1 : List Cond := [Cond.methodLink RX2 63 yX2_rowAt, Cond.instanceMethod yX2_rowAt, Cond.selects RX2 yX2_rowAt yX2_rowAt, Cond.initialized RX2, Cond.code yX2_rowAt cX2_rowAt 3 (some (.object "TailVectors$Row")), Cond.fieldLink RX2 60 "TailVectors$View" "row" "LTailVectors$Row;", Cond.fieldLink RX2 24 "TailVectors$State" "editRow" "LTailVectors$Row;", Cond.methodLink RX2 56 yX2_viewOf, Cond.instanceMethod yX2_viewOf, Cond.selects RX2 yX2_viewOf yX2_viewOf, Cond.code yX2_viewOf cX2_viewOf 2 (some (.object "TailVectors$View")), Cond.fieldLink RX2 11 "TailVectors$State" "views" "[LTailVectors$View;", Cond.methodLink RX2 66 yX2_blocksNotIn, Cond.instanceMethod yX2_blocksNotIn, Cond.selects RX2 yX2_blocksNotIn yX2_blocksNotIn, Cond.code yX2_blocksNotIn cX2_blocksNotIn 6 (some .int), Cond.fieldLink RX2 70 "TailVectors$Row" "numbers" "[I", Cond.methodLink RX2 74 yX2_isInOne, Cond.instanceMethod yX2_isInOne, Cond.selects RX2 yX2_isInOne yX2_isInOne, Cond.code yX2_isInOne cX2_isInOne 6 (some .boolean), Cond.methodLink RX2 78 yX1_has, Cond.instanceMethod yX1_has, Cond.selects RX1 yX1_has yX1_has]
def wsX2_blocksInUse_r2 : List Cond := [Cond.initialized RX1, Cond.code yX1_has cX1_has 3 (some .boolean), Cond.fieldLink RX1 24 "TailVectors$Row" "numbers" "[I"]
def wsX2_blocksInUse : List Cond := .code yX2_blocksInUse cX2_blocksInUse 4 (some .int) :: ((wsX2_blocksInUse_r1 ++ wsX2_blocksInUse_r2) ++ wsX40 ++ wsX20 ++ wsX10)
def wsX3_init : List Cond := .code yX3_init cX3_init 1 none :: ([.methodLink RX3 3 objectInit, .instanceMethod objectInit, .code objectInit ⟨#[0xb1]⟩ 1 none, .arrayClass .char, .fieldLink RX3 9 "TailVectors$Text" "characters" "[C", .fieldLink RX3 15 "TailVectors$Text" "length" "I"] ++ wsX30)
def wsX3_add : List Cond := .code yX3_add cX3_add 2 (some .boolean) :: ([.fieldLink RX3 15 "TailVectors$Text" "length" "I", .fieldLink RX3 9 "TailVectors$Text" "characters" "[C"] ++ wsX30)
def wsX3_empty : List Cond := .code yX3_empty cX3_empty 1 none :: ([.fieldLink RX3 15 "TailVectors$Text" "length" "I"] ++ wsX30)
def wsX3_characterAt : List Cond := .code yX3_characterAt cX3_characterAt 2 (some .char) :: ([.fieldLink RX3 9 "TailVectors$Text" "characters" "[C"] ++ wsX30)
def wsX3_isDigit : List Cond := .code yX3_isDigit cX3_isDigit 1 (some .boolean) :: ([])
def wsX3_fault : List Cond := .code yX3_fault cX3_fault 5 (some .int) :: ([.fieldLink RX3 15 "TailVectors$Text" "length" "I", .methodLink RX3 19 yX3_characterAt, .instanceMethod yX3_characterAt, .selects RX3 yX3_characterAt yX3_characterAt, .initialized RX3, .code yX3_characterAt cX3_characterAt 2 (some .char), .fieldLink RX3 9 "TailVectors$Text" "characters" "[C", .methodLink RX3 23 yX3_isDigit, .static yX3_isDigit, .code yX3_isDigit cX3_isDigit 1 (some .boolean)] ++ wsX30)
def wsX3_commas : List Cond := .code yX3_commas cX3_commas 3 (some .int) :: ([.fieldLink RX3 15 "TailVectors$Text" "length" "I", .methodLink RX3 19 yX3_characterAt, .instanceMethod yX3_characterAt, .selects RX3 yX3_characterAt yX3_characterAt, .initialized RX3, .code yX3_characterAt cX3_characterAt 2 (some .char), .fieldLink RX3 9 "TailVectors$Text" "characters" "[C"] ++ wsX30)
def wsX3_values : List Cond := .code yX3_values cX3_values 5 (some (.array .int)) :: ([.arrayClass .int, .fieldLink RX3 15 "TailVectors$Text" "length" "I", .methodLink RX3 27 yX3_commas, .instanceMethod yX3_commas, .selects RX3 yX3_commas yX3_commas, .initialized RX3, .code yX3_commas cX3_commas 3 (some .int), .methodLink RX3 19 yX3_characterAt, .instanceMethod yX3_characterAt, .selects RX3 yX3_characterAt yX3_characterAt, .code yX3_characterAt cX3_characterAt 2 (some .char), .fieldLink RX3 9 "TailVectors$Text" "characters" "[C"] ++ wsX30)
def wsX4_init : List Cond := .code yX4_init cX4_init 5 none :: ([.methodLink RX4 3 objectInit, .instanceMethod objectInit, .code objectInit ⟨#[0xb1]⟩ 1 none, .fieldLink RX4 9 "TailVectors$View" "row" "LTailVectors$Row;", .fieldLink RX4 15 "TailVectors$View" "window" "Z", .fieldLink RX4 19 "TailVectors$View" "first" "I", .fieldLink RX4 23 "TailVectors$View" "many" "I"] ++ wsX40)
def wsX4_end : List Cond := .code yX4_end cX4_end 1 (some .int) :: ([.fieldLink RX4 19 "TailVectors$View" "first" "I", .fieldLink RX4 23 "TailVectors$View" "many" "I"] ++ wsX40)
def wsX4_shows : List Cond := .code yX4_shows cX4_shows 2 (some .boolean) :: ([.fieldLink RX4 23 "TailVectors$View" "many" "I"] ++ wsX40)
def wsX4_valueAt : List Cond := .code yX4_valueAt cX4_valueAt 3 (some .int) :: ([.fieldLink RX4 19 "TailVectors$View" "first" "I", .fieldLink RX4 9 "TailVectors$View" "row" "LTailVectors$Row;", .fieldLink RX4 26 "TailVectors$Row" "values" "[I"] ++ wsX40 ++ wsX10)
def wsX4_sum : List Cond := .code yX4_sum cX4_sum 3 (some .int) :: ([.fieldLink RX4 23 "TailVectors$View" "many" "I", .methodLink RX4 32 yX4_valueAt, .instanceMethod yX4_valueAt, .selects RX4 yX4_valueAt yX4_valueAt, .initialized RX4, .code yX4_valueAt cX4_valueAt 3 (some .int), .fieldLink RX4 19 "TailVectors$View" "first" "I", .fieldLink RX4 9 "TailVectors$View" "row" "LTailVectors$Row;", .fieldLink RX4 26 "TailVectors$Row" "values" "[I"] ++ wsX40 ++ wsX10)
def wsX4_greatest : List Cond := .code yX4_greatest cX4_greatest 3 (some .int) :: ([.fieldLink RX4 23 "TailVectors$View" "many" "I", .methodLink RX4 36 Lib.Math.max.name, .static Lib.Math.max.name, .initialized "java/lang/Math", .code Lib.Math.max.name Lib.Math.max.code 2 (some .int), .methodLink RX4 32 yX4_valueAt, .instanceMethod yX4_valueAt, .selects RX4 yX4_valueAt yX4_valueAt, .initialized RX4, .code yX4_valueAt cX4_valueAt 3 (some .int), .fieldLink RX4 19 "TailVectors$View" "first" "I", .fieldLink RX4 9 "TailVectors$View" "row" "LTailVectors$Row;", .fieldLink RX4 26 "TailVectors$Row" "values" "[I"] ++ wsX40 ++ wsX10)
def wsX4_firstDifference : List Cond := .code yX4_firstDifference cX4_firstDifference 4 (some .int) :: ([.fieldLink RX4 23 "TailVectors$View" "many" "I", .methodLink RX4 42 Lib.Math.min.name, .static Lib.Math.min.name, .initialized "java/lang/Math", .code Lib.Math.min.name Lib.Math.min.code 2 (some .int), .methodLink RX4 32 yX4_valueAt, .instanceMethod yX4_valueAt, .selects RX4 yX4_valueAt yX4_valueAt, .initialized RX4, .code yX4_valueAt cX4_valueAt 3 (some .int), .fieldLink RX4 19 "TailVectors$View" "first" "I", .fieldLink RX4 9 "TailVectors$View" "row" "LTailVectors$Row;", .fieldLink RX4 26 "TailVectors$Row" "values" "[I"] ++ wsX40 ++ wsX10)
def wsX4_placeOf : List Cond := .code yX4_placeOf cX4_placeOf 4 (some .int) :: ([.fieldLink RX4 23 "TailVectors$View" "many" "I", .methodLink RX4 32 yX4_valueAt, .instanceMethod yX4_valueAt, .selects RX4 yX4_valueAt yX4_valueAt, .initialized RX4, .code yX4_valueAt cX4_valueAt 3 (some .int), .fieldLink RX4 19 "TailVectors$View" "first" "I", .fieldLink RX4 9 "TailVectors$View" "row" "LTailVectors$Row;", .fieldLink RX4 26 "TailVectors$Row" "values" "[I"] ++ wsX40 ++ wsX10)
def wsX5_init_r1 : List Cond := [Cond.methodLink RX5 1 objectInit, Cond.instanceMethod objectInit, Cond.code objectInit ⟨#[0xb1]⟩ 1 none, Cond.classLink RX5 7 RX2, Cond.instantiable RX2 5, Cond.initialized RX2, Cond.fieldLink RX5 10 "TailVectors" "now" "LTailVectors$State;", Cond.fieldLink RX5 16 "TailVectors" "snapshot" "LTailVectors$State;", Cond.fieldLink RX5 19 "TailVectors" "hasSnapshot" "Z", Cond.classLink RX5 23 RX0, Cond.instantiable RX0 2, Cond.initialized RX0, Cond.fieldLink RX5 26 "TailVectors" "history" "LTailVectors$History;", Cond.classLink RX5 30 RX3, Cond.instantiable RX3 2, Cond.initialized RX3, Cond.fieldLink RX5 33 "TailVectors" "text" "LTailVectors$Text;", Cond.classLink RX5 37 RX4, Cond.instantiable RX4 4, Cond.initialized RX4, Cond.classLink RX5 39 RX1, Cond.instantiable RX1 3, Cond.initialized RX1, Cond.methodLink RX5 9 yX2_init]
def wsX5_init_r2 : List Cond := [Cond.instanceMethod yX2_init, Cond.code yX2_init cX2_init 1 none, Cond.methodLink RX2 3 objectInit, Cond.classLink RX2 9 RX4, Cond.fieldLink RX2 11 "TailVectors$State" "views" "[LTailVectors$View;", Cond.fieldLink RX2 17 "TailVectors$State" "ever" "I", Cond.fieldLink RX2 21 "TailVectors$State" "made" "I", Cond.fieldLink RX2 24 "TailVectors$State" "editRow" "LTailVectors$Row;", Cond.constant RX2 28 (2147483647), Cond.fieldLink RX2 29 "TailVectors$State" "firstOwn" "I", Cond.methodLink RX5 25 yX0_init, Cond.instanceMethod yX0_init, Cond.code yX0_init cX0_init 2 none, Cond.methodLink RX0 3 objectInit, Cond.classLink RX0 9 RX2, Cond.fieldLink RX0 11 "TailVectors$History" "states" "[LTailVectors$State;", Cond.fieldLink RX0 18 "TailVectors$History" "many" "I", Cond.methodLink RX0 17 yX2_init, Cond.methodLink RX5 32 yX3_init, Cond.instanceMethod yX3_init, Cond.code yX3_init cX3_init 1 none, Cond.methodLink RX3 3 objectInit, Cond.arrayClass .char, Cond.fieldLink RX3 9 "TailVectors$Text" "characters" "[C"]
def wsX5_init_r3 : List Cond := [Cond.fieldLink RX3 15 "TailVectors$Text" "length" "I", Cond.methodLink RX5 41 yX1_init, Cond.instanceMethod yX1_init, Cond.code yX1_init cX1_init 2 none, Cond.methodLink RX1 3 objectInit, Cond.methodLink RX1 9 Lib.Math.min.name, Cond.static Lib.Math.min.name, Cond.initialized "java/lang/Math", Cond.code Lib.Math.min.name Lib.Math.min.code 2 (some .int), Cond.methodLink RX1 15 Lib.Math.max.name, Cond.static Lib.Math.max.name, Cond.code Lib.Math.max.name Lib.Math.max.code 2 (some .int), Cond.arrayClass .int, Cond.fieldLink RX1 18 "TailVectors$Row" "values" "[I", Cond.fieldLink RX1 24 "TailVectors$Row" "numbers" "[I", Cond.fieldLink RX1 33 "TailVectors$Row" "length" "I", Cond.methodLink RX1 27 yJ7_fill_53178, Cond.static yJ7_fill_53178, Cond.initialized RJ7, Cond.code yJ7_fill_53178 cJ7_fill_53178 4 none, Cond.methodLink RX5 44 yX4_init, Cond.instanceMethod yX4_init, Cond.code yX4_init cX4_init 5 none, Cond.methodLink RX4 3 objectInit]
def wsX5_init_r4 : List Cond := [Cond.fieldLink RX4 9 "TailVectors$View" "row" "LTailVectors$Row;", Cond.fieldLink RX4 15 "TailVectors$View" "window" "Z", Cond.fieldLink RX4 19 "TailVectors$View" "first" "I", Cond.fieldLink RX4 23 "TailVectors$View" "many" "I", Cond.methodLink RX5 47 yX2_addView, Cond.instanceMethod yX2_addView, Cond.selects RX2 yX2_addView yX2_addView, Cond.code yX2_addView cX2_addView 2 (some .int)]
def wsX5_init : List Cond := .code yX5_init cX5_init 1 none :: ((wsX5_init_r1 ++ (wsX5_init_r2 ++ (wsX5_init_r3 ++ wsX5_init_r4))) ++ wsX20 ++ wsX50 ++ wsX00 ++ wsX30 ++ wsX40 ++ wsX10)
def wsX5_isValue : List Cond := .code yX5_isValue cX5_isValue 1 (some .boolean) :: ([])
def wsX5_push_r1 : List Cond := [Cond.fieldLink RX5 10 "TailVectors" "now" "LTailVectors$State;", Cond.fieldLink RX5 26 "TailVectors" "history" "LTailVectors$History;", Cond.fieldLink RX5 71 "TailVectors$View" "row" "LTailVectors$Row;", Cond.classLink RX5 37 RX4, Cond.instantiable RX4 4, Cond.initialized RX4, Cond.fieldLink RX5 79 "TailVectors$View" "window" "Z", Cond.fieldLink RX5 82 "TailVectors$View" "first" "I", Cond.fieldLink RX5 86 "TailVectors$View" "many" "I", Cond.methodLink RX5 51 yX2_viewOf, Cond.instanceMethod yX2_viewOf, Cond.selects RX2 yX2_viewOf yX2_viewOf, Cond.initialized RX2, Cond.code yX2_viewOf cX2_viewOf 2 (some (.object "TailVectors$View")), Cond.fieldLink RX2 11 "TailVectors$State" "views" "[LTailVectors$View;", Cond.methodLink RX5 55 yX5_isValue, Cond.static yX5_isValue, Cond.initialized RX5, Cond.code yX5_isValue cX5_isValue 1 (some .boolean), Cond.methodLink RX5 59 yX2_isFull, Cond.instanceMethod yX2_isFull, Cond.selects RX2 yX2_isFull yX2_isFull, Cond.code yX2_isFull cX2_isFull 1 (some .boolean), Cond.fieldLink RX2 17 "TailVectors$State" "ever" "I"]
def wsX5_push_r2 : List Cond := [Cond.methodLink RX5 63 yX4_end, Cond.instanceMethod yX4_end, Cond.selects RX4 yX4_end yX4_end, Cond.code yX4_end cX4_end 1 (some .int), Cond.fieldLink RX4 19 "TailVectors$View" "first" "I", Cond.fieldLink RX4 23 "TailVectors$View" "many" "I", Cond.methodLink RX5 67 yX0_remember, Cond.instanceMethod yX0_remember, Cond.selects RX0 yX0_remember yX0_remember, Cond.initialized RX0, Cond.code yX0_remember cX0_remember 3 none, Cond.fieldLink RX0 18 "TailVectors$History" "many" "I", Cond.methodLink RX0 22 yX0_forgetOldest, Cond.instanceMethod yX0_forgetOldest, Cond.selects RX0 yX0_forgetOldest yX0_forgetOldest, Cond.code yX0_forgetOldest cX0_forgetOldest 3 none, Cond.fieldLink RX0 11 "TailVectors$History" "states" "[LTailVectors$State;", Cond.methodLink RX0 25 yX0_stateAt, Cond.instanceMethod yX0_stateAt, Cond.selects RX0 yX0_stateAt yX0_stateAt, Cond.code yX0_stateAt cX0_stateAt 2 (some (.object "TailVectors$State")), Cond.methodLink RX0 29 yX2_copyFrom, Cond.instanceMethod yX2_copyFrom, Cond.selects RX2 yX2_copyFrom yX2_copyFrom]
def wsX5_push_r3 : List Cond := [Cond.code yX2_copyFrom cX2_copyFrom 3 none, Cond.fieldLink RX2 21 "TailVectors$State" "made" "I", Cond.fieldLink RX2 24 "TailVectors$State" "editRow" "LTailVectors$Row;", Cond.fieldLink RX2 29 "TailVectors$State" "firstOwn" "I", Cond.methodLink RX5 75 yX2_rowWith, Cond.instanceMethod yX2_rowWith, Cond.selects RX2 yX2_rowWith yX2_rowWith, Cond.code yX2_rowWith cX2_rowWith 5 (some (.object "TailVectors$Row")), Cond.constant RX2 28 (2147483647), Cond.methodLink RX2 35 yX1_copy, Cond.instanceMethod yX1_copy, Cond.selects RX1 yX1_copy yX1_copy, Cond.initialized RX1, Cond.code yX1_copy cX1_copy 5 (some (.object "TailVectors$Row")), Cond.classLink RX1 19 RX1, Cond.instantiable RX1 3, Cond.fieldLink RX1 33 "TailVectors$Row" "length" "I", Cond.fieldLink RX1 18 "TailVectors$Row" "values" "[I", Cond.methodLink RX1 9 Lib.Math.min.name, Cond.static Lib.Math.min.name, Cond.initialized "java/lang/Math", Cond.code Lib.Math.min.name Lib.Math.min.code 2 (some .int), Cond.fieldLink RX1 24 "TailVectors$Row" "numbers" "[I", Cond.methodLink RX1 37 yX1_init]
def wsX5_push_r4 : List Cond := [Cond.instanceMethod yX1_init, Cond.code yX1_init cX1_init 2 none, Cond.methodLink RX1 3 objectInit, Cond.instanceMethod objectInit, Cond.code objectInit ⟨#[0xb1]⟩ 1 none, Cond.methodLink RX1 15 Lib.Math.max.name, Cond.static Lib.Math.max.name, Cond.code Lib.Math.max.name Lib.Math.max.code 2 (some .int), Cond.arrayClass .int, Cond.methodLink RX1 27 yJ7_fill_53178, Cond.static yJ7_fill_53178, Cond.initialized RJ7, Cond.code yJ7_fill_53178 cJ7_fill_53178 4 none, Cond.methodLink RX2 41 yX1_write, Cond.instanceMethod yX1_write, Cond.selects RX1 yX1_write yX1_write, Cond.code yX1_write cX1_write 6 (some .int), Cond.methodLink RX1 50 yX1_tail, Cond.instanceMethod yX1_tail, Cond.selects RX1 yX1_tail yX1_tail, Cond.code yX1_tail cX1_tail 1 (some .int), Cond.methodLink RX1 40 yX1_leaves, Cond.instanceMethod yX1_leaves, Cond.selects RX1 yX1_leaves yX1_leaves]
def wsX5_push_r5 : List Cond := [Cond.code yX1_leaves cX1_leaves 1 (some .int), Cond.methodLink RX1 53 yX1_hangTail, Cond.instanceMethod yX1_hangTail, Cond.selects RX1 yX1_hangTail yX1_hangTail, Cond.code yX1_hangTail cX1_hangTail 4 (some .int), Cond.static yX5_rootLevel, Cond.code yX5_rootLevel cX5_rootLevel 2 (some .int), Cond.methodLink RX1 60 yX1_makePath, Cond.instanceMethod yX1_makePath, Cond.selects RX1 yX1_makePath yX1_makePath, Cond.code yX1_makePath cX1_makePath 7 (some .int), Cond.methodLink RX1 47 yX1_slotOf, Cond.static yX1_slotOf, Cond.code yX1_slotOf cX1_slotOf 3 (some .int), Cond.methodLink RX1 64 yX1_makeBlock, Cond.instanceMethod yX1_makeBlock, Cond.selects RX1 yX1_makeBlock yX1_makeBlock, Cond.code yX1_makeBlock cX1_makeBlock 4 (some .int), Cond.methodLink RX5 44 yX4_init, Cond.instanceMethod yX4_init, Cond.code yX4_init cX4_init 5 none, Cond.methodLink RX4 3 objectInit, Cond.fieldLink RX4 9 "TailVectors$View" "row" "LTailVectors$Row;", Cond.fieldLink RX4 15 "TailVectors$View" "window" "Z"]
def wsX5_push_r6 : List Cond := [Cond.methodLink RX5 47 yX2_addView, Cond.instanceMethod yX2_addView, Cond.selects RX2 yX2_addView yX2_addView, Cond.code yX2_addView cX2_addView 2 (some .int)]
def wsX5_push : List Cond := .code yX5_push cX5_push 5 (some .int) :: ((wsX5_push_r1 ++ (wsX5_push_r2 ++ (wsX5_push_r3 ++ (wsX5_push_r4 ++ (wsX5_push_r5 ++ wsX5_push_r6))))) ++ wsX50 ++ wsX40 ++ wsX20 ++ wsX00 ++ wsX10)
def wsX5_set_r1 : List Cond := [Cond.fieldLink RX5 10 "TailVectors" "now" "LTailVectors$State;", Cond.fieldLink RX5 26 "TailVectors" "history" "LTailVectors$History;", Cond.fieldLink RX5 71 "TailVectors$View" "row" "LTailVectors$Row;", Cond.fieldLink RX5 82 "TailVectors$View" "first" "I", Cond.classLink RX5 37 RX4, Cond.instantiable RX4 4, Cond.initialized RX4, Cond.fieldLink RX5 79 "TailVectors$View" "window" "Z", Cond.fieldLink RX5 86 "TailVectors$View" "many" "I", Cond.methodLink RX5 51 yX2_viewOf, Cond.instanceMethod yX2_viewOf, Cond.selects RX2 yX2_viewOf yX2_viewOf, Cond.initialized RX2, Cond.code yX2_viewOf cX2_viewOf 2 (some (.object "TailVectors$View")), Cond.fieldLink RX2 11 "TailVectors$State" "views" "[LTailVectors$View;", Cond.methodLink RX5 89 yX4_shows, Cond.instanceMethod yX4_shows, Cond.selects RX4 yX4_shows yX4_shows, Cond.code yX4_shows cX4_shows 2 (some .boolean), Cond.fieldLink RX4 23 "TailVectors$View" "many" "I", Cond.methodLink RX5 55 yX5_isValue, Cond.static yX5_isValue, Cond.initialized RX5, Cond.code yX5_isValue cX5_isValue 1 (some .boolean)]
def wsX5_set_r2 : List Cond := [Cond.methodLink RX5 59 yX2_isFull, Cond.instanceMethod yX2_isFull, Cond.selects RX2 yX2_isFull yX2_isFull, Cond.code yX2_isFull cX2_isFull 1 (some .boolean), Cond.fieldLink RX2 17 "TailVectors$State" "ever" "I", Cond.methodLink RX5 67 yX0_remember, Cond.instanceMethod yX0_remember, Cond.selects RX0 yX0_remember yX0_remember, Cond.initialized RX0, Cond.code yX0_remember cX0_remember 3 none, Cond.fieldLink RX0 18 "TailVectors$History" "many" "I", Cond.methodLink RX0 22 yX0_forgetOldest, Cond.instanceMethod yX0_forgetOldest, Cond.selects RX0 yX0_forgetOldest yX0_forgetOldest, Cond.code yX0_forgetOldest cX0_forgetOldest 3 none, Cond.fieldLink RX0 11 "TailVectors$History" "states" "[LTailVectors$State;", Cond.methodLink RX0 25 yX0_stateAt, Cond.instanceMethod yX0_stateAt, Cond.selects RX0 yX0_stateAt yX0_stateAt, Cond.code yX0_stateAt cX0_stateAt 2 (some (.object "TailVectors$State")), Cond.methodLink RX0 29 yX2_copyFrom, Cond.instanceMethod yX2_copyFrom, Cond.selects RX2 yX2_copyFrom yX2_copyFrom, Cond.code yX2_copyFrom cX2_copyFrom 3 none]
def wsX5_set_r3 : List Cond := [Cond.fieldLink RX2 21 "TailVectors$State" "made" "I", Cond.fieldLink RX2 24 "TailVectors$State" "editRow" "LTailVectors$Row;", Cond.fieldLink RX2 29 "TailVectors$State" "firstOwn" "I", Cond.methodLink RX5 75 yX2_rowWith, Cond.instanceMethod yX2_rowWith, Cond.selects RX2 yX2_rowWith yX2_rowWith, Cond.code yX2_rowWith cX2_rowWith 5 (some (.object "TailVectors$Row")), Cond.constant RX2 28 (2147483647), Cond.methodLink RX2 35 yX1_copy, Cond.instanceMethod yX1_copy, Cond.selects RX1 yX1_copy yX1_copy, Cond.initialized RX1, Cond.code yX1_copy cX1_copy 5 (some (.object "TailVectors$Row")), Cond.classLink RX1 19 RX1, Cond.instantiable RX1 3, Cond.fieldLink RX1 33 "TailVectors$Row" "length" "I", Cond.fieldLink RX1 18 "TailVectors$Row" "values" "[I", Cond.methodLink RX1 9 Lib.Math.min.name, Cond.static Lib.Math.min.name, Cond.initialized "java/lang/Math", Cond.code Lib.Math.min.name Lib.Math.min.code 2 (some .int), Cond.fieldLink RX1 24 "TailVectors$Row" "numbers" "[I", Cond.methodLink RX1 37 yX1_init, Cond.instanceMethod yX1_init]
def wsX5_set_r4 : List Cond := [Cond.code yX1_init cX1_init 2 none, Cond.methodLink RX1 3 objectInit, Cond.instanceMethod objectInit, Cond.code objectInit ⟨#[0xb1]⟩ 1 none, Cond.methodLink RX1 15 Lib.Math.max.name, Cond.static Lib.Math.max.name, Cond.code Lib.Math.max.name Lib.Math.max.code 2 (some .int), Cond.arrayClass .int, Cond.methodLink RX1 27 yJ7_fill_53178, Cond.static yJ7_fill_53178, Cond.initialized RJ7, Cond.code yJ7_fill_53178 cJ7_fill_53178 4 none, Cond.methodLink RX2 41 yX1_write, Cond.instanceMethod yX1_write, Cond.selects RX1 yX1_write yX1_write, Cond.code yX1_write cX1_write 6 (some .int), Cond.methodLink RX1 50 yX1_tail, Cond.instanceMethod yX1_tail, Cond.selects RX1 yX1_tail yX1_tail, Cond.code yX1_tail cX1_tail 1 (some .int), Cond.methodLink RX1 40 yX1_leaves, Cond.instanceMethod yX1_leaves, Cond.selects RX1 yX1_leaves yX1_leaves, Cond.code yX1_leaves cX1_leaves 1 (some .int)]
def wsX5_set_r5 : List Cond := [Cond.methodLink RX1 53 yX1_hangTail, Cond.instanceMethod yX1_hangTail, Cond.selects RX1 yX1_hangTail yX1_hangTail, Cond.code yX1_hangTail cX1_hangTail 4 (some .int), Cond.static yX5_rootLevel, Cond.code yX5_rootLevel cX5_rootLevel 2 (some .int), Cond.methodLink RX1 60 yX1_makePath, Cond.instanceMethod yX1_makePath, Cond.selects RX1 yX1_makePath yX1_makePath, Cond.code yX1_makePath cX1_makePath 7 (some .int), Cond.methodLink RX1 47 yX1_slotOf, Cond.static yX1_slotOf, Cond.code yX1_slotOf cX1_slotOf 3 (some .int), Cond.methodLink RX1 64 yX1_makeBlock, Cond.instanceMethod yX1_makeBlock, Cond.selects RX1 yX1_makeBlock yX1_makeBlock, Cond.code yX1_makeBlock cX1_makeBlock 4 (some .int), Cond.methodLink RX5 44 yX4_init, Cond.instanceMethod yX4_init, Cond.code yX4_init cX4_init 5 none, Cond.methodLink RX4 3 objectInit, Cond.fieldLink RX4 9 "TailVectors$View" "row" "LTailVectors$Row;", Cond.fieldLink RX4 15 "TailVectors$View" "window" "Z", Cond.fieldLink RX4 19 "TailVectors$View" "first" "I"]
def wsX5_set_r6 : List Cond := [Cond.methodLink RX5 47 yX2_addView, Cond.instanceMethod yX2_addView, Cond.selects RX2 yX2_addView yX2_addView, Cond.code yX2_addView cX2_addView 2 (some .int)]
def wsX5_set : List Cond := .code yX5_set cX5_set 6 (some .int) :: ((wsX5_set_r1 ++ (wsX5_set_r2 ++ (wsX5_set_r3 ++ (wsX5_set_r4 ++ (wsX5_set_r5 ++ wsX5_set_r6))))) ++ wsX50 ++ wsX40 ++ wsX20 ++ wsX00 ++ wsX10)
def wsX5_pop_r1 : List Cond := [Cond.fieldLink RX5 10 "TailVectors" "now" "LTailVectors$State;", Cond.fieldLink RX5 86 "TailVectors$View" "many" "I", Cond.fieldLink RX5 26 "TailVectors" "history" "LTailVectors$History;", Cond.fieldLink RX5 79 "TailVectors$View" "window" "Z", Cond.fieldLink RX5 71 "TailVectors$View" "row" "LTailVectors$Row;", Cond.classLink RX5 37 RX4, Cond.instantiable RX4 4, Cond.initialized RX4, Cond.fieldLink RX5 82 "TailVectors$View" "first" "I", Cond.methodLink RX5 51 yX2_viewOf, Cond.instanceMethod yX2_viewOf, Cond.selects RX2 yX2_viewOf yX2_viewOf, Cond.initialized RX2, Cond.code yX2_viewOf cX2_viewOf 2 (some (.object "TailVectors$View")), Cond.fieldLink RX2 11 "TailVectors$State" "views" "[LTailVectors$View;", Cond.methodLink RX5 59 yX2_isFull, Cond.instanceMethod yX2_isFull, Cond.selects RX2 yX2_isFull yX2_isFull, Cond.code yX2_isFull cX2_isFull 1 (some .boolean), Cond.fieldLink RX2 17 "TailVectors$State" "ever" "I", Cond.methodLink RX5 67 yX0_remember, Cond.instanceMethod yX0_remember, Cond.selects RX0 yX0_remember yX0_remember, Cond.initialized RX0]
def wsX5_pop_r2 : List Cond := [Cond.code yX0_remember cX0_remember 3 none, Cond.fieldLink RX0 18 "TailVectors$History" "many" "I", Cond.methodLink RX0 22 yX0_forgetOldest, Cond.instanceMethod yX0_forgetOldest, Cond.selects RX0 yX0_forgetOldest yX0_forgetOldest, Cond.code yX0_forgetOldest cX0_forgetOldest 3 none, Cond.fieldLink RX0 11 "TailVectors$History" "states" "[LTailVectors$State;", Cond.methodLink RX0 25 yX0_stateAt, Cond.instanceMethod yX0_stateAt, Cond.selects RX0 yX0_stateAt yX0_stateAt, Cond.code yX0_stateAt cX0_stateAt 2 (some (.object "TailVectors$State")), Cond.methodLink RX0 29 yX2_copyFrom, Cond.instanceMethod yX2_copyFrom, Cond.selects RX2 yX2_copyFrom yX2_copyFrom, Cond.code yX2_copyFrom cX2_copyFrom 3 none, Cond.fieldLink RX2 21 "TailVectors$State" "made" "I", Cond.fieldLink RX2 24 "TailVectors$State" "editRow" "LTailVectors$Row;", Cond.fieldLink RX2 29 "TailVectors$State" "firstOwn" "I", Cond.methodLink RX5 92 yX2_rowWithoutLast, Cond.instanceMethod yX2_rowWithoutLast, Cond.selects RX2 yX2_rowWithoutLast yX2_rowWithoutLast, Cond.code yX2_rowWithoutLast cX2_rowWithoutLast 3 (some (.object "TailVectors$Row")), Cond.constant RX2 28 (2147483647), Cond.methodLink RX2 35 yX1_copy]
def wsX5_pop_r3 : List Cond := [Cond.instanceMethod yX1_copy, Cond.selects RX1 yX1_copy yX1_copy, Cond.initialized RX1, Cond.code yX1_copy cX1_copy 5 (some (.object "TailVectors$Row")), Cond.classLink RX1 19 RX1, Cond.instantiable RX1 3, Cond.fieldLink RX1 33 "TailVectors$Row" "length" "I", Cond.fieldLink RX1 18 "TailVectors$Row" "values" "[I", Cond.methodLink RX1 9 Lib.Math.min.name, Cond.static Lib.Math.min.name, Cond.initialized "java/lang/Math", Cond.code Lib.Math.min.name Lib.Math.min.code 2 (some .int), Cond.fieldLink RX1 24 "TailVectors$Row" "numbers" "[I", Cond.methodLink RX1 37 yX1_init, Cond.instanceMethod yX1_init, Cond.code yX1_init cX1_init 2 none, Cond.methodLink RX1 3 objectInit, Cond.instanceMethod objectInit, Cond.code objectInit ⟨#[0xb1]⟩ 1 none, Cond.methodLink RX1 15 Lib.Math.max.name, Cond.static Lib.Math.max.name, Cond.code Lib.Math.max.name Lib.Math.max.code 2 (some .int), Cond.arrayClass .int, Cond.methodLink RX1 27 yJ7_fill_53178]
def wsX5_pop_r4 : List Cond := [Cond.static yJ7_fill_53178, Cond.initialized RJ7, Cond.code yJ7_fill_53178 cJ7_fill_53178 4 none, Cond.methodLink RX2 45 yX1_removeLast, Cond.instanceMethod yX1_removeLast, Cond.selects RX1 yX1_removeLast yX1_removeLast, Cond.code yX1_removeLast cX1_removeLast 4 (some .int), Cond.methodLink RX1 50 yX1_tail, Cond.instanceMethod yX1_tail, Cond.selects RX1 yX1_tail yX1_tail, Cond.code yX1_tail cX1_tail 1 (some .int), Cond.methodLink RX1 40 yX1_leaves, Cond.instanceMethod yX1_leaves, Cond.selects RX1 yX1_leaves yX1_leaves, Cond.code yX1_leaves cX1_leaves 1 (some .int), Cond.methodLink RX1 68 yX1_takeLastLeaf, Cond.instanceMethod yX1_takeLastLeaf, Cond.selects RX1 yX1_takeLastLeaf yX1_takeLastLeaf, Cond.code yX1_takeLastLeaf cX1_takeLastLeaf 9 (some .int), Cond.static yX5_rootLevel, Cond.initialized RX5, Cond.code yX5_rootLevel cX5_rootLevel 2 (some .int), Cond.methodLink RX1 47 yX1_slotOf, Cond.static yX1_slotOf]
def wsX5_pop_r5 : List Cond := [Cond.code yX1_slotOf cX1_slotOf 3 (some .int), Cond.methodLink RX1 71 yX1_isFirstLeafOfBlock, Cond.static yX1_isFirstLeafOfBlock, Cond.code yX1_isFirstLeafOfBlock cX1_isFirstLeafOfBlock 2 (some .boolean), Cond.methodLink RX1 75 yX1_removeBlock, Cond.instanceMethod yX1_removeBlock, Cond.selects RX1 yX1_removeBlock yX1_removeBlock, Cond.code yX1_removeBlock cX1_removeBlock 2 none, Cond.methodLink RX1 64 yX1_makeBlock, Cond.instanceMethod yX1_makeBlock, Cond.selects RX1 yX1_makeBlock yX1_makeBlock, Cond.code yX1_makeBlock cX1_makeBlock 4 (some .int), Cond.methodLink RX5 44 yX4_init, Cond.instanceMethod yX4_init, Cond.code yX4_init cX4_init 5 none, Cond.methodLink RX4 3 objectInit, Cond.fieldLink RX4 9 "TailVectors$View" "row" "LTailVectors$Row;", Cond.fieldLink RX4 15 "TailVectors$View" "window" "Z", Cond.fieldLink RX4 19 "TailVectors$View" "first" "I", Cond.fieldLink RX4 23 "TailVectors$View" "many" "I", Cond.methodLink RX5 47 yX2_addView, Cond.instanceMethod yX2_addView, Cond.selects RX2 yX2_addView yX2_addView, Cond.code yX2_addView cX2_addView 2 (some .int)]
def wsX5_pop : List Cond := .code yX5_pop cX5_pop 4 (some .int) :: ((wsX5_pop_r1 ++ (wsX5_pop_r2 ++ (wsX5_pop_r3 ++ (wsX5_pop_r4 ++ wsX5_pop_r5)))) ++ wsX50 ++ wsX40 ++ wsX20 ++ wsX00 ++ wsX10)
def wsX5_window_r1 : List Cond := [Cond.fieldLink RX5 10 "TailVectors" "now" "LTailVectors$State;", Cond.fieldLink RX5 86 "TailVectors$View" "many" "I", Cond.fieldLink RX5 26 "TailVectors" "history" "LTailVectors$History;", Cond.classLink RX5 37 RX4, Cond.instantiable RX4 4, Cond.initialized RX4, Cond.fieldLink RX5 71 "TailVectors$View" "row" "LTailVectors$Row;", Cond.fieldLink RX5 82 "TailVectors$View" "first" "I", Cond.methodLink RX5 51 yX2_viewOf, Cond.instanceMethod yX2_viewOf, Cond.selects RX2 yX2_viewOf yX2_viewOf, Cond.initialized RX2, Cond.code yX2_viewOf cX2_viewOf 2 (some (.object "TailVectors$View")), Cond.fieldLink RX2 11 "TailVectors$State" "views" "[LTailVectors$View;", Cond.methodLink RX5 59 yX2_isFull, Cond.instanceMethod yX2_isFull, Cond.selects RX2 yX2_isFull yX2_isFull, Cond.code yX2_isFull cX2_isFull 1 (some .boolean), Cond.fieldLink RX2 17 "TailVectors$State" "ever" "I", Cond.methodLink RX5 67 yX0_remember, Cond.instanceMethod yX0_remember, Cond.selects RX0 yX0_remember yX0_remember, Cond.initialized RX0, Cond.code yX0_remember cX0_remember 3 none]
def wsX5_window_r2 : List Cond := [Cond.fieldLink RX0 18 "TailVectors$History" "many" "I", Cond.methodLink RX0 22 yX0_forgetOldest, Cond.instanceMethod yX0_forgetOldest, Cond.selects RX0 yX0_forgetOldest yX0_forgetOldest, Cond.code yX0_forgetOldest cX0_forgetOldest 3 none, Cond.fieldLink RX0 11 "TailVectors$History" "states" "[LTailVectors$State;", Cond.methodLink RX0 25 yX0_stateAt, Cond.instanceMethod yX0_stateAt, Cond.selects RX0 yX0_stateAt yX0_stateAt, Cond.code yX0_stateAt cX0_stateAt 2 (some (.object "TailVectors$State")), Cond.methodLink RX0 29 yX2_copyFrom, Cond.instanceMethod yX2_copyFrom, Cond.selects RX2 yX2_copyFrom yX2_copyFrom, Cond.code yX2_copyFrom cX2_copyFrom 3 none, Cond.fieldLink RX2 21 "TailVectors$State" "made" "I", Cond.fieldLink RX2 24 "TailVectors$State" "editRow" "LTailVectors$Row;", Cond.fieldLink RX2 29 "TailVectors$State" "firstOwn" "I", Cond.methodLink RX5 44 yX4_init, Cond.instanceMethod yX4_init, Cond.code yX4_init cX4_init 5 none, Cond.methodLink RX4 3 objectInit, Cond.instanceMethod objectInit, Cond.code objectInit ⟨#[0xb1]⟩ 1 none, Cond.fieldLink RX4 9 "TailVectors$View" "row" "LTailVectors$Row;"]
def wsX5_window_r3 : List Cond := [Cond.fieldLink RX4 15 "TailVectors$View" "window" "Z", Cond.fieldLink RX4 19 "TailVectors$View" "first" "I", Cond.fieldLink RX4 23 "TailVectors$View" "many" "I", Cond.methodLink RX5 47 yX2_addView, Cond.instanceMethod yX2_addView, Cond.selects RX2 yX2_addView yX2_addView, Cond.code yX2_addView cX2_addView 2 (some .int)]
def wsX5_window : List Cond := .code yX5_window cX5_window 5 (some .int) :: ((wsX5_window_r1 ++ (wsX5_window_r2 ++ wsX5_window_r3)) ++ wsX50 ++ wsX40 ++ wsX20 ++ wsX00)
def wsX5_drop_r1 : List Cond := [Cond.fieldLink RX5 10 "TailVectors" "now" "LTailVectors$State;", Cond.fieldLink RX5 26 "TailVectors" "history" "LTailVectors$History;", Cond.methodLink RX5 51 yX2_viewOf, Cond.instanceMethod yX2_viewOf, Cond.selects RX2 yX2_viewOf yX2_viewOf, Cond.initialized RX2, Cond.code yX2_viewOf cX2_viewOf 2 (some (.object "TailVectors$View")), Cond.fieldLink RX2 11 "TailVectors$State" "views" "[LTailVectors$View;", Cond.methodLink RX5 67 yX0_remember, Cond.instanceMethod yX0_remember, Cond.selects RX0 yX0_remember yX0_remember, Cond.initialized RX0, Cond.code yX0_remember cX0_remember 3 none, Cond.fieldLink RX0 18 "TailVectors$History" "many" "I", Cond.methodLink RX0 22 yX0_forgetOldest, Cond.instanceMethod yX0_forgetOldest, Cond.selects RX0 yX0_forgetOldest yX0_forgetOldest, Cond.code yX0_forgetOldest cX0_forgetOldest 3 none, Cond.fieldLink RX0 11 "TailVectors$History" "states" "[LTailVectors$State;", Cond.methodLink RX0 25 yX0_stateAt, Cond.instanceMethod yX0_stateAt, Cond.selects RX0 yX0_stateAt yX0_stateAt, Cond.code yX0_stateAt cX0_stateAt 2 (some (.object "TailVectors$State")), Cond.methodLink RX0 29 yX2_copyFrom]
def wsX5_drop_r2 : List Cond := [Cond.instanceMethod yX2_copyFrom, Cond.selects RX2 yX2_copyFrom yX2_copyFrom, Cond.code yX2_copyFrom cX2_copyFrom 3 none, Cond.fieldLink RX2 17 "TailVectors$State" "ever" "I", Cond.fieldLink RX2 21 "TailVectors$State" "made" "I", Cond.fieldLink RX2 24 "TailVectors$State" "editRow" "LTailVectors$Row;", Cond.fieldLink RX2 29 "TailVectors$State" "firstOwn" "I", Cond.methodLink RX5 96 yX2_removeView, Cond.instanceMethod yX2_removeView, Cond.selects RX2 yX2_removeView yX2_removeView, Cond.code yX2_removeView cX2_removeView 2 none, Cond.methodLink RX5 99 yX2_viewsLeft, Cond.instanceMethod yX2_viewsLeft, Cond.selects RX2 yX2_viewsLeft yX2_viewsLeft, Cond.code yX2_viewsLeft cX2_viewsLeft 3 (some .int)]
def wsX5_drop : List Cond := .code yX5_drop cX5_drop 2 (some .int) :: ((wsX5_drop_r1 ++ wsX5_drop_r2) ++ wsX50 ++ wsX20 ++ wsX00)
def wsX5_begin_r1 : List Cond := [Cond.fieldLink RX5 10 "TailVectors" "now" "LTailVectors$State;", Cond.fieldLink RX5 102 "TailVectors$State" "editRow" "LTailVectors$Row;", Cond.fieldLink RX5 79 "TailVectors$View" "window" "Z", Cond.fieldLink RX5 26 "TailVectors" "history" "LTailVectors$History;", Cond.fieldLink RX5 71 "TailVectors$View" "row" "LTailVectors$Row;", Cond.fieldLink RX5 109 "TailVectors$Row" "length" "I", Cond.methodLink RX5 51 yX2_viewOf, Cond.instanceMethod yX2_viewOf, Cond.selects RX2 yX2_viewOf yX2_viewOf, Cond.initialized RX2, Cond.code yX2_viewOf cX2_viewOf 2 (some (.object "TailVectors$View")), Cond.fieldLink RX2 11 "TailVectors$State" "views" "[LTailVectors$View;", Cond.methodLink RX5 67 yX0_remember, Cond.instanceMethod yX0_remember, Cond.selects RX0 yX0_remember yX0_remember, Cond.initialized RX0, Cond.code yX0_remember cX0_remember 3 none, Cond.fieldLink RX0 18 "TailVectors$History" "many" "I", Cond.methodLink RX0 22 yX0_forgetOldest, Cond.instanceMethod yX0_forgetOldest, Cond.selects RX0 yX0_forgetOldest yX0_forgetOldest, Cond.code yX0_forgetOldest cX0_forgetOldest 3 none, Cond.fieldLink RX0 11 "TailVectors$History" "states" "[LTailVectors$State;", Cond.methodLink RX0 25 yX0_stateAt]
def wsX5_begin_r2 : List Cond := [Cond.instanceMethod yX0_stateAt, Cond.selects RX0 yX0_stateAt yX0_stateAt, Cond.code yX0_stateAt cX0_stateAt 2 (some (.object "TailVectors$State")), Cond.methodLink RX0 29 yX2_copyFrom, Cond.instanceMethod yX2_copyFrom, Cond.selects RX2 yX2_copyFrom yX2_copyFrom, Cond.code yX2_copyFrom cX2_copyFrom 3 none, Cond.fieldLink RX2 17 "TailVectors$State" "ever" "I", Cond.fieldLink RX2 21 "TailVectors$State" "made" "I", Cond.fieldLink RX2 24 "TailVectors$State" "editRow" "LTailVectors$Row;", Cond.fieldLink RX2 29 "TailVectors$State" "firstOwn" "I", Cond.methodLink RX5 105 yX2_beginEdit, Cond.instanceMethod yX2_beginEdit, Cond.selects RX2 yX2_beginEdit yX2_beginEdit, Cond.code yX2_beginEdit cX2_beginEdit 2 none]
def wsX5_begin : List Cond := .code yX5_begin cX5_begin 3 (some .int) :: ((wsX5_begin_r1 ++ wsX5_begin_r2) ++ wsX50 ++ wsX20 ++ wsX40 ++ wsX10 ++ wsX00)
def wsX5_editPush_r1 : List Cond := [Cond.fieldLink RX5 10 "TailVectors" "now" "LTailVectors$State;", Cond.fieldLink RX5 102 "TailVectors$State" "editRow" "LTailVectors$Row;", Cond.fieldLink RX5 109 "TailVectors$Row" "length" "I", Cond.fieldLink RX5 26 "TailVectors" "history" "LTailVectors$History;", Cond.methodLink RX5 55 yX5_isValue, Cond.static yX5_isValue, Cond.initialized RX5, Cond.code yX5_isValue cX5_isValue 1 (some .boolean), Cond.methodLink RX5 67 yX0_remember, Cond.instanceMethod yX0_remember, Cond.selects RX0 yX0_remember yX0_remember, Cond.initialized RX0, Cond.code yX0_remember cX0_remember 3 none, Cond.fieldLink RX0 18 "TailVectors$History" "many" "I", Cond.methodLink RX0 22 yX0_forgetOldest, Cond.instanceMethod yX0_forgetOldest, Cond.selects RX0 yX0_forgetOldest yX0_forgetOldest, Cond.code yX0_forgetOldest cX0_forgetOldest 3 none, Cond.fieldLink RX0 11 "TailVectors$History" "states" "[LTailVectors$State;", Cond.methodLink RX0 25 yX0_stateAt, Cond.instanceMethod yX0_stateAt, Cond.selects RX0 yX0_stateAt yX0_stateAt, Cond.code yX0_stateAt cX0_stateAt 2 (some (.object "TailVectors$State")), Cond.methodLink RX0 29 yX2_copyFrom]
def wsX5_editPush_r2 : List Cond := [Cond.instanceMethod yX2_copyFrom, Cond.selects RX2 yX2_copyFrom yX2_copyFrom, Cond.initialized RX2, Cond.code yX2_copyFrom cX2_copyFrom 3 none, Cond.fieldLink RX2 11 "TailVectors$State" "views" "[LTailVectors$View;", Cond.fieldLink RX2 17 "TailVectors$State" "ever" "I", Cond.fieldLink RX2 21 "TailVectors$State" "made" "I", Cond.fieldLink RX2 24 "TailVectors$State" "editRow" "LTailVectors$Row;", Cond.fieldLink RX2 29 "TailVectors$State" "firstOwn" "I", Cond.methodLink RX5 112 yX2_editWrite, Cond.instanceMethod yX2_editWrite, Cond.selects RX2 yX2_editWrite yX2_editWrite, Cond.code yX2_editWrite cX2_editWrite 5 (some .int), Cond.methodLink RX2 35 yX1_copy, Cond.instanceMethod yX1_copy, Cond.selects RX1 yX1_copy yX1_copy, Cond.initialized RX1, Cond.code yX1_copy cX1_copy 5 (some (.object "TailVectors$Row")), Cond.classLink RX1 19 RX1, Cond.instantiable RX1 3, Cond.fieldLink RX1 33 "TailVectors$Row" "length" "I", Cond.fieldLink RX1 18 "TailVectors$Row" "values" "[I", Cond.methodLink RX1 9 Lib.Math.min.name, Cond.static Lib.Math.min.name]
def wsX5_editPush_r3 : List Cond := [Cond.initialized "java/lang/Math", Cond.code Lib.Math.min.name Lib.Math.min.code 2 (some .int), Cond.fieldLink RX1 24 "TailVectors$Row" "numbers" "[I", Cond.methodLink RX1 37 yX1_init, Cond.instanceMethod yX1_init, Cond.code yX1_init cX1_init 2 none, Cond.methodLink RX1 3 objectInit, Cond.instanceMethod objectInit, Cond.code objectInit ⟨#[0xb1]⟩ 1 none, Cond.methodLink RX1 15 Lib.Math.max.name, Cond.static Lib.Math.max.name, Cond.code Lib.Math.max.name Lib.Math.max.code 2 (some .int), Cond.arrayClass .int, Cond.methodLink RX1 27 yJ7_fill_53178, Cond.static yJ7_fill_53178, Cond.initialized RJ7, Cond.code yJ7_fill_53178 cJ7_fill_53178 4 none, Cond.methodLink RX2 41 yX1_write, Cond.instanceMethod yX1_write, Cond.selects RX1 yX1_write yX1_write, Cond.code yX1_write cX1_write 6 (some .int), Cond.methodLink RX1 50 yX1_tail, Cond.instanceMethod yX1_tail, Cond.selects RX1 yX1_tail yX1_tail]
def wsX5_editPush_r4 : List Cond := [Cond.code yX1_tail cX1_tail 1 (some .int), Cond.methodLink RX1 40 yX1_leaves, Cond.instanceMethod yX1_leaves, Cond.selects RX1 yX1_leaves yX1_leaves, Cond.code yX1_leaves cX1_leaves 1 (some .int), Cond.methodLink RX1 53 yX1_hangTail, Cond.instanceMethod yX1_hangTail, Cond.selects RX1 yX1_hangTail yX1_hangTail, Cond.code yX1_hangTail cX1_hangTail 4 (some .int), Cond.static yX5_rootLevel, Cond.code yX5_rootLevel cX5_rootLevel 2 (some .int), Cond.methodLink RX1 60 yX1_makePath, Cond.instanceMethod yX1_makePath, Cond.selects RX1 yX1_makePath yX1_makePath, Cond.code yX1_makePath cX1_makePath 7 (some .int), Cond.methodLink RX1 47 yX1_slotOf, Cond.static yX1_slotOf, Cond.code yX1_slotOf cX1_slotOf 3 (some .int), Cond.methodLink RX1 64 yX1_makeBlock, Cond.instanceMethod yX1_makeBlock, Cond.selects RX1 yX1_makeBlock yX1_makeBlock, Cond.code yX1_makeBlock cX1_makeBlock 4 (some .int), Cond.methodLink RX2 49 yX2_takeEditRow, Cond.instanceMethod yX2_takeEditRow]
def wsX5_editPush_r5 : List Cond := [Cond.selects RX2 yX2_takeEditRow yX2_takeEditRow, Cond.code yX2_takeEditRow cX2_takeEditRow 3 (some .int)]
def wsX5_editPush : List Cond := .code yX5_editPush cX5_editPush 3 (some .int) :: ((wsX5_editPush_r1 ++ (wsX5_editPush_r2 ++ (wsX5_editPush_r3 ++ (wsX5_editPush_r4 ++ wsX5_editPush_r5)))) ++ wsX50 ++ wsX20 ++ wsX10 ++ wsX00)
def wsX5_editSet_r1 : List Cond := [Cond.fieldLink RX5 10 "TailVectors" "now" "LTailVectors$State;", Cond.fieldLink RX5 102 "TailVectors$State" "editRow" "LTailVectors$Row;", Cond.fieldLink RX5 109 "TailVectors$Row" "length" "I", Cond.fieldLink RX5 26 "TailVectors" "history" "LTailVectors$History;", Cond.methodLink RX5 55 yX5_isValue, Cond.static yX5_isValue, Cond.initialized RX5, Cond.code yX5_isValue cX5_isValue 1 (some .boolean), Cond.methodLink RX5 67 yX0_remember, Cond.instanceMethod yX0_remember, Cond.selects RX0 yX0_remember yX0_remember, Cond.initialized RX0, Cond.code yX0_remember cX0_remember 3 none, Cond.fieldLink RX0 18 "TailVectors$History" "many" "I", Cond.methodLink RX0 22 yX0_forgetOldest, Cond.instanceMethod yX0_forgetOldest, Cond.selects RX0 yX0_forgetOldest yX0_forgetOldest, Cond.code yX0_forgetOldest cX0_forgetOldest 3 none, Cond.fieldLink RX0 11 "TailVectors$History" "states" "[LTailVectors$State;", Cond.methodLink RX0 25 yX0_stateAt, Cond.instanceMethod yX0_stateAt, Cond.selects RX0 yX0_stateAt yX0_stateAt, Cond.code yX0_stateAt cX0_stateAt 2 (some (.object "TailVectors$State")), Cond.methodLink RX0 29 yX2_copyFrom]
def wsX5_editSet_r2 : List Cond := [Cond.instanceMethod yX2_copyFrom, Cond.selects RX2 yX2_copyFrom yX2_copyFrom, Cond.initialized RX2, Cond.code yX2_copyFrom cX2_copyFrom 3 none, Cond.fieldLink RX2 11 "TailVectors$State" "views" "[LTailVectors$View;", Cond.fieldLink RX2 17 "TailVectors$State" "ever" "I", Cond.fieldLink RX2 21 "TailVectors$State" "made" "I", Cond.fieldLink RX2 24 "TailVectors$State" "editRow" "LTailVectors$Row;", Cond.fieldLink RX2 29 "TailVectors$State" "firstOwn" "I", Cond.methodLink RX5 112 yX2_editWrite, Cond.instanceMethod yX2_editWrite, Cond.selects RX2 yX2_editWrite yX2_editWrite, Cond.code yX2_editWrite cX2_editWrite 5 (some .int), Cond.methodLink RX2 35 yX1_copy, Cond.instanceMethod yX1_copy, Cond.selects RX1 yX1_copy yX1_copy, Cond.initialized RX1, Cond.code yX1_copy cX1_copy 5 (some (.object "TailVectors$Row")), Cond.classLink RX1 19 RX1, Cond.instantiable RX1 3, Cond.fieldLink RX1 33 "TailVectors$Row" "length" "I", Cond.fieldLink RX1 18 "TailVectors$Row" "values" "[I", Cond.methodLink RX1 9 Lib.Math.min.name, Cond.static Lib.Math.min.name]
def wsX5_editSet_r3 : List Cond := [Cond.initialized "java/lang/Math", Cond.code Lib.Math.min.name Lib.Math.min.code 2 (some .int), Cond.fieldLink RX1 24 "TailVectors$Row" "numbers" "[I", Cond.methodLink RX1 37 yX1_init, Cond.instanceMethod yX1_init, Cond.code yX1_init cX1_init 2 none, Cond.methodLink RX1 3 objectInit, Cond.instanceMethod objectInit, Cond.code objectInit ⟨#[0xb1]⟩ 1 none, Cond.methodLink RX1 15 Lib.Math.max.name, Cond.static Lib.Math.max.name, Cond.code Lib.Math.max.name Lib.Math.max.code 2 (some .int), Cond.arrayClass .int, Cond.methodLink RX1 27 yJ7_fill_53178, Cond.static yJ7_fill_53178, Cond.initialized RJ7, Cond.code yJ7_fill_53178 cJ7_fill_53178 4 none, Cond.methodLink RX2 41 yX1_write, Cond.instanceMethod yX1_write, Cond.selects RX1 yX1_write yX1_write, Cond.code yX1_write cX1_write 6 (some .int), Cond.methodLink RX1 50 yX1_tail, Cond.instanceMethod yX1_tail, Cond.selects RX1 yX1_tail yX1_tail]
def wsX5_editSet_r4 : List Cond := [Cond.code yX1_tail cX1_tail 1 (some .int), Cond.methodLink RX1 40 yX1_leaves, Cond.instanceMethod yX1_leaves, Cond.selects RX1 yX1_leaves yX1_leaves, Cond.code yX1_leaves cX1_leaves 1 (some .int), Cond.methodLink RX1 53 yX1_hangTail, Cond.instanceMethod yX1_hangTail, Cond.selects RX1 yX1_hangTail yX1_hangTail, Cond.code yX1_hangTail cX1_hangTail 4 (some .int), Cond.static yX5_rootLevel, Cond.code yX5_rootLevel cX5_rootLevel 2 (some .int), Cond.methodLink RX1 60 yX1_makePath, Cond.instanceMethod yX1_makePath, Cond.selects RX1 yX1_makePath yX1_makePath, Cond.code yX1_makePath cX1_makePath 7 (some .int), Cond.methodLink RX1 47 yX1_slotOf, Cond.static yX1_slotOf, Cond.code yX1_slotOf cX1_slotOf 3 (some .int), Cond.methodLink RX1 64 yX1_makeBlock, Cond.instanceMethod yX1_makeBlock, Cond.selects RX1 yX1_makeBlock yX1_makeBlock, Cond.code yX1_makeBlock cX1_makeBlock 4 (some .int), Cond.methodLink RX2 49 yX2_takeEditRow, Cond.instanceMethod yX2_takeEditRow]
def wsX5_editSet_r5 : List Cond := [Cond.selects RX2 yX2_takeEditRow yX2_takeEditRow, Cond.code yX2_takeEditRow cX2_takeEditRow 3 (some .int)]
def wsX5_editSet : List Cond := .code yX5_editSet cX5_editSet 4 (some .int) :: ((wsX5_editSet_r1 ++ (wsX5_editSet_r2 ++ (wsX5_editSet_r3 ++ (wsX5_editSet_r4 ++ wsX5_editSet_r5)))) ++ wsX50 ++ wsX20 ++ wsX10 ++ wsX00)
def wsX5_editPop_r1 : List Cond := [Cond.fieldLink RX5 10 "TailVectors" "now" "LTailVectors$State;", Cond.fieldLink RX5 102 "TailVectors$State" "editRow" "LTailVectors$Row;", Cond.fieldLink RX5 109 "TailVectors$Row" "length" "I", Cond.fieldLink RX5 26 "TailVectors" "history" "LTailVectors$History;", Cond.methodLink RX5 67 yX0_remember, Cond.instanceMethod yX0_remember, Cond.selects RX0 yX0_remember yX0_remember, Cond.initialized RX0, Cond.code yX0_remember cX0_remember 3 none, Cond.fieldLink RX0 18 "TailVectors$History" "many" "I", Cond.methodLink RX0 22 yX0_forgetOldest, Cond.instanceMethod yX0_forgetOldest, Cond.selects RX0 yX0_forgetOldest yX0_forgetOldest, Cond.code yX0_forgetOldest cX0_forgetOldest 3 none, Cond.fieldLink RX0 11 "TailVectors$History" "states" "[LTailVectors$State;", Cond.methodLink RX0 25 yX0_stateAt, Cond.instanceMethod yX0_stateAt, Cond.selects RX0 yX0_stateAt yX0_stateAt, Cond.code yX0_stateAt cX0_stateAt 2 (some (.object "TailVectors$State")), Cond.methodLink RX0 29 yX2_copyFrom, Cond.instanceMethod yX2_copyFrom, Cond.selects RX2 yX2_copyFrom yX2_copyFrom, Cond.initialized RX2, Cond.code yX2_copyFrom cX2_copyFrom 3 none]
def wsX5_editPop_r2 : List Cond := [Cond.fieldLink RX2 11 "TailVectors$State" "views" "[LTailVectors$View;", Cond.fieldLink RX2 17 "TailVectors$State" "ever" "I", Cond.fieldLink RX2 21 "TailVectors$State" "made" "I", Cond.fieldLink RX2 24 "TailVectors$State" "editRow" "LTailVectors$Row;", Cond.fieldLink RX2 29 "TailVectors$State" "firstOwn" "I", Cond.methodLink RX5 116 yX2_editRemoveLast, Cond.instanceMethod yX2_editRemoveLast, Cond.selects RX2 yX2_editRemoveLast yX2_editRemoveLast, Cond.code yX2_editRemoveLast cX2_editRemoveLast 3 (some .int), Cond.methodLink RX2 35 yX1_copy, Cond.instanceMethod yX1_copy, Cond.selects RX1 yX1_copy yX1_copy, Cond.initialized RX1, Cond.code yX1_copy cX1_copy 5 (some (.object "TailVectors$Row")), Cond.classLink RX1 19 RX1, Cond.instantiable RX1 3, Cond.fieldLink RX1 33 "TailVectors$Row" "length" "I", Cond.fieldLink RX1 18 "TailVectors$Row" "values" "[I", Cond.methodLink RX1 9 Lib.Math.min.name, Cond.static Lib.Math.min.name, Cond.initialized "java/lang/Math", Cond.code Lib.Math.min.name Lib.Math.min.code 2 (some .int), Cond.fieldLink RX1 24 "TailVectors$Row" "numbers" "[I", Cond.methodLink RX1 37 yX1_init]
def wsX5_editPop_r3 : List Cond := [Cond.instanceMethod yX1_init, Cond.code yX1_init cX1_init 2 none, Cond.methodLink RX1 3 objectInit, Cond.instanceMethod objectInit, Cond.code objectInit ⟨#[0xb1]⟩ 1 none, Cond.methodLink RX1 15 Lib.Math.max.name, Cond.static Lib.Math.max.name, Cond.code Lib.Math.max.name Lib.Math.max.code 2 (some .int), Cond.arrayClass .int, Cond.methodLink RX1 27 yJ7_fill_53178, Cond.static yJ7_fill_53178, Cond.initialized RJ7, Cond.code yJ7_fill_53178 cJ7_fill_53178 4 none, Cond.methodLink RX2 45 yX1_removeLast, Cond.instanceMethod yX1_removeLast, Cond.selects RX1 yX1_removeLast yX1_removeLast, Cond.code yX1_removeLast cX1_removeLast 4 (some .int), Cond.methodLink RX1 50 yX1_tail, Cond.instanceMethod yX1_tail, Cond.selects RX1 yX1_tail yX1_tail, Cond.code yX1_tail cX1_tail 1 (some .int), Cond.methodLink RX1 40 yX1_leaves, Cond.instanceMethod yX1_leaves, Cond.selects RX1 yX1_leaves yX1_leaves]
def wsX5_editPop_r4 : List Cond := [Cond.code yX1_leaves cX1_leaves 1 (some .int), Cond.methodLink RX1 68 yX1_takeLastLeaf, Cond.instanceMethod yX1_takeLastLeaf, Cond.selects RX1 yX1_takeLastLeaf yX1_takeLastLeaf, Cond.code yX1_takeLastLeaf cX1_takeLastLeaf 9 (some .int), Cond.static yX5_rootLevel, Cond.initialized RX5, Cond.code yX5_rootLevel cX5_rootLevel 2 (some .int), Cond.methodLink RX1 47 yX1_slotOf, Cond.static yX1_slotOf, Cond.code yX1_slotOf cX1_slotOf 3 (some .int), Cond.methodLink RX1 71 yX1_isFirstLeafOfBlock, Cond.static yX1_isFirstLeafOfBlock, Cond.code yX1_isFirstLeafOfBlock cX1_isFirstLeafOfBlock 2 (some .boolean), Cond.methodLink RX1 75 yX1_removeBlock, Cond.instanceMethod yX1_removeBlock, Cond.selects RX1 yX1_removeBlock yX1_removeBlock, Cond.code yX1_removeBlock cX1_removeBlock 2 none, Cond.methodLink RX1 64 yX1_makeBlock, Cond.instanceMethod yX1_makeBlock, Cond.selects RX1 yX1_makeBlock yX1_makeBlock, Cond.code yX1_makeBlock cX1_makeBlock 4 (some .int), Cond.methodLink RX2 49 yX2_takeEditRow, Cond.instanceMethod yX2_takeEditRow]
def wsX5_editPop_r5 : List Cond := [Cond.selects RX2 yX2_takeEditRow yX2_takeEditRow, Cond.code yX2_takeEditRow cX2_takeEditRow 3 (some .int)]
def wsX5_editPop : List Cond := .code yX5_editPop cX5_editPop 2 (some .int) :: ((wsX5_editPop_r1 ++ (wsX5_editPop_r2 ++ (wsX5_editPop_r3 ++ (wsX5_editPop_r4 ++ wsX5_editPop_r5)))) ++ wsX50 ++ wsX20 ++ wsX10 ++ wsX00)
def wsX5_editRead_r1 : List Cond := [Cond.fieldLink RX5 10 "TailVectors" "now" "LTailVectors$State;", Cond.fieldLink RX5 102 "TailVectors$State" "editRow" "LTailVectors$Row;", Cond.fieldLink RX5 33 "TailVectors" "text" "LTailVectors$Text;", Cond.fieldLink RX5 109 "TailVectors$Row" "length" "I", Cond.fieldLink RX5 26 "TailVectors" "history" "LTailVectors$History;", Cond.methodLink RX5 120 yX3_fault, Cond.instanceMethod yX3_fault, Cond.selects RX3 yX3_fault yX3_fault, Cond.initialized RX3, Cond.code yX3_fault cX3_fault 5 (some .int), Cond.fieldLink RX3 15 "TailVectors$Text" "length" "I", Cond.methodLink RX3 19 yX3_characterAt, Cond.instanceMethod yX3_characterAt, Cond.selects RX3 yX3_characterAt yX3_characterAt, Cond.code yX3_characterAt cX3_characterAt 2 (some .char), Cond.fieldLink RX3 9 "TailVectors$Text" "characters" "[C", Cond.methodLink RX3 23 yX3_isDigit, Cond.static yX3_isDigit, Cond.code yX3_isDigit cX3_isDigit 1 (some .boolean), Cond.methodLink RX5 123 yX3_values, Cond.instanceMethod yX3_values, Cond.selects RX3 yX3_values yX3_values, Cond.code yX3_values cX3_values 5 (some (.array .int)), Cond.arrayClass .int]
def wsX5_editRead_r2 : List Cond := [Cond.methodLink RX3 27 yX3_commas, Cond.instanceMethod yX3_commas, Cond.selects RX3 yX3_commas yX3_commas, Cond.code yX3_commas cX3_commas 3 (some .int), Cond.methodLink RX5 67 yX0_remember, Cond.instanceMethod yX0_remember, Cond.selects RX0 yX0_remember yX0_remember, Cond.initialized RX0, Cond.code yX0_remember cX0_remember 3 none, Cond.fieldLink RX0 18 "TailVectors$History" "many" "I", Cond.methodLink RX0 22 yX0_forgetOldest, Cond.instanceMethod yX0_forgetOldest, Cond.selects RX0 yX0_forgetOldest yX0_forgetOldest, Cond.code yX0_forgetOldest cX0_forgetOldest 3 none, Cond.fieldLink RX0 11 "TailVectors$History" "states" "[LTailVectors$State;", Cond.methodLink RX0 25 yX0_stateAt, Cond.instanceMethod yX0_stateAt, Cond.selects RX0 yX0_stateAt yX0_stateAt, Cond.code yX0_stateAt cX0_stateAt 2 (some (.object "TailVectors$State")), Cond.methodLink RX0 29 yX2_copyFrom, Cond.instanceMethod yX2_copyFrom, Cond.selects RX2 yX2_copyFrom yX2_copyFrom, Cond.initialized RX2, Cond.code yX2_copyFrom cX2_copyFrom 3 none]
def wsX5_editRead_r3 : List Cond := [Cond.fieldLink RX2 11 "TailVectors$State" "views" "[LTailVectors$View;", Cond.fieldLink RX2 17 "TailVectors$State" "ever" "I", Cond.fieldLink RX2 21 "TailVectors$State" "made" "I", Cond.fieldLink RX2 24 "TailVectors$State" "editRow" "LTailVectors$Row;", Cond.fieldLink RX2 29 "TailVectors$State" "firstOwn" "I", Cond.methodLink RX5 127 yX2_editAppendAll, Cond.instanceMethod yX2_editAppendAll, Cond.selects RX2 yX2_editAppendAll yX2_editAppendAll, Cond.code yX2_editAppendAll cX2_editAppendAll 9 (some .int), Cond.fieldLink RX2 53 "TailVectors$Row" "length" "I", Cond.methodLink RX2 35 yX1_copy, Cond.instanceMethod yX1_copy, Cond.selects RX1 yX1_copy yX1_copy, Cond.initialized RX1, Cond.code yX1_copy cX1_copy 5 (some (.object "TailVectors$Row")), Cond.classLink RX1 19 RX1, Cond.instantiable RX1 3, Cond.fieldLink RX1 33 "TailVectors$Row" "length" "I", Cond.fieldLink RX1 18 "TailVectors$Row" "values" "[I", Cond.methodLink RX1 9 Lib.Math.min.name, Cond.static Lib.Math.min.name, Cond.initialized "java/lang/Math", Cond.code Lib.Math.min.name Lib.Math.min.code 2 (some .int), Cond.fieldLink RX1 24 "TailVectors$Row" "numbers" "[I"]
def wsX5_editRead_r4 : List Cond := [Cond.methodLink RX1 37 yX1_init, Cond.instanceMethod yX1_init, Cond.code yX1_init cX1_init 2 none, Cond.methodLink RX1 3 objectInit, Cond.instanceMethod objectInit, Cond.code objectInit ⟨#[0xb1]⟩ 1 none, Cond.methodLink RX1 15 Lib.Math.max.name, Cond.static Lib.Math.max.name, Cond.code Lib.Math.max.name Lib.Math.max.code 2 (some .int), Cond.methodLink RX1 27 yJ7_fill_53178, Cond.static yJ7_fill_53178, Cond.initialized RJ7, Cond.code yJ7_fill_53178 cJ7_fill_53178 4 none, Cond.methodLink RX2 41 yX1_write, Cond.instanceMethod yX1_write, Cond.selects RX1 yX1_write yX1_write, Cond.code yX1_write cX1_write 6 (some .int), Cond.methodLink RX1 50 yX1_tail, Cond.instanceMethod yX1_tail, Cond.selects RX1 yX1_tail yX1_tail, Cond.code yX1_tail cX1_tail 1 (some .int), Cond.methodLink RX1 40 yX1_leaves, Cond.instanceMethod yX1_leaves, Cond.selects RX1 yX1_leaves yX1_leaves]
def wsX5_editRead_r5 : List Cond := [Cond.code yX1_leaves cX1_leaves 1 (some .int), Cond.methodLink RX1 53 yX1_hangTail, Cond.instanceMethod yX1_hangTail, Cond.selects RX1 yX1_hangTail yX1_hangTail, Cond.code yX1_hangTail cX1_hangTail 4 (some .int), Cond.static yX5_rootLevel, Cond.initialized RX5, Cond.code yX5_rootLevel cX5_rootLevel 2 (some .int), Cond.methodLink RX1 60 yX1_makePath, Cond.instanceMethod yX1_makePath, Cond.selects RX1 yX1_makePath yX1_makePath, Cond.code yX1_makePath cX1_makePath 7 (some .int), Cond.methodLink RX1 47 yX1_slotOf, Cond.static yX1_slotOf, Cond.code yX1_slotOf cX1_slotOf 3 (some .int), Cond.methodLink RX1 64 yX1_makeBlock, Cond.instanceMethod yX1_makeBlock, Cond.selects RX1 yX1_makeBlock yX1_makeBlock, Cond.code yX1_makeBlock cX1_makeBlock 4 (some .int), Cond.methodLink RX2 49 yX2_takeEditRow, Cond.instanceMethod yX2_takeEditRow, Cond.selects RX2 yX2_takeEditRow yX2_takeEditRow, Cond.code yX2_takeEditRow cX2_takeEditRow 3 (some .int)]
def wsX5_editRead : List Cond := .code yX5_editRead cX5_editRead 4 (some .int) :: ((wsX5_editRead_r1 ++ (wsX5_editRead_r2 ++ (wsX5_editRead_r3 ++ (wsX5_editRead_r4 ++ wsX5_editRead_r5)))) ++ wsX50 ++ wsX20 ++ wsX10 ++ wsX30 ++ wsX00)
def wsX5_finish_r1 : List Cond := [Cond.fieldLink RX5 10 "TailVectors" "now" "LTailVectors$State;", Cond.fieldLink RX5 102 "TailVectors$State" "editRow" "LTailVectors$Row;", Cond.fieldLink RX5 26 "TailVectors" "history" "LTailVectors$History;", Cond.classLink RX5 37 RX4, Cond.instantiable RX4 4, Cond.initialized RX4, Cond.fieldLink RX5 109 "TailVectors$Row" "length" "I", Cond.methodLink RX5 59 yX2_isFull, Cond.instanceMethod yX2_isFull, Cond.selects RX2 yX2_isFull yX2_isFull, Cond.initialized RX2, Cond.code yX2_isFull cX2_isFull 1 (some .boolean), Cond.fieldLink RX2 17 "TailVectors$State" "ever" "I", Cond.methodLink RX5 67 yX0_remember, Cond.instanceMethod yX0_remember, Cond.selects RX0 yX0_remember yX0_remember, Cond.initialized RX0, Cond.code yX0_remember cX0_remember 3 none, Cond.fieldLink RX0 18 "TailVectors$History" "many" "I", Cond.methodLink RX0 22 yX0_forgetOldest, Cond.instanceMethod yX0_forgetOldest, Cond.selects RX0 yX0_forgetOldest yX0_forgetOldest, Cond.code yX0_forgetOldest cX0_forgetOldest 3 none, Cond.fieldLink RX0 11 "TailVectors$History" "states" "[LTailVectors$State;"]
def wsX5_finish_r2 : List Cond := [Cond.methodLink RX0 25 yX0_stateAt, Cond.instanceMethod yX0_stateAt, Cond.selects RX0 yX0_stateAt yX0_stateAt, Cond.code yX0_stateAt cX0_stateAt 2 (some (.object "TailVectors$State")), Cond.methodLink RX0 29 yX2_copyFrom, Cond.instanceMethod yX2_copyFrom, Cond.selects RX2 yX2_copyFrom yX2_copyFrom, Cond.code yX2_copyFrom cX2_copyFrom 3 none, Cond.fieldLink RX2 11 "TailVectors$State" "views" "[LTailVectors$View;", Cond.fieldLink RX2 21 "TailVectors$State" "made" "I", Cond.fieldLink RX2 24 "TailVectors$State" "editRow" "LTailVectors$Row;", Cond.fieldLink RX2 29 "TailVectors$State" "firstOwn" "I", Cond.methodLink RX5 131 yX2_endEdit, Cond.instanceMethod yX2_endEdit, Cond.selects RX2 yX2_endEdit yX2_endEdit, Cond.code yX2_endEdit cX2_endEdit 1 none, Cond.constant RX2 28 (2147483647), Cond.methodLink RX5 44 yX4_init, Cond.instanceMethod yX4_init, Cond.code yX4_init cX4_init 5 none, Cond.methodLink RX4 3 objectInit, Cond.instanceMethod objectInit, Cond.code objectInit ⟨#[0xb1]⟩ 1 none, Cond.fieldLink RX4 9 "TailVectors$View" "row" "LTailVectors$Row;"]
def wsX5_finish_r3 : List Cond := [Cond.fieldLink RX4 15 "TailVectors$View" "window" "Z", Cond.fieldLink RX4 19 "TailVectors$View" "first" "I", Cond.fieldLink RX4 23 "TailVectors$View" "many" "I", Cond.methodLink RX5 47 yX2_addView, Cond.instanceMethod yX2_addView, Cond.selects RX2 yX2_addView yX2_addView, Cond.code yX2_addView cX2_addView 2 (some .int)]
def wsX5_finish : List Cond := .code yX5_finish cX5_finish 2 (some .int) :: ((wsX5_finish_r1 ++ (wsX5_finish_r2 ++ wsX5_finish_r3)) ++ wsX50 ++ wsX20 ++ wsX40 ++ wsX10 ++ wsX00)
def wsX5_abandon_r1 : List Cond := [Cond.fieldLink RX5 10 "TailVectors" "now" "LTailVectors$State;", Cond.fieldLink RX5 102 "TailVectors$State" "editRow" "LTailVectors$Row;", Cond.fieldLink RX5 26 "TailVectors" "history" "LTailVectors$History;", Cond.fieldLink RX5 109 "TailVectors$Row" "length" "I", Cond.methodLink RX5 67 yX0_remember, Cond.instanceMethod yX0_remember, Cond.selects RX0 yX0_remember yX0_remember, Cond.initialized RX0, Cond.code yX0_remember cX0_remember 3 none, Cond.fieldLink RX0 18 "TailVectors$History" "many" "I", Cond.methodLink RX0 22 yX0_forgetOldest, Cond.instanceMethod yX0_forgetOldest, Cond.selects RX0 yX0_forgetOldest yX0_forgetOldest, Cond.code yX0_forgetOldest cX0_forgetOldest 3 none, Cond.fieldLink RX0 11 "TailVectors$History" "states" "[LTailVectors$State;", Cond.methodLink RX0 25 yX0_stateAt, Cond.instanceMethod yX0_stateAt, Cond.selects RX0 yX0_stateAt yX0_stateAt, Cond.code yX0_stateAt cX0_stateAt 2 (some (.object "TailVectors$State")), Cond.methodLink RX0 29 yX2_copyFrom, Cond.instanceMethod yX2_copyFrom, Cond.selects RX2 yX2_copyFrom yX2_copyFrom, Cond.initialized RX2, Cond.code yX2_copyFrom cX2_copyFrom 3 none]
def wsX5_abandon_r2 : List Cond := [Cond.fieldLink RX2 11 "TailVectors$State" "views" "[LTailVectors$View;", Cond.fieldLink RX2 17 "TailVectors$State" "ever" "I", Cond.fieldLink RX2 21 "TailVectors$State" "made" "I", Cond.fieldLink RX2 24 "TailVectors$State" "editRow" "LTailVectors$Row;", Cond.fieldLink RX2 29 "TailVectors$State" "firstOwn" "I", Cond.methodLink RX5 131 yX2_endEdit, Cond.instanceMethod yX2_endEdit, Cond.selects RX2 yX2_endEdit yX2_endEdit, Cond.code yX2_endEdit cX2_endEdit 1 none, Cond.constant RX2 28 (2147483647)]
def wsX5_abandon : List Cond := .code yX5_abandon cX5_abandon 2 (some .int) :: ((wsX5_abandon_r1 ++ wsX5_abandon_r2) ++ wsX50 ++ wsX20 ++ wsX10 ++ wsX00)
def wsX5_type : List Cond := .code yX5_type cX5_type 2 (some .int) :: ([.fieldLink RX5 33 "TailVectors" "text" "LTailVectors$Text;", .fieldLink RX5 138 "TailVectors$Text" "length" "I", .methodLink RX5 134 yX3_add, .instanceMethod yX3_add, .selects RX3 yX3_add yX3_add, .initialized RX3, .code yX3_add cX3_add 2 (some .boolean), .fieldLink RX3 15 "TailVectors$Text" "length" "I", .fieldLink RX3 9 "TailVectors$Text" "characters" "[C"] ++ wsX50 ++ wsX30)
def wsX5_clearText : List Cond := .code yX5_clearText cX5_clearText 2 (some .int) :: ([.fieldLink RX5 33 "TailVectors" "text" "LTailVectors$Text;", .fieldLink RX5 138 "TailVectors$Text" "length" "I", .methodLink RX5 139 yX3_empty, .instanceMethod yX3_empty, .selects RX3 yX3_empty yX3_empty, .initialized RX3, .code yX3_empty cX3_empty 1 none, .fieldLink RX3 15 "TailVectors$Text" "length" "I"] ++ wsX50 ++ wsX30)
def wsX5_undo : List Cond := .code yX5_undo cX5_undo 1 (some .int) :: ([.fieldLink RX5 26 "TailVectors" "history" "LTailVectors$History;", .fieldLink RX5 142 "TailVectors$History" "many" "I", .fieldLink RX5 10 "TailVectors" "now" "LTailVectors$State;", .methodLink RX5 143 yX0_takeBack, .instanceMethod yX0_takeBack, .selects RX0 yX0_takeBack yX0_takeBack, .initialized RX0, .code yX0_takeBack cX0_takeBack 3 none, .fieldLink RX0 18 "TailVectors$History" "many" "I", .methodLink RX0 25 yX0_stateAt, .instanceMethod yX0_stateAt, .selects RX0 yX0_stateAt yX0_stateAt, .code yX0_stateAt cX0_stateAt 2 (some (.object "TailVectors$State")), .fieldLink RX0 11 "TailVectors$History" "states" "[LTailVectors$State;", .methodLink RX0 29 yX2_copyFrom, .instanceMethod yX2_copyFrom, .selects RX2 yX2_copyFrom yX2_copyFrom, .initialized RX2, .code yX2_copyFrom cX2_copyFrom 3 none, .fieldLink RX2 11 "TailVectors$State" "views" "[LTailVectors$View;", .fieldLink RX2 17 "TailVectors$State" "ever" "I", .fieldLink RX2 21 "TailVectors$State" "made" "I", .fieldLink RX2 24 "TailVectors$State" "editRow" "LTailVectors$Row;", .fieldLink RX2 29 "TailVectors$State" "firstOwn" "I"] ++ wsX50 ++ wsX00 ++ wsX20)
def wsX5_keep : List Cond := .code yX5_keep cX5_keep 1 (some .int) :: ([.fieldLink RX5 16 "TailVectors" "snapshot" "LTailVectors$State;", .fieldLink RX5 10 "TailVectors" "now" "LTailVectors$State;", .fieldLink RX5 19 "TailVectors" "hasSnapshot" "Z", .fieldLink RX5 149 "TailVectors$State" "made" "I", .methodLink RX5 146 yX2_copyFrom, .instanceMethod yX2_copyFrom, .selects RX2 yX2_copyFrom yX2_copyFrom, .initialized RX2, .code yX2_copyFrom cX2_copyFrom 3 none, .fieldLink RX2 11 "TailVectors$State" "views" "[LTailVectors$View;", .fieldLink RX2 17 "TailVectors$State" "ever" "I", .fieldLink RX2 21 "TailVectors$State" "made" "I", .fieldLink RX2 24 "TailVectors$State" "editRow" "LTailVectors$Row;", .fieldLink RX2 29 "TailVectors$State" "firstOwn" "I"] ++ wsX50 ++ wsX20)
def wsX5_restore_r1 : List Cond := [Cond.fieldLink RX5 19 "TailVectors" "hasSnapshot" "Z", Cond.fieldLink RX5 26 "TailVectors" "history" "LTailVectors$History;", Cond.fieldLink RX5 10 "TailVectors" "now" "LTailVectors$State;", Cond.fieldLink RX5 16 "TailVectors" "snapshot" "LTailVectors$State;", Cond.fieldLink RX5 149 "TailVectors$State" "made" "I", Cond.methodLink RX5 67 yX0_remember, Cond.instanceMethod yX0_remember, Cond.selects RX0 yX0_remember yX0_remember, Cond.initialized RX0, Cond.code yX0_remember cX0_remember 3 none, Cond.fieldLink RX0 18 "TailVectors$History" "many" "I", Cond.methodLink RX0 22 yX0_forgetOldest, Cond.instanceMethod yX0_forgetOldest, Cond.selects RX0 yX0_forgetOldest yX0_forgetOldest, Cond.code yX0_forgetOldest cX0_forgetOldest 3 none, Cond.fieldLink RX0 11 "TailVectors$History" "states" "[LTailVectors$State;", Cond.methodLink RX0 25 yX0_stateAt, Cond.instanceMethod yX0_stateAt, Cond.selects RX0 yX0_stateAt yX0_stateAt, Cond.code yX0_stateAt cX0_stateAt 2 (some (.object "TailVectors$State")), Cond.methodLink RX0 29 yX2_copyFrom, Cond.instanceMethod yX2_copyFrom, Cond.selects RX2 yX2_copyFrom yX2_copyFrom, Cond.initialized RX2]
def wsX5_restore_r2 : List Cond := [Cond.code yX2_copyFrom cX2_copyFrom 3 none, Cond.fieldLink RX2 11 "TailVectors$State" "views" "[LTailVectors$View;", Cond.fieldLink RX2 17 "TailVectors$State" "ever" "I", Cond.fieldLink RX2 21 "TailVectors$State" "made" "I", Cond.fieldLink RX2 24 "TailVectors$State" "editRow" "LTailVectors$Row;", Cond.fieldLink RX2 29 "TailVectors$State" "firstOwn" "I", Cond.methodLink RX5 146 yX2_copyFrom]
def wsX5_restore : List Cond := .code yX5_restore cX5_restore 1 (some .int) :: ((wsX5_restore_r1 ++ wsX5_restore_r2) ++ wsX50 ++ wsX20 ++ wsX00)
def wsX5_get : List Cond := .code yX5_get cX5_get 4 (some .int) :: ([.fieldLink RX5 10 "TailVectors" "now" "LTailVectors$State;", .methodLink RX5 51 yX2_viewOf, .instanceMethod yX2_viewOf, .selects RX2 yX2_viewOf yX2_viewOf, .initialized RX2, .code yX2_viewOf cX2_viewOf 2 (some (.object "TailVectors$View")), .fieldLink RX2 11 "TailVectors$State" "views" "[LTailVectors$View;", .methodLink RX5 89 yX4_shows, .instanceMethod yX4_shows, .selects RX4 yX4_shows yX4_shows, .initialized RX4, .code yX4_shows cX4_shows 2 (some .boolean), .fieldLink RX4 23 "TailVectors$View" "many" "I", .methodLink RX5 152 yX4_valueAt, .instanceMethod yX4_valueAt, .selects RX4 yX4_valueAt yX4_valueAt, .code yX4_valueAt cX4_valueAt 3 (some .int), .fieldLink RX4 19 "TailVectors$View" "first" "I", .fieldLink RX4 9 "TailVectors$View" "row" "LTailVectors$Row;", .fieldLink RX4 26 "TailVectors$Row" "values" "[I"] ++ wsX50 ++ wsX20 ++ wsX40 ++ wsX10)
def wsX5_vector_r1 : List Cond := [Cond.fieldLink RX5 10 "TailVectors" "now" "LTailVectors$State;", Cond.fieldLink RX5 86 "TailVectors$View" "many" "I", Cond.fieldLink RX5 79 "TailVectors$View" "window" "Z", Cond.fieldLink RX5 82 "TailVectors$View" "first" "I", Cond.fieldLink RX5 71 "TailVectors$View" "row" "LTailVectors$Row;", Cond.fieldLink RX5 109 "TailVectors$Row" "length" "I", Cond.methodLink RX5 51 yX2_viewOf, Cond.instanceMethod yX2_viewOf, Cond.selects RX2 yX2_viewOf yX2_viewOf, Cond.initialized RX2, Cond.code yX2_viewOf cX2_viewOf 2 (some (.object "TailVectors$View")), Cond.fieldLink RX2 11 "TailVectors$State" "views" "[LTailVectors$View;", Cond.methodLink RX5 156 yX1_leaves, Cond.instanceMethod yX1_leaves, Cond.selects RX1 yX1_leaves yX1_leaves, Cond.initialized RX1, Cond.code yX1_leaves cX1_leaves 1 (some .int), Cond.fieldLink RX1 33 "TailVectors$Row" "length" "I", Cond.methodLink RX5 159 yX1_blocks, Cond.instanceMethod yX1_blocks, Cond.selects RX1 yX1_blocks yX1_blocks, Cond.code yX1_blocks cX1_blocks 1 (some .int), Cond.methodLink RX1 78 yX1_blocksFrom, Cond.instanceMethod yX1_blocksFrom]
def wsX5_vector_r2 : List Cond := [Cond.selects RX1 yX1_blocksFrom yX1_blocksFrom, Cond.code yX1_blocksFrom cX1_blocksFrom 4 (some .int), Cond.fieldLink RX1 24 "TailVectors$Row" "numbers" "[I", Cond.methodLink RX5 162 yX5_rootLevel, Cond.static yX5_rootLevel, Cond.initialized RX5, Cond.code yX5_rootLevel cX5_rootLevel 2 (some .int), Cond.methodLink RX5 165 yX1_tail, Cond.instanceMethod yX1_tail, Cond.selects RX1 yX1_tail yX1_tail, Cond.code yX1_tail cX1_tail 1 (some .int), Cond.methodLink RX1 40 yX1_leaves, Cond.methodLink RX5 168 yX4_sum, Cond.instanceMethod yX4_sum, Cond.selects RX4 yX4_sum yX4_sum, Cond.initialized RX4, Cond.code yX4_sum cX4_sum 3 (some .int), Cond.fieldLink RX4 23 "TailVectors$View" "many" "I", Cond.methodLink RX4 32 yX4_valueAt, Cond.instanceMethod yX4_valueAt, Cond.selects RX4 yX4_valueAt yX4_valueAt, Cond.code yX4_valueAt cX4_valueAt 3 (some .int), Cond.fieldLink RX4 19 "TailVectors$View" "first" "I", Cond.fieldLink RX4 9 "TailVectors$View" "row" "LTailVectors$Row;"]
def wsX5_vector_r3 : List Cond := [Cond.fieldLink RX4 26 "TailVectors$Row" "values" "[I", Cond.methodLink RX5 171 yX4_greatest, Cond.instanceMethod yX4_greatest, Cond.selects RX4 yX4_greatest yX4_greatest, Cond.code yX4_greatest cX4_greatest 3 (some .int), Cond.methodLink RX4 36 Lib.Math.max.name, Cond.static Lib.Math.max.name, Cond.initialized "java/lang/Math", Cond.code Lib.Math.max.name Lib.Math.max.code 2 (some .int)]
def wsX5_vector : List Cond := .code yX5_vector cX5_vector 4 (some .int) :: ((wsX5_vector_r1 ++ (wsX5_vector_r2 ++ wsX5_vector_r3)) ++ wsX50 ++ wsX40 ++ wsX10 ++ wsX20)
def wsX5_block : List Cond := .code yX5_block cX5_block 5 (some .int) :: ([.fieldLink RX5 10 "TailVectors" "now" "LTailVectors$State;", .fieldLink RX5 71 "TailVectors$View" "row" "LTailVectors$Row;", .methodLink RX5 51 yX2_viewOf, .instanceMethod yX2_viewOf, .selects RX2 yX2_viewOf yX2_viewOf, .initialized RX2, .code yX2_viewOf cX2_viewOf 2 (some (.object "TailVectors$View")), .fieldLink RX2 11 "TailVectors$State" "views" "[LTailVectors$View;", .methodLink RX5 174 yX1_numberAt, .instanceMethod yX1_numberAt, .selects RX1 yX1_numberAt yX1_numberAt, .initialized RX1, .code yX1_numberAt cX1_numberAt 4 (some .int), .fieldLink RX1 24 "TailVectors$Row" "numbers" "[I", .methodLink RX1 47 yX1_slotOf, .static yX1_slotOf, .code yX1_slotOf cX1_slotOf 3 (some .int)] ++ wsX50 ++ wsX40 ++ wsX20 ++ wsX10)
def wsX5_shared : List Cond := .code yX5_shared cX5_shared 5 (some .int) :: ([.fieldLink RX5 10 "TailVectors" "now" "LTailVectors$State;", .fieldLink RX5 71 "TailVectors$View" "row" "LTailVectors$Row;", .methodLink RX5 51 yX2_viewOf, .instanceMethod yX2_viewOf, .selects RX2 yX2_viewOf yX2_viewOf, .initialized RX2, .code yX2_viewOf cX2_viewOf 2 (some (.object "TailVectors$View")), .fieldLink RX2 11 "TailVectors$State" "views" "[LTailVectors$View;", .methodLink RX5 178 yX1_sharedWith, .instanceMethod yX1_sharedWith, .selects RX1 yX1_sharedWith yX1_sharedWith, .initialized RX1, .code yX1_sharedWith cX1_sharedWith 4 (some .int), .fieldLink RX1 24 "TailVectors$Row" "numbers" "[I", .methodLink RX1 81 yX1_has, .instanceMethod yX1_has, .selects RX1 yX1_has yX1_has, .code yX1_has cX1_has 3 (some .boolean)] ++ wsX50 ++ wsX40 ++ wsX20 ++ wsX10)
def wsX5_differ : List Cond := .code yX5_differ cX5_differ 5 (some .int) :: ([.fieldLink RX5 10 "TailVectors" "now" "LTailVectors$State;", .methodLink RX5 51 yX2_viewOf, .instanceMethod yX2_viewOf, .selects RX2 yX2_viewOf yX2_viewOf, .initialized RX2, .code yX2_viewOf cX2_viewOf 2 (some (.object "TailVectors$View")), .fieldLink RX2 11 "TailVectors$State" "views" "[LTailVectors$View;", .methodLink RX5 181 yX4_firstDifference, .instanceMethod yX4_firstDifference, .selects RX4 yX4_firstDifference yX4_firstDifference, .initialized RX4, .code yX4_firstDifference cX4_firstDifference 4 (some .int), .fieldLink RX4 23 "TailVectors$View" "many" "I", .methodLink RX4 42 Lib.Math.min.name, .static Lib.Math.min.name, .initialized "java/lang/Math", .code Lib.Math.min.name Lib.Math.min.code 2 (some .int), .methodLink RX4 32 yX4_valueAt, .instanceMethod yX4_valueAt, .selects RX4 yX4_valueAt yX4_valueAt, .code yX4_valueAt cX4_valueAt 3 (some .int), .fieldLink RX4 19 "TailVectors$View" "first" "I", .fieldLink RX4 9 "TailVectors$View" "row" "LTailVectors$Row;", .fieldLink RX4 26 "TailVectors$Row" "values" "[I"] ++ wsX50 ++ wsX20 ++ wsX40 ++ wsX10)
def wsX5_find : List Cond := .code yX5_find cX5_find 5 (some .int) :: ([.fieldLink RX5 10 "TailVectors" "now" "LTailVectors$State;", .methodLink RX5 51 yX2_viewOf, .instanceMethod yX2_viewOf, .selects RX2 yX2_viewOf yX2_viewOf, .initialized RX2, .code yX2_viewOf cX2_viewOf 2 (some (.object "TailVectors$View")), .fieldLink RX2 11 "TailVectors$State" "views" "[LTailVectors$View;", .methodLink RX5 184 yX4_placeOf, .instanceMethod yX4_placeOf, .selects RX4 yX4_placeOf yX4_placeOf, .initialized RX4, .code yX4_placeOf cX4_placeOf 4 (some .int), .fieldLink RX4 23 "TailVectors$View" "many" "I", .methodLink RX4 32 yX4_valueAt, .instanceMethod yX4_valueAt, .selects RX4 yX4_valueAt yX4_valueAt, .code yX4_valueAt cX4_valueAt 3 (some .int), .fieldLink RX4 19 "TailVectors$View" "first" "I", .fieldLink RX4 9 "TailVectors$View" "row" "LTailVectors$Row;", .fieldLink RX4 26 "TailVectors$Row" "values" "[I"] ++ wsX50 ++ wsX20 ++ wsX40 ++ wsX10)
def wsX5_wouldMake_r1 : List Cond := [Cond.fieldLink RX5 10 "TailVectors" "now" "LTailVectors$State;", Cond.fieldLink RX5 71 "TailVectors$View" "row" "LTailVectors$Row;", Cond.fieldLink RX5 109 "TailVectors$Row" "length" "I", Cond.fieldLink RX5 79 "TailVectors$View" "window" "Z", Cond.fieldLink RX5 149 "TailVectors$State" "made" "I", Cond.constant RX5 191 (2147483647), Cond.methodLink RX5 51 yX2_viewOf, Cond.instanceMethod yX2_viewOf, Cond.selects RX2 yX2_viewOf yX2_viewOf, Cond.initialized RX2, Cond.code yX2_viewOf cX2_viewOf 2 (some (.object "TailVectors$View")), Cond.fieldLink RX2 11 "TailVectors$State" "views" "[LTailVectors$View;", Cond.methodLink RX5 187 yX1_copy, Cond.instanceMethod yX1_copy, Cond.selects RX1 yX1_copy yX1_copy, Cond.initialized RX1, Cond.code yX1_copy cX1_copy 5 (some (.object "TailVectors$Row")), Cond.classLink RX1 19 RX1, Cond.instantiable RX1 3, Cond.fieldLink RX1 33 "TailVectors$Row" "length" "I", Cond.fieldLink RX1 18 "TailVectors$Row" "values" "[I", Cond.methodLink RX1 9 Lib.Math.min.name, Cond.static Lib.Math.min.name, Cond.initialized "java/lang/Math"]
def wsX5_wouldMake_r2 : List Cond := [Cond.code Lib.Math.min.name Lib.Math.min.code 2 (some .int), Cond.fieldLink RX1 24 "TailVectors$Row" "numbers" "[I", Cond.methodLink RX1 37 yX1_init, Cond.instanceMethod yX1_init, Cond.code yX1_init cX1_init 2 none, Cond.methodLink RX1 3 objectInit, Cond.instanceMethod objectInit, Cond.code objectInit ⟨#[0xb1]⟩ 1 none, Cond.methodLink RX1 15 Lib.Math.max.name, Cond.static Lib.Math.max.name, Cond.code Lib.Math.max.name Lib.Math.max.code 2 (some .int), Cond.arrayClass .int, Cond.methodLink RX1 27 yJ7_fill_53178, Cond.static yJ7_fill_53178, Cond.initialized RJ7, Cond.code yJ7_fill_53178 cJ7_fill_53178 4 none, Cond.methodLink RX5 192 yX1_write, Cond.instanceMethod yX1_write, Cond.selects RX1 yX1_write yX1_write, Cond.code yX1_write cX1_write 6 (some .int), Cond.methodLink RX1 50 yX1_tail, Cond.instanceMethod yX1_tail, Cond.selects RX1 yX1_tail yX1_tail, Cond.code yX1_tail cX1_tail 1 (some .int)]
def wsX5_wouldMake_r3 : List Cond := [Cond.methodLink RX1 40 yX1_leaves, Cond.instanceMethod yX1_leaves, Cond.selects RX1 yX1_leaves yX1_leaves, Cond.code yX1_leaves cX1_leaves 1 (some .int), Cond.methodLink RX1 53 yX1_hangTail, Cond.instanceMethod yX1_hangTail, Cond.selects RX1 yX1_hangTail yX1_hangTail, Cond.code yX1_hangTail cX1_hangTail 4 (some .int), Cond.static yX5_rootLevel, Cond.initialized RX5, Cond.code yX5_rootLevel cX5_rootLevel 2 (some .int), Cond.methodLink RX1 60 yX1_makePath, Cond.instanceMethod yX1_makePath, Cond.selects RX1 yX1_makePath yX1_makePath, Cond.code yX1_makePath cX1_makePath 7 (some .int), Cond.methodLink RX1 47 yX1_slotOf, Cond.static yX1_slotOf, Cond.code yX1_slotOf cX1_slotOf 3 (some .int), Cond.methodLink RX1 64 yX1_makeBlock, Cond.instanceMethod yX1_makeBlock, Cond.selects RX1 yX1_makeBlock yX1_makeBlock, Cond.code yX1_makeBlock cX1_makeBlock 4 (some .int), Cond.methodLink RX5 196 yX1_removeLast, Cond.instanceMethod yX1_removeLast]
def wsX5_wouldMake_r4 : List Cond := [Cond.selects RX1 yX1_removeLast yX1_removeLast, Cond.code yX1_removeLast cX1_removeLast 4 (some .int), Cond.methodLink RX1 68 yX1_takeLastLeaf, Cond.instanceMethod yX1_takeLastLeaf, Cond.selects RX1 yX1_takeLastLeaf yX1_takeLastLeaf, Cond.code yX1_takeLastLeaf cX1_takeLastLeaf 9 (some .int), Cond.methodLink RX1 71 yX1_isFirstLeafOfBlock, Cond.static yX1_isFirstLeafOfBlock, Cond.code yX1_isFirstLeafOfBlock cX1_isFirstLeafOfBlock 2 (some .boolean), Cond.methodLink RX1 75 yX1_removeBlock, Cond.instanceMethod yX1_removeBlock, Cond.selects RX1 yX1_removeBlock yX1_removeBlock, Cond.code yX1_removeBlock cX1_removeBlock 2 none]
def wsX5_wouldMake : List Cond := .code yX5_wouldMake cX5_wouldMake 6 (some .int) :: ((wsX5_wouldMake_r1 ++ (wsX5_wouldMake_r2 ++ (wsX5_wouldMake_r3 ++ wsX5_wouldMake_r4))) ++ wsX50 ++ wsX40 ++ wsX10 ++ wsX20)
def wsX5_edit_r1 : List Cond := [Cond.fieldLink RX5 10 "TailVectors" "now" "LTailVectors$State;", Cond.fieldLink RX5 102 "TailVectors$State" "editRow" "LTailVectors$Row;", Cond.fieldLink RX5 109 "TailVectors$Row" "length" "I", Cond.fieldLink RX5 199 "TailVectors$State" "firstOwn" "I", Cond.methodLink RX5 202 yX1_blocksFrom, Cond.instanceMethod yX1_blocksFrom, Cond.selects RX1 yX1_blocksFrom yX1_blocksFrom, Cond.initialized RX1, Cond.code yX1_blocksFrom cX1_blocksFrom 4 (some .int), Cond.fieldLink RX1 24 "TailVectors$Row" "numbers" "[I", Cond.methodLink RX5 159 yX1_blocks, Cond.instanceMethod yX1_blocks, Cond.selects RX1 yX1_blocks yX1_blocks, Cond.code yX1_blocks cX1_blocks 1 (some .int), Cond.methodLink RX1 78 yX1_blocksFrom, Cond.methodLink RX5 205 yX2_blocksNotIn, Cond.instanceMethod yX2_blocksNotIn, Cond.selects RX2 yX2_blocksNotIn yX2_blocksNotIn, Cond.initialized RX2, Cond.code yX2_blocksNotIn cX2_blocksNotIn 6 (some .int), Cond.fieldLink RX2 70 "TailVectors$Row" "numbers" "[I", Cond.methodLink RX2 74 yX2_isInOne, Cond.instanceMethod yX2_isInOne, Cond.selects RX2 yX2_isInOne yX2_isInOne]
def wsX5_edit_r2 : List Cond := [Cond.code yX2_isInOne cX2_isInOne 6 (some .boolean), Cond.methodLink RX2 63 yX2_rowAt, Cond.instanceMethod yX2_rowAt, Cond.selects RX2 yX2_rowAt yX2_rowAt, Cond.code yX2_rowAt cX2_rowAt 3 (some (.object "TailVectors$Row")), Cond.fieldLink RX2 60 "TailVectors$View" "row" "LTailVectors$Row;", Cond.fieldLink RX2 24 "TailVectors$State" "editRow" "LTailVectors$Row;", Cond.methodLink RX2 56 yX2_viewOf, Cond.instanceMethod yX2_viewOf, Cond.selects RX2 yX2_viewOf yX2_viewOf, Cond.code yX2_viewOf cX2_viewOf 2 (some (.object "TailVectors$View")), Cond.fieldLink RX2 11 "TailVectors$State" "views" "[LTailVectors$View;", Cond.methodLink RX2 78 yX1_has, Cond.instanceMethod yX1_has, Cond.selects RX1 yX1_has yX1_has, Cond.code yX1_has cX1_has 3 (some .boolean), Cond.methodLink RX5 156 yX1_leaves, Cond.instanceMethod yX1_leaves, Cond.selects RX1 yX1_leaves yX1_leaves, Cond.code yX1_leaves cX1_leaves 1 (some .int), Cond.fieldLink RX1 33 "TailVectors$Row" "length" "I", Cond.methodLink RX5 162 yX5_rootLevel, Cond.static yX5_rootLevel, Cond.initialized RX5]
def wsX5_edit_r3 : List Cond := [Cond.code yX5_rootLevel cX5_rootLevel 2 (some .int), Cond.methodLink RX5 174 yX1_numberAt, Cond.instanceMethod yX1_numberAt, Cond.selects RX1 yX1_numberAt yX1_numberAt, Cond.code yX1_numberAt cX1_numberAt 4 (some .int), Cond.methodLink RX1 47 yX1_slotOf, Cond.static yX1_slotOf, Cond.code yX1_slotOf cX1_slotOf 3 (some .int)]
def wsX5_edit : List Cond := .code yX5_edit cX5_edit 3 (some .int) :: ((wsX5_edit_r1 ++ (wsX5_edit_r2 ++ wsX5_edit_r3)) ++ wsX50 ++ wsX20 ++ wsX10 ++ wsX40)
def wsX5_count_r1 : List Cond := [Cond.fieldLink RX5 10 "TailVectors" "now" "LTailVectors$State;", Cond.fieldLink RX5 209 "TailVectors$State" "ever" "I", Cond.fieldLink RX5 149 "TailVectors$State" "made" "I", Cond.fieldLink RX5 102 "TailVectors$State" "editRow" "LTailVectors$Row;", Cond.fieldLink RX5 26 "TailVectors" "history" "LTailVectors$History;", Cond.fieldLink RX5 142 "TailVectors$History" "many" "I", Cond.fieldLink RX5 33 "TailVectors" "text" "LTailVectors$Text;", Cond.fieldLink RX5 138 "TailVectors$Text" "length" "I", Cond.methodLink RX5 99 yX2_viewsLeft, Cond.instanceMethod yX2_viewsLeft, Cond.selects RX2 yX2_viewsLeft yX2_viewsLeft, Cond.initialized RX2, Cond.code yX2_viewsLeft cX2_viewsLeft 3 (some .int), Cond.fieldLink RX2 11 "TailVectors$State" "views" "[LTailVectors$View;", Cond.methodLink RX5 212 yX2_blocksInUse, Cond.instanceMethod yX2_blocksInUse, Cond.selects RX2 yX2_blocksInUse yX2_blocksInUse, Cond.code yX2_blocksInUse cX2_blocksInUse 4 (some .int), Cond.methodLink RX2 63 yX2_rowAt, Cond.instanceMethod yX2_rowAt, Cond.selects RX2 yX2_rowAt yX2_rowAt, Cond.code yX2_rowAt cX2_rowAt 3 (some (.object "TailVectors$Row")), Cond.fieldLink RX2 60 "TailVectors$View" "row" "LTailVectors$Row;", Cond.fieldLink RX2 24 "TailVectors$State" "editRow" "LTailVectors$Row;"]
def wsX5_count_r2 : List Cond := [Cond.methodLink RX2 56 yX2_viewOf, Cond.instanceMethod yX2_viewOf, Cond.selects RX2 yX2_viewOf yX2_viewOf, Cond.code yX2_viewOf cX2_viewOf 2 (some (.object "TailVectors$View")), Cond.methodLink RX2 66 yX2_blocksNotIn, Cond.instanceMethod yX2_blocksNotIn, Cond.selects RX2 yX2_blocksNotIn yX2_blocksNotIn, Cond.code yX2_blocksNotIn cX2_blocksNotIn 6 (some .int), Cond.fieldLink RX2 70 "TailVectors$Row" "numbers" "[I", Cond.methodLink RX2 74 yX2_isInOne, Cond.instanceMethod yX2_isInOne, Cond.selects RX2 yX2_isInOne yX2_isInOne, Cond.code yX2_isInOne cX2_isInOne 6 (some .boolean), Cond.methodLink RX2 78 yX1_has, Cond.instanceMethod yX1_has, Cond.selects RX1 yX1_has yX1_has, Cond.initialized RX1, Cond.code yX1_has cX1_has 3 (some .boolean), Cond.fieldLink RX1 24 "TailVectors$Row" "numbers" "[I", Cond.methodLink RX5 215 yX2_valuesShown, Cond.instanceMethod yX2_valuesShown, Cond.selects RX2 yX2_valuesShown yX2_valuesShown, Cond.code yX2_valuesShown cX2_valuesShown 4 (some .int), Cond.fieldLink RX2 32 "TailVectors$View" "many" "I"]
def wsX5_count : List Cond := .code yX5_count cX5_count 2 (some .int) :: ((wsX5_count_r1 ++ wsX5_count_r2) ++ wsX50 ++ wsX20 ++ wsX00 ++ wsX30 ++ wsX40 ++ wsX10)
def wsX6_init : List Cond := .code yX6_init cX6_init 1 none :: ([.methodLink RX6 1 objectInit, .instanceMethod objectInit, .code objectInit ⟨#[0xb1]⟩ 1 none, .arrayClass .int, .fieldLink RX6 7 "TailVectorsModel" "now" "[I", .constant RX6 13 (41104), .fieldLink RX6 14 "TailVectorsModel" "history" "[I", .fieldLink RX6 17 "TailVectorsModel" "slot" "[I", .arrayClass .char, .fieldLink RX6 20 "TailVectorsModel" "text" "[C"] ++ wsX60)
def wsX6_in : List Cond := .code yX6_in cX6_in 3 (some .boolean) :: ([])
def wsX6_no : List Cond := .code yX6_no cX6_no 2 (some .boolean) :: ([.fieldLink RX6 7 "TailVectorsModel" "now" "[I", .methodLink RX6 24 yX6_in, .static yX6_in, .initialized RX6, .code yX6_in cX6_in 3 (some .boolean)] ++ wsX60)
def wsX6_isWindow : List Cond := .code yX6_isWindow cX6_isWindow 2 (some .boolean) :: ([.fieldLink RX6 7 "TailVectorsModel" "now" "[I"] ++ wsX60)
def wsX6_first : List Cond := .code yX6_first cX6_first 2 (some .int) :: ([.fieldLink RX6 7 "TailVectorsModel" "now" "[I"] ++ wsX60)
def wsX6_rowLength : List Cond := .code yX6_rowLength cX6_rowLength 2 (some .int) :: ([.fieldLink RX6 7 "TailVectorsModel" "now" "[I"] ++ wsX60)
def wsX6_length : List Cond := .code yX6_length cX6_length 2 (some .int) :: ([.fieldLink RX6 7 "TailVectorsModel" "now" "[I", .methodLink RX6 28 yX6_isWindow, .instanceMethod yX6_isWindow, .selects RX6 yX6_isWindow yX6_isWindow, .initialized RX6, .code yX6_isWindow cX6_isWindow 2 (some .boolean), .methodLink RX6 32 yX6_rowLength, .instanceMethod yX6_rowLength, .selects RX6 yX6_rowLength yX6_rowLength, .code yX6_rowLength cX6_rowLength 2 (some .int)] ++ wsX60)
def wsX6_value : List Cond := .code yX6_value cX6_value 3 (some .int) :: ([.fieldLink RX6 7 "TailVectorsModel" "now" "[I", .methodLink RX6 36 yX6_first, .instanceMethod yX6_first, .selects RX6 yX6_first yX6_first, .initialized RX6, .code yX6_first cX6_first 2 (some .int)] ++ wsX60)
def wsX6_record : List Cond := .code yX6_record cX6_record 2 none :: ([.fieldLink RX6 39 "TailVectorsModel" "kept" "I", .fieldLink RX6 14 "TailVectorsModel" "history" "[I", .fieldLink RX6 7 "TailVectorsModel" "now" "[I"] ++ wsX60)
def wsX6_leaves : List Cond := .code yX6_leaves cX6_leaves 1 (some .int) :: ([])
def wsX6_power : List Cond := .code yX6_power cX6_power 1 (some .int) :: ([])
def wsX6_rootLevel : List Cond := .code yX6_rootLevel cX6_rootLevel 2 (some .int) :: ([.methodLink RX6 46 yX6_power, .static yX6_power, .initialized RX6, .code yX6_power cX6_power 1 (some .int)])
def wsX6_blocks : List Cond := .code yX6_blocks cX6_blocks 2 (some .int) :: ([.methodLink RX6 43 yX6_rootLevel, .static yX6_rootLevel, .initialized RX6, .code yX6_rootLevel cX6_rootLevel 2 (some .int), .methodLink RX6 46 yX6_power, .static yX6_power, .code yX6_power cX6_power 1 (some .int)])
def wsX6_allBlocks : List Cond := .code yX6_allBlocks cX6_allBlocks 3 (some .int) :: ([.methodLink RX6 49 yX6_blocks, .static yX6_blocks, .initialized RX6, .code yX6_blocks cX6_blocks 2 (some .int), .methodLink RX6 43 yX6_rootLevel, .static yX6_rootLevel, .code yX6_rootLevel cX6_rootLevel 2 (some .int), .methodLink RX6 46 yX6_power, .static yX6_power, .code yX6_power cX6_power 1 (some .int)])
def wsX6_begins : List Cond := .code yX6_begins cX6_begins 1 (some .int) :: ([])
def wsX6_id : List Cond := .code yX6_id cX6_id 4 (some .int) :: ([.fieldLink RX6 7 "TailVectorsModel" "now" "[I", .methodLink RX6 53 yX6_begins, .static yX6_begins, .initialized RX6, .code yX6_begins cX6_begins 1 (some .int)] ++ wsX60)
def wsX6_makes : List Cond := .code yX6_makes cX6_makes 6 none :: ([.fieldLink RX6 7 "TailVectorsModel" "now" "[I", .methodLink RX6 53 yX6_begins, .static yX6_begins, .initialized RX6, .code yX6_begins cX6_begins 1 (some .int)] ++ wsX60)
def wsX6_pushes_r1 : List Cond := [Cond.fieldLink RX6 7 "TailVectorsModel" "now" "[I", Cond.methodLink RX6 32 yX6_rowLength, Cond.instanceMethod yX6_rowLength, Cond.selects RX6 yX6_rowLength yX6_rowLength, Cond.initialized RX6, Cond.code yX6_rowLength cX6_rowLength 2 (some .int), Cond.methodLink RX6 56 yX6_leaves, Cond.static yX6_leaves, Cond.code yX6_leaves cX6_leaves 1 (some .int), Cond.methodLink RX6 59 yX6_makes, Cond.instanceMethod yX6_makes, Cond.selects RX6 yX6_makes yX6_makes, Cond.code yX6_makes cX6_makes 6 none, Cond.methodLink RX6 53 yX6_begins, Cond.static yX6_begins, Cond.code yX6_begins cX6_begins 1 (some .int), Cond.methodLink RX6 43 yX6_rootLevel, Cond.static yX6_rootLevel, Cond.code yX6_rootLevel cX6_rootLevel 2 (some .int), Cond.methodLink RX6 46 yX6_power, Cond.static yX6_power, Cond.code yX6_power cX6_power 1 (some .int), Cond.methodLink RX6 49 yX6_blocks, Cond.static yX6_blocks]
def wsX6_pushes_r2 : List Cond := [Cond.code yX6_blocks cX6_blocks 2 (some .int)]
def wsX6_pushes : List Cond := .code yX6_pushes cX6_pushes 8 none :: ((wsX6_pushes_r1 ++ wsX6_pushes_r2) ++ wsX60)
def wsX6_sets : List Cond := .code yX6_sets cX6_sets 7 none :: ([.fieldLink RX6 7 "TailVectorsModel" "now" "[I", .methodLink RX6 32 yX6_rowLength, .instanceMethod yX6_rowLength, .selects RX6 yX6_rowLength yX6_rowLength, .initialized RX6, .code yX6_rowLength cX6_rowLength 2 (some .int), .methodLink RX6 56 yX6_leaves, .static yX6_leaves, .code yX6_leaves cX6_leaves 1 (some .int), .methodLink RX6 43 yX6_rootLevel, .static yX6_rootLevel, .code yX6_rootLevel cX6_rootLevel 2 (some .int), .methodLink RX6 46 yX6_power, .static yX6_power, .code yX6_power cX6_power 1 (some .int), .methodLink RX6 59 yX6_makes, .instanceMethod yX6_makes, .selects RX6 yX6_makes yX6_makes, .code yX6_makes cX6_makes 6 none, .methodLink RX6 53 yX6_begins, .static yX6_begins, .code yX6_begins cX6_begins 1 (some .int)] ++ wsX60)
def wsX6_pops_r1 : List Cond := [Cond.fieldLink RX6 7 "TailVectorsModel" "now" "[I", Cond.methodLink RX6 32 yX6_rowLength, Cond.instanceMethod yX6_rowLength, Cond.selects RX6 yX6_rowLength yX6_rowLength, Cond.initialized RX6, Cond.code yX6_rowLength cX6_rowLength 2 (some .int), Cond.methodLink RX6 56 yX6_leaves, Cond.static yX6_leaves, Cond.code yX6_leaves cX6_leaves 1 (some .int), Cond.methodLink RX6 43 yX6_rootLevel, Cond.static yX6_rootLevel, Cond.code yX6_rootLevel cX6_rootLevel 2 (some .int), Cond.methodLink RX6 46 yX6_power, Cond.static yX6_power, Cond.code yX6_power cX6_power 1 (some .int), Cond.methodLink RX6 49 yX6_blocks, Cond.static yX6_blocks, Cond.code yX6_blocks cX6_blocks 2 (some .int), Cond.methodLink RX6 59 yX6_makes, Cond.instanceMethod yX6_makes, Cond.selects RX6 yX6_makes yX6_makes, Cond.code yX6_makes cX6_makes 6 none, Cond.methodLink RX6 53 yX6_begins, Cond.static yX6_begins]
def wsX6_pops_r2 : List Cond := [Cond.code yX6_begins cX6_begins 1 (some .int)]
def wsX6_pops : List Cond := .code yX6_pops cX6_pops 7 none :: ((wsX6_pops_r1 ++ wsX6_pops_r2) ++ wsX60)
def wsX6_isFull : List Cond := .code yX6_isFull cX6_isFull 1 (some .boolean) :: ([.fieldLink RX6 7 "TailVectorsModel" "now" "[I"] ++ wsX60)
def wsX6_copies : List Cond := .code yX6_copies cX6_copies 4 none :: ([.fieldLink RX6 7 "TailVectorsModel" "now" "[I"] ++ wsX60)
def wsX6_comes : List Cond := .code yX6_comes cX6_comes 6 (some .int) :: ([.fieldLink RX6 7 "TailVectorsModel" "now" "[I", .methodLink RX6 63 yX6_copies, .instanceMethod yX6_copies, .selects RX6 yX6_copies yX6_copies, .initialized RX6, .code yX6_copies cX6_copies 4 none] ++ wsX60)
def wsX6_push_r1 : List Cond := [Cond.methodLink RX6 67 yX6_no, Cond.instanceMethod yX6_no, Cond.selects RX6 yX6_no yX6_no, Cond.initialized RX6, Cond.code yX6_no cX6_no 2 (some .boolean), Cond.fieldLink RX6 7 "TailVectorsModel" "now" "[I", Cond.methodLink RX6 24 yX6_in, Cond.static yX6_in, Cond.code yX6_in cX6_in 3 (some .boolean), Cond.methodLink RX6 36 yX6_first, Cond.instanceMethod yX6_first, Cond.selects RX6 yX6_first yX6_first, Cond.code yX6_first cX6_first 2 (some .int), Cond.methodLink RX6 70 yX6_length, Cond.instanceMethod yX6_length, Cond.selects RX6 yX6_length yX6_length, Cond.code yX6_length cX6_length 2 (some .int), Cond.methodLink RX6 28 yX6_isWindow, Cond.instanceMethod yX6_isWindow, Cond.selects RX6 yX6_isWindow yX6_isWindow, Cond.code yX6_isWindow cX6_isWindow 2 (some .boolean), Cond.methodLink RX6 32 yX6_rowLength, Cond.instanceMethod yX6_rowLength, Cond.selects RX6 yX6_rowLength yX6_rowLength]
def wsX6_push_r2 : List Cond := [Cond.code yX6_rowLength cX6_rowLength 2 (some .int), Cond.methodLink RX6 73 yX6_isFull, Cond.instanceMethod yX6_isFull, Cond.selects RX6 yX6_isFull yX6_isFull, Cond.code yX6_isFull cX6_isFull 1 (some .boolean), Cond.methodLink RX6 77 yX6_record, Cond.instanceMethod yX6_record, Cond.selects RX6 yX6_record yX6_record, Cond.code yX6_record cX6_record 2 none, Cond.fieldLink RX6 39 "TailVectorsModel" "kept" "I", Cond.fieldLink RX6 14 "TailVectorsModel" "history" "[I", Cond.methodLink RX6 80 yX6_comes, Cond.instanceMethod yX6_comes, Cond.selects RX6 yX6_comes yX6_comes, Cond.code yX6_comes cX6_comes 6 (some .int), Cond.methodLink RX6 63 yX6_copies, Cond.instanceMethod yX6_copies, Cond.selects RX6 yX6_copies yX6_copies, Cond.code yX6_copies cX6_copies 4 none, Cond.methodLink RX6 84 yX6_pushes, Cond.instanceMethod yX6_pushes, Cond.selects RX6 yX6_pushes yX6_pushes, Cond.code yX6_pushes cX6_pushes 8 none, Cond.methodLink RX6 56 yX6_leaves]
def wsX6_push_r3 : List Cond := [Cond.static yX6_leaves, Cond.code yX6_leaves cX6_leaves 1 (some .int), Cond.methodLink RX6 59 yX6_makes, Cond.instanceMethod yX6_makes, Cond.selects RX6 yX6_makes yX6_makes, Cond.code yX6_makes cX6_makes 6 none, Cond.methodLink RX6 53 yX6_begins, Cond.static yX6_begins, Cond.code yX6_begins cX6_begins 1 (some .int), Cond.methodLink RX6 43 yX6_rootLevel, Cond.static yX6_rootLevel, Cond.code yX6_rootLevel cX6_rootLevel 2 (some .int), Cond.methodLink RX6 46 yX6_power, Cond.static yX6_power, Cond.code yX6_power cX6_power 1 (some .int), Cond.methodLink RX6 49 yX6_blocks, Cond.static yX6_blocks, Cond.code yX6_blocks cX6_blocks 2 (some .int), Cond.methodLink RX6 87 yX6_sets, Cond.instanceMethod yX6_sets, Cond.selects RX6 yX6_sets yX6_sets, Cond.code yX6_sets cX6_sets 7 none]
def wsX6_push : List Cond := .code yX6_push cX6_push 6 (some .int) :: ((wsX6_push_r1 ++ (wsX6_push_r2 ++ wsX6_push_r3)) ++ wsX60)
def wsX6_set_r1 : List Cond := [Cond.methodLink RX6 67 yX6_no, Cond.instanceMethod yX6_no, Cond.selects RX6 yX6_no yX6_no, Cond.initialized RX6, Cond.code yX6_no cX6_no 2 (some .boolean), Cond.fieldLink RX6 7 "TailVectorsModel" "now" "[I", Cond.methodLink RX6 24 yX6_in, Cond.static yX6_in, Cond.code yX6_in cX6_in 3 (some .boolean), Cond.methodLink RX6 70 yX6_length, Cond.instanceMethod yX6_length, Cond.selects RX6 yX6_length yX6_length, Cond.code yX6_length cX6_length 2 (some .int), Cond.methodLink RX6 28 yX6_isWindow, Cond.instanceMethod yX6_isWindow, Cond.selects RX6 yX6_isWindow yX6_isWindow, Cond.code yX6_isWindow cX6_isWindow 2 (some .boolean), Cond.methodLink RX6 32 yX6_rowLength, Cond.instanceMethod yX6_rowLength, Cond.selects RX6 yX6_rowLength yX6_rowLength, Cond.code yX6_rowLength cX6_rowLength 2 (some .int), Cond.methodLink RX6 73 yX6_isFull, Cond.instanceMethod yX6_isFull, Cond.selects RX6 yX6_isFull yX6_isFull]
def wsX6_set_r2 : List Cond := [Cond.code yX6_isFull cX6_isFull 1 (some .boolean), Cond.methodLink RX6 77 yX6_record, Cond.instanceMethod yX6_record, Cond.selects RX6 yX6_record yX6_record, Cond.code yX6_record cX6_record 2 none, Cond.fieldLink RX6 39 "TailVectorsModel" "kept" "I", Cond.fieldLink RX6 14 "TailVectorsModel" "history" "[I", Cond.methodLink RX6 36 yX6_first, Cond.instanceMethod yX6_first, Cond.selects RX6 yX6_first yX6_first, Cond.code yX6_first cX6_first 2 (some .int), Cond.methodLink RX6 80 yX6_comes, Cond.instanceMethod yX6_comes, Cond.selects RX6 yX6_comes yX6_comes, Cond.code yX6_comes cX6_comes 6 (some .int), Cond.methodLink RX6 63 yX6_copies, Cond.instanceMethod yX6_copies, Cond.selects RX6 yX6_copies yX6_copies, Cond.code yX6_copies cX6_copies 4 none, Cond.methodLink RX6 87 yX6_sets, Cond.instanceMethod yX6_sets, Cond.selects RX6 yX6_sets yX6_sets, Cond.code yX6_sets cX6_sets 7 none, Cond.methodLink RX6 56 yX6_leaves]
def wsX6_set_r3 : List Cond := [Cond.static yX6_leaves, Cond.code yX6_leaves cX6_leaves 1 (some .int), Cond.methodLink RX6 43 yX6_rootLevel, Cond.static yX6_rootLevel, Cond.code yX6_rootLevel cX6_rootLevel 2 (some .int), Cond.methodLink RX6 46 yX6_power, Cond.static yX6_power, Cond.code yX6_power cX6_power 1 (some .int), Cond.methodLink RX6 59 yX6_makes, Cond.instanceMethod yX6_makes, Cond.selects RX6 yX6_makes yX6_makes, Cond.code yX6_makes cX6_makes 6 none, Cond.methodLink RX6 53 yX6_begins, Cond.static yX6_begins, Cond.code yX6_begins cX6_begins 1 (some .int)]
def wsX6_set : List Cond := .code yX6_set cX6_set 5 (some .int) :: ((wsX6_set_r1 ++ (wsX6_set_r2 ++ wsX6_set_r3)) ++ wsX60)
def wsX6_pop_r1 : List Cond := [Cond.methodLink RX6 67 yX6_no, Cond.instanceMethod yX6_no, Cond.selects RX6 yX6_no yX6_no, Cond.initialized RX6, Cond.code yX6_no cX6_no 2 (some .boolean), Cond.fieldLink RX6 7 "TailVectorsModel" "now" "[I", Cond.methodLink RX6 24 yX6_in, Cond.static yX6_in, Cond.code yX6_in cX6_in 3 (some .boolean), Cond.methodLink RX6 70 yX6_length, Cond.instanceMethod yX6_length, Cond.selects RX6 yX6_length yX6_length, Cond.code yX6_length cX6_length 2 (some .int), Cond.methodLink RX6 28 yX6_isWindow, Cond.instanceMethod yX6_isWindow, Cond.selects RX6 yX6_isWindow yX6_isWindow, Cond.code yX6_isWindow cX6_isWindow 2 (some .boolean), Cond.methodLink RX6 32 yX6_rowLength, Cond.instanceMethod yX6_rowLength, Cond.selects RX6 yX6_rowLength yX6_rowLength, Cond.code yX6_rowLength cX6_rowLength 2 (some .int), Cond.methodLink RX6 73 yX6_isFull, Cond.instanceMethod yX6_isFull, Cond.selects RX6 yX6_isFull yX6_isFull]
def wsX6_pop_r2 : List Cond := [Cond.code yX6_isFull cX6_isFull 1 (some .boolean), Cond.methodLink RX6 77 yX6_record, Cond.instanceMethod yX6_record, Cond.selects RX6 yX6_record yX6_record, Cond.code yX6_record cX6_record 2 none, Cond.fieldLink RX6 39 "TailVectorsModel" "kept" "I", Cond.fieldLink RX6 14 "TailVectorsModel" "history" "[I", Cond.methodLink RX6 36 yX6_first, Cond.instanceMethod yX6_first, Cond.selects RX6 yX6_first yX6_first, Cond.code yX6_first cX6_first 2 (some .int), Cond.methodLink RX6 80 yX6_comes, Cond.instanceMethod yX6_comes, Cond.selects RX6 yX6_comes yX6_comes, Cond.code yX6_comes cX6_comes 6 (some .int), Cond.methodLink RX6 63 yX6_copies, Cond.instanceMethod yX6_copies, Cond.selects RX6 yX6_copies yX6_copies, Cond.code yX6_copies cX6_copies 4 none, Cond.methodLink RX6 91 yX6_pops, Cond.instanceMethod yX6_pops, Cond.selects RX6 yX6_pops yX6_pops, Cond.code yX6_pops cX6_pops 7 none, Cond.methodLink RX6 56 yX6_leaves]
def wsX6_pop_r3 : List Cond := [Cond.static yX6_leaves, Cond.code yX6_leaves cX6_leaves 1 (some .int), Cond.methodLink RX6 43 yX6_rootLevel, Cond.static yX6_rootLevel, Cond.code yX6_rootLevel cX6_rootLevel 2 (some .int), Cond.methodLink RX6 46 yX6_power, Cond.static yX6_power, Cond.code yX6_power cX6_power 1 (some .int), Cond.methodLink RX6 49 yX6_blocks, Cond.static yX6_blocks, Cond.code yX6_blocks cX6_blocks 2 (some .int), Cond.methodLink RX6 59 yX6_makes, Cond.instanceMethod yX6_makes, Cond.selects RX6 yX6_makes yX6_makes, Cond.code yX6_makes cX6_makes 6 none, Cond.methodLink RX6 53 yX6_begins, Cond.static yX6_begins, Cond.code yX6_begins cX6_begins 1 (some .int)]
def wsX6_pop : List Cond := .code yX6_pop cX6_pop 3 (some .int) :: ((wsX6_pop_r1 ++ (wsX6_pop_r2 ++ wsX6_pop_r3)) ++ wsX60)
def wsX6_window_r1 : List Cond := [Cond.methodLink RX6 67 yX6_no, Cond.instanceMethod yX6_no, Cond.selects RX6 yX6_no yX6_no, Cond.initialized RX6, Cond.code yX6_no cX6_no 2 (some .boolean), Cond.fieldLink RX6 7 "TailVectorsModel" "now" "[I", Cond.methodLink RX6 24 yX6_in, Cond.static yX6_in, Cond.code yX6_in cX6_in 3 (some .boolean), Cond.methodLink RX6 70 yX6_length, Cond.instanceMethod yX6_length, Cond.selects RX6 yX6_length yX6_length, Cond.code yX6_length cX6_length 2 (some .int), Cond.methodLink RX6 28 yX6_isWindow, Cond.instanceMethod yX6_isWindow, Cond.selects RX6 yX6_isWindow yX6_isWindow, Cond.code yX6_isWindow cX6_isWindow 2 (some .boolean), Cond.methodLink RX6 32 yX6_rowLength, Cond.instanceMethod yX6_rowLength, Cond.selects RX6 yX6_rowLength yX6_rowLength, Cond.code yX6_rowLength cX6_rowLength 2 (some .int), Cond.methodLink RX6 73 yX6_isFull, Cond.instanceMethod yX6_isFull, Cond.selects RX6 yX6_isFull yX6_isFull]
def wsX6_window_r2 : List Cond := [Cond.code yX6_isFull cX6_isFull 1 (some .boolean), Cond.methodLink RX6 77 yX6_record, Cond.instanceMethod yX6_record, Cond.selects RX6 yX6_record yX6_record, Cond.code yX6_record cX6_record 2 none, Cond.fieldLink RX6 39 "TailVectorsModel" "kept" "I", Cond.fieldLink RX6 14 "TailVectorsModel" "history" "[I", Cond.methodLink RX6 36 yX6_first, Cond.instanceMethod yX6_first, Cond.selects RX6 yX6_first yX6_first, Cond.code yX6_first cX6_first 2 (some .int), Cond.methodLink RX6 80 yX6_comes, Cond.instanceMethod yX6_comes, Cond.selects RX6 yX6_comes yX6_comes, Cond.code yX6_comes cX6_comes 6 (some .int), Cond.methodLink RX6 63 yX6_copies, Cond.instanceMethod yX6_copies, Cond.selects RX6 yX6_copies yX6_copies, Cond.code yX6_copies cX6_copies 4 none]
def wsX6_window : List Cond := .code yX6_window cX6_window 4 (some .int) :: ((wsX6_window_r1 ++ wsX6_window_r2) ++ wsX60)
def wsX6_there : List Cond := .code yX6_there cX6_there 3 (some .int) :: ([.fieldLink RX6 7 "TailVectorsModel" "now" "[I"] ++ wsX60)
def wsX6_drop : List Cond := .code yX6_drop cX6_drop 2 (some .int) :: ([.fieldLink RX6 7 "TailVectorsModel" "now" "[I", .methodLink RX6 67 yX6_no, .instanceMethod yX6_no, .selects RX6 yX6_no yX6_no, .initialized RX6, .code yX6_no cX6_no 2 (some .boolean), .methodLink RX6 24 yX6_in, .static yX6_in, .code yX6_in cX6_in 3 (some .boolean), .methodLink RX6 77 yX6_record, .instanceMethod yX6_record, .selects RX6 yX6_record yX6_record, .code yX6_record cX6_record 2 none, .fieldLink RX6 39 "TailVectorsModel" "kept" "I", .fieldLink RX6 14 "TailVectorsModel" "history" "[I", .methodLink RX6 95 yX6_there, .instanceMethod yX6_there, .selects RX6 yX6_there yX6_there, .code yX6_there cX6_there 3 (some .int)] ++ wsX60)
def wsX6_noEdit : List Cond := .code yX6_noEdit cX6_noEdit 1 (some .boolean) :: ([.fieldLink RX6 7 "TailVectorsModel" "now" "[I"] ++ wsX60)
def wsX6_begin_r1 : List Cond := [Cond.fieldLink RX6 7 "TailVectorsModel" "now" "[I", Cond.methodLink RX6 67 yX6_no, Cond.instanceMethod yX6_no, Cond.selects RX6 yX6_no yX6_no, Cond.initialized RX6, Cond.code yX6_no cX6_no 2 (some .boolean), Cond.methodLink RX6 24 yX6_in, Cond.static yX6_in, Cond.code yX6_in cX6_in 3 (some .boolean), Cond.methodLink RX6 99 yX6_noEdit, Cond.instanceMethod yX6_noEdit, Cond.selects RX6 yX6_noEdit yX6_noEdit, Cond.code yX6_noEdit cX6_noEdit 1 (some .boolean), Cond.methodLink RX6 28 yX6_isWindow, Cond.instanceMethod yX6_isWindow, Cond.selects RX6 yX6_isWindow yX6_isWindow, Cond.code yX6_isWindow cX6_isWindow 2 (some .boolean), Cond.methodLink RX6 77 yX6_record, Cond.instanceMethod yX6_record, Cond.selects RX6 yX6_record yX6_record, Cond.code yX6_record cX6_record 2 none, Cond.fieldLink RX6 39 "TailVectorsModel" "kept" "I", Cond.fieldLink RX6 14 "TailVectorsModel" "history" "[I", Cond.methodLink RX6 63 yX6_copies]
def wsX6_begin_r2 : List Cond := [Cond.instanceMethod yX6_copies, Cond.selects RX6 yX6_copies yX6_copies, Cond.code yX6_copies cX6_copies 4 none, Cond.methodLink RX6 32 yX6_rowLength, Cond.instanceMethod yX6_rowLength, Cond.selects RX6 yX6_rowLength yX6_rowLength, Cond.code yX6_rowLength cX6_rowLength 2 (some .int)]
def wsX6_begin : List Cond := .code yX6_begin cX6_begin 3 (some .int) :: ((wsX6_begin_r1 ++ wsX6_begin_r2) ++ wsX60)
def wsX6_editPush_r1 : List Cond := [Cond.fieldLink RX6 7 "TailVectorsModel" "now" "[I", Cond.methodLink RX6 99 yX6_noEdit, Cond.instanceMethod yX6_noEdit, Cond.selects RX6 yX6_noEdit yX6_noEdit, Cond.initialized RX6, Cond.code yX6_noEdit cX6_noEdit 1 (some .boolean), Cond.methodLink RX6 24 yX6_in, Cond.static yX6_in, Cond.code yX6_in cX6_in 3 (some .boolean), Cond.methodLink RX6 32 yX6_rowLength, Cond.instanceMethod yX6_rowLength, Cond.selects RX6 yX6_rowLength yX6_rowLength, Cond.code yX6_rowLength cX6_rowLength 2 (some .int), Cond.methodLink RX6 77 yX6_record, Cond.instanceMethod yX6_record, Cond.selects RX6 yX6_record yX6_record, Cond.code yX6_record cX6_record 2 none, Cond.fieldLink RX6 39 "TailVectorsModel" "kept" "I", Cond.fieldLink RX6 14 "TailVectorsModel" "history" "[I", Cond.methodLink RX6 84 yX6_pushes, Cond.instanceMethod yX6_pushes, Cond.selects RX6 yX6_pushes yX6_pushes, Cond.code yX6_pushes cX6_pushes 8 none, Cond.methodLink RX6 56 yX6_leaves]
def wsX6_editPush_r2 : List Cond := [Cond.static yX6_leaves, Cond.code yX6_leaves cX6_leaves 1 (some .int), Cond.methodLink RX6 59 yX6_makes, Cond.instanceMethod yX6_makes, Cond.selects RX6 yX6_makes yX6_makes, Cond.code yX6_makes cX6_makes 6 none, Cond.methodLink RX6 53 yX6_begins, Cond.static yX6_begins, Cond.code yX6_begins cX6_begins 1 (some .int), Cond.methodLink RX6 43 yX6_rootLevel, Cond.static yX6_rootLevel, Cond.code yX6_rootLevel cX6_rootLevel 2 (some .int), Cond.methodLink RX6 46 yX6_power, Cond.static yX6_power, Cond.code yX6_power cX6_power 1 (some .int), Cond.methodLink RX6 49 yX6_blocks, Cond.static yX6_blocks, Cond.code yX6_blocks cX6_blocks 2 (some .int)]
def wsX6_editPush : List Cond := .code yX6_editPush cX6_editPush 3 (some .int) :: ((wsX6_editPush_r1 ++ wsX6_editPush_r2) ++ wsX60)
def wsX6_editSet_r1 : List Cond := [Cond.fieldLink RX6 7 "TailVectorsModel" "now" "[I", Cond.methodLink RX6 99 yX6_noEdit, Cond.instanceMethod yX6_noEdit, Cond.selects RX6 yX6_noEdit yX6_noEdit, Cond.initialized RX6, Cond.code yX6_noEdit cX6_noEdit 1 (some .boolean), Cond.methodLink RX6 32 yX6_rowLength, Cond.instanceMethod yX6_rowLength, Cond.selects RX6 yX6_rowLength yX6_rowLength, Cond.code yX6_rowLength cX6_rowLength 2 (some .int), Cond.methodLink RX6 24 yX6_in, Cond.static yX6_in, Cond.code yX6_in cX6_in 3 (some .boolean), Cond.methodLink RX6 77 yX6_record, Cond.instanceMethod yX6_record, Cond.selects RX6 yX6_record yX6_record, Cond.code yX6_record cX6_record 2 none, Cond.fieldLink RX6 39 "TailVectorsModel" "kept" "I", Cond.fieldLink RX6 14 "TailVectorsModel" "history" "[I", Cond.methodLink RX6 87 yX6_sets, Cond.instanceMethod yX6_sets, Cond.selects RX6 yX6_sets yX6_sets, Cond.code yX6_sets cX6_sets 7 none, Cond.methodLink RX6 56 yX6_leaves]
def wsX6_editSet_r2 : List Cond := [Cond.static yX6_leaves, Cond.code yX6_leaves cX6_leaves 1 (some .int), Cond.methodLink RX6 43 yX6_rootLevel, Cond.static yX6_rootLevel, Cond.code yX6_rootLevel cX6_rootLevel 2 (some .int), Cond.methodLink RX6 46 yX6_power, Cond.static yX6_power, Cond.code yX6_power cX6_power 1 (some .int), Cond.methodLink RX6 59 yX6_makes, Cond.instanceMethod yX6_makes, Cond.selects RX6 yX6_makes yX6_makes, Cond.code yX6_makes cX6_makes 6 none, Cond.methodLink RX6 53 yX6_begins, Cond.static yX6_begins, Cond.code yX6_begins cX6_begins 1 (some .int)]
def wsX6_editSet : List Cond := .code yX6_editSet cX6_editSet 4 (some .int) :: ((wsX6_editSet_r1 ++ wsX6_editSet_r2) ++ wsX60)
def wsX6_editPop_r1 : List Cond := [Cond.fieldLink RX6 7 "TailVectorsModel" "now" "[I", Cond.methodLink RX6 99 yX6_noEdit, Cond.instanceMethod yX6_noEdit, Cond.selects RX6 yX6_noEdit yX6_noEdit, Cond.initialized RX6, Cond.code yX6_noEdit cX6_noEdit 1 (some .boolean), Cond.methodLink RX6 32 yX6_rowLength, Cond.instanceMethod yX6_rowLength, Cond.selects RX6 yX6_rowLength yX6_rowLength, Cond.code yX6_rowLength cX6_rowLength 2 (some .int), Cond.methodLink RX6 77 yX6_record, Cond.instanceMethod yX6_record, Cond.selects RX6 yX6_record yX6_record, Cond.code yX6_record cX6_record 2 none, Cond.fieldLink RX6 39 "TailVectorsModel" "kept" "I", Cond.fieldLink RX6 14 "TailVectorsModel" "history" "[I", Cond.methodLink RX6 91 yX6_pops, Cond.instanceMethod yX6_pops, Cond.selects RX6 yX6_pops yX6_pops, Cond.code yX6_pops cX6_pops 7 none, Cond.methodLink RX6 56 yX6_leaves, Cond.static yX6_leaves, Cond.code yX6_leaves cX6_leaves 1 (some .int), Cond.methodLink RX6 43 yX6_rootLevel]
def wsX6_editPop_r2 : List Cond := [Cond.static yX6_rootLevel, Cond.code yX6_rootLevel cX6_rootLevel 2 (some .int), Cond.methodLink RX6 46 yX6_power, Cond.static yX6_power, Cond.code yX6_power cX6_power 1 (some .int), Cond.methodLink RX6 49 yX6_blocks, Cond.static yX6_blocks, Cond.code yX6_blocks cX6_blocks 2 (some .int), Cond.methodLink RX6 59 yX6_makes, Cond.instanceMethod yX6_makes, Cond.selects RX6 yX6_makes yX6_makes, Cond.code yX6_makes cX6_makes 6 none, Cond.methodLink RX6 53 yX6_begins, Cond.static yX6_begins, Cond.code yX6_begins cX6_begins 1 (some .int)]
def wsX6_editPop : List Cond := .code yX6_editPop cX6_editPop 2 (some .int) :: ((wsX6_editPop_r1 ++ wsX6_editPop_r2) ++ wsX60)
def wsX6_finish : List Cond := .code yX6_finish cX6_finish 1 (some .int) :: ([.fieldLink RX6 7 "TailVectorsModel" "now" "[I", .methodLink RX6 99 yX6_noEdit, .instanceMethod yX6_noEdit, .selects RX6 yX6_noEdit yX6_noEdit, .initialized RX6, .code yX6_noEdit cX6_noEdit 1 (some .boolean), .methodLink RX6 73 yX6_isFull, .instanceMethod yX6_isFull, .selects RX6 yX6_isFull yX6_isFull, .code yX6_isFull cX6_isFull 1 (some .boolean), .methodLink RX6 77 yX6_record, .instanceMethod yX6_record, .selects RX6 yX6_record yX6_record, .code yX6_record cX6_record 2 none, .fieldLink RX6 39 "TailVectorsModel" "kept" "I", .fieldLink RX6 14 "TailVectorsModel" "history" "[I", .methodLink RX6 80 yX6_comes, .instanceMethod yX6_comes, .selects RX6 yX6_comes yX6_comes, .code yX6_comes cX6_comes 6 (some .int), .methodLink RX6 63 yX6_copies, .instanceMethod yX6_copies, .selects RX6 yX6_copies yX6_copies, .code yX6_copies cX6_copies 4 none] ++ wsX60)
def wsX6_abandon : List Cond := .code yX6_abandon cX6_abandon 1 (some .int) :: ([.fieldLink RX6 7 "TailVectorsModel" "now" "[I", .methodLink RX6 99 yX6_noEdit, .instanceMethod yX6_noEdit, .selects RX6 yX6_noEdit yX6_noEdit, .initialized RX6, .code yX6_noEdit cX6_noEdit 1 (some .boolean), .methodLink RX6 77 yX6_record, .instanceMethod yX6_record, .selects RX6 yX6_record yX6_record, .code yX6_record cX6_record 2 none, .fieldLink RX6 39 "TailVectorsModel" "kept" "I", .fieldLink RX6 14 "TailVectorsModel" "history" "[I", .methodLink RX6 32 yX6_rowLength, .instanceMethod yX6_rowLength, .selects RX6 yX6_rowLength yX6_rowLength, .code yX6_rowLength cX6_rowLength 2 (some .int)] ++ wsX60)
def wsX6_type : List Cond := .code yX6_type cX6_type 2 (some .int) :: ([.fieldLink RX6 102 "TailVectorsModel" "typed" "I", .fieldLink RX6 20 "TailVectorsModel" "text" "[C"] ++ wsX60)
def wsX6_clearText : List Cond := .code yX6_clearText cX6_clearText 2 (some .int) :: ([.fieldLink RX6 102 "TailVectorsModel" "typed" "I"] ++ wsX60)
def wsX6_isDigit : List Cond := .code yX6_isDigit cX6_isDigit 1 (some .boolean) :: ([.fieldLink RX6 105 "TailVectorsModel" "at" "I", .fieldLink RX6 102 "TailVectorsModel" "typed" "I", .fieldLink RX6 20 "TailVectorsModel" "text" "[C", .methodLink RX6 24 yX6_in, .static yX6_in, .initialized RX6, .code yX6_in cX6_in 3 (some .boolean)] ++ wsX60)
def wsX6_takesNumber : List Cond := .code yX6_takesNumber cX6_takesNumber 2 (some .boolean) :: ([.fieldLink RX6 20 "TailVectorsModel" "text" "[C", .fieldLink RX6 105 "TailVectorsModel" "at" "I", .fieldLink RX6 111 "TailVectorsModel" "number" "I", .methodLink RX6 108 yX6_isDigit, .instanceMethod yX6_isDigit, .selects RX6 yX6_isDigit yX6_isDigit, .initialized RX6, .code yX6_isDigit cX6_isDigit 1 (some .boolean), .fieldLink RX6 102 "TailVectorsModel" "typed" "I", .methodLink RX6 24 yX6_in, .static yX6_in, .code yX6_in cX6_in 3 (some .boolean)] ++ wsX60)
def wsX6_valuesOfText : List Cond := .code yX6_valuesOfText cX6_valuesOfText 3 (some .int) :: ([.fieldLink RX6 105 "TailVectorsModel" "at" "I", .fieldLink RX6 102 "TailVectorsModel" "typed" "I", .fieldLink RX6 20 "TailVectorsModel" "text" "[C", .methodLink RX6 114 yX6_takesNumber, .instanceMethod yX6_takesNumber, .selects RX6 yX6_takesNumber yX6_takesNumber, .initialized RX6, .code yX6_takesNumber cX6_takesNumber 2 (some .boolean), .fieldLink RX6 111 "TailVectorsModel" "number" "I", .methodLink RX6 108 yX6_isDigit, .instanceMethod yX6_isDigit, .selects RX6 yX6_isDigit yX6_isDigit, .code yX6_isDigit cX6_isDigit 1 (some .boolean), .methodLink RX6 24 yX6_in, .static yX6_in, .code yX6_in cX6_in 3 (some .boolean)] ++ wsX60)
def wsX6_editRead_r1 : List Cond := [Cond.fieldLink RX6 105 "TailVectorsModel" "at" "I", Cond.fieldLink RX6 7 "TailVectorsModel" "now" "[I", Cond.fieldLink RX6 111 "TailVectorsModel" "number" "I", Cond.methodLink RX6 99 yX6_noEdit, Cond.instanceMethod yX6_noEdit, Cond.selects RX6 yX6_noEdit yX6_noEdit, Cond.initialized RX6, Cond.code yX6_noEdit cX6_noEdit 1 (some .boolean), Cond.methodLink RX6 117 yX6_valuesOfText, Cond.instanceMethod yX6_valuesOfText, Cond.selects RX6 yX6_valuesOfText yX6_valuesOfText, Cond.code yX6_valuesOfText cX6_valuesOfText 3 (some .int), Cond.fieldLink RX6 102 "TailVectorsModel" "typed" "I", Cond.fieldLink RX6 20 "TailVectorsModel" "text" "[C", Cond.methodLink RX6 114 yX6_takesNumber, Cond.instanceMethod yX6_takesNumber, Cond.selects RX6 yX6_takesNumber yX6_takesNumber, Cond.code yX6_takesNumber cX6_takesNumber 2 (some .boolean), Cond.methodLink RX6 108 yX6_isDigit, Cond.instanceMethod yX6_isDigit, Cond.selects RX6 yX6_isDigit yX6_isDigit, Cond.code yX6_isDigit cX6_isDigit 1 (some .boolean), Cond.methodLink RX6 24 yX6_in, Cond.static yX6_in]
def wsX6_editRead_r2 : List Cond := [Cond.code yX6_in cX6_in 3 (some .boolean), Cond.methodLink RX6 32 yX6_rowLength, Cond.instanceMethod yX6_rowLength, Cond.selects RX6 yX6_rowLength yX6_rowLength, Cond.code yX6_rowLength cX6_rowLength 2 (some .int), Cond.methodLink RX6 77 yX6_record, Cond.instanceMethod yX6_record, Cond.selects RX6 yX6_record yX6_record, Cond.code yX6_record cX6_record 2 none, Cond.fieldLink RX6 39 "TailVectorsModel" "kept" "I", Cond.fieldLink RX6 14 "TailVectorsModel" "history" "[I", Cond.methodLink RX6 84 yX6_pushes, Cond.instanceMethod yX6_pushes, Cond.selects RX6 yX6_pushes yX6_pushes, Cond.code yX6_pushes cX6_pushes 8 none, Cond.methodLink RX6 56 yX6_leaves, Cond.static yX6_leaves, Cond.code yX6_leaves cX6_leaves 1 (some .int), Cond.methodLink RX6 59 yX6_makes, Cond.instanceMethod yX6_makes, Cond.selects RX6 yX6_makes yX6_makes, Cond.code yX6_makes cX6_makes 6 none, Cond.methodLink RX6 53 yX6_begins, Cond.static yX6_begins]
def wsX6_editRead_r3 : List Cond := [Cond.code yX6_begins cX6_begins 1 (some .int), Cond.methodLink RX6 43 yX6_rootLevel, Cond.static yX6_rootLevel, Cond.code yX6_rootLevel cX6_rootLevel 2 (some .int), Cond.methodLink RX6 46 yX6_power, Cond.static yX6_power, Cond.code yX6_power cX6_power 1 (some .int), Cond.methodLink RX6 49 yX6_blocks, Cond.static yX6_blocks, Cond.code yX6_blocks cX6_blocks 2 (some .int)]
def wsX6_editRead : List Cond := .code yX6_editRead cX6_editRead 4 (some .int) :: ((wsX6_editRead_r1 ++ (wsX6_editRead_r2 ++ wsX6_editRead_r3)) ++ wsX60)
def wsX6_undo : List Cond := .code yX6_undo cX6_undo 2 (some .int) :: ([.fieldLink RX6 39 "TailVectorsModel" "kept" "I", .fieldLink RX6 7 "TailVectorsModel" "now" "[I", .fieldLink RX6 14 "TailVectorsModel" "history" "[I"] ++ wsX60)
def wsX6_keep : List Cond := .code yX6_keep cX6_keep 2 (some .int) :: ([.fieldLink RX6 17 "TailVectorsModel" "slot" "[I", .fieldLink RX6 7 "TailVectorsModel" "now" "[I", .fieldLink RX6 120 "TailVectorsModel" "isFilled" "Z"] ++ wsX60)
def wsX6_restore : List Cond := .code yX6_restore cX6_restore 2 (some .int) :: ([.fieldLink RX6 120 "TailVectorsModel" "isFilled" "Z", .fieldLink RX6 7 "TailVectorsModel" "now" "[I", .fieldLink RX6 17 "TailVectorsModel" "slot" "[I", .methodLink RX6 77 yX6_record, .instanceMethod yX6_record, .selects RX6 yX6_record yX6_record, .initialized RX6, .code yX6_record cX6_record 2 none, .fieldLink RX6 39 "TailVectorsModel" "kept" "I", .fieldLink RX6 14 "TailVectorsModel" "history" "[I"] ++ wsX60)
def wsX6_get_r1 : List Cond := [Cond.methodLink RX6 67 yX6_no, Cond.instanceMethod yX6_no, Cond.selects RX6 yX6_no yX6_no, Cond.initialized RX6, Cond.code yX6_no cX6_no 2 (some .boolean), Cond.fieldLink RX6 7 "TailVectorsModel" "now" "[I", Cond.methodLink RX6 24 yX6_in, Cond.static yX6_in, Cond.code yX6_in cX6_in 3 (some .boolean), Cond.methodLink RX6 70 yX6_length, Cond.instanceMethod yX6_length, Cond.selects RX6 yX6_length yX6_length, Cond.code yX6_length cX6_length 2 (some .int), Cond.methodLink RX6 28 yX6_isWindow, Cond.instanceMethod yX6_isWindow, Cond.selects RX6 yX6_isWindow yX6_isWindow, Cond.code yX6_isWindow cX6_isWindow 2 (some .boolean), Cond.methodLink RX6 32 yX6_rowLength, Cond.instanceMethod yX6_rowLength, Cond.selects RX6 yX6_rowLength yX6_rowLength, Cond.code yX6_rowLength cX6_rowLength 2 (some .int), Cond.methodLink RX6 124 yX6_value, Cond.instanceMethod yX6_value, Cond.selects RX6 yX6_value yX6_value]
def wsX6_get_r2 : List Cond := [Cond.code yX6_value cX6_value 3 (some .int), Cond.methodLink RX6 36 yX6_first, Cond.instanceMethod yX6_first, Cond.selects RX6 yX6_first yX6_first, Cond.code yX6_first cX6_first 2 (some .int)]
def wsX6_get : List Cond := .code yX6_get cX6_get 3 (some .int) :: ((wsX6_get_r1 ++ wsX6_get_r2) ++ wsX60)
def wsX6_sum : List Cond := .code yX6_sum cX6_sum 4 (some .int) :: ([.methodLink RX6 70 yX6_length, .instanceMethod yX6_length, .selects RX6 yX6_length yX6_length, .initialized RX6, .code yX6_length cX6_length 2 (some .int), .fieldLink RX6 7 "TailVectorsModel" "now" "[I", .methodLink RX6 28 yX6_isWindow, .instanceMethod yX6_isWindow, .selects RX6 yX6_isWindow yX6_isWindow, .code yX6_isWindow cX6_isWindow 2 (some .boolean), .methodLink RX6 32 yX6_rowLength, .instanceMethod yX6_rowLength, .selects RX6 yX6_rowLength yX6_rowLength, .code yX6_rowLength cX6_rowLength 2 (some .int), .methodLink RX6 124 yX6_value, .instanceMethod yX6_value, .selects RX6 yX6_value yX6_value, .code yX6_value cX6_value 3 (some .int), .methodLink RX6 36 yX6_first, .instanceMethod yX6_first, .selects RX6 yX6_first yX6_first, .code yX6_first cX6_first 2 (some .int)] ++ wsX60)
def wsX6_greatest : List Cond := .code yX6_greatest cX6_greatest 4 (some .int) :: ([.methodLink RX6 70 yX6_length, .instanceMethod yX6_length, .selects RX6 yX6_length yX6_length, .initialized RX6, .code yX6_length cX6_length 2 (some .int), .fieldLink RX6 7 "TailVectorsModel" "now" "[I", .methodLink RX6 28 yX6_isWindow, .instanceMethod yX6_isWindow, .selects RX6 yX6_isWindow yX6_isWindow, .code yX6_isWindow cX6_isWindow 2 (some .boolean), .methodLink RX6 32 yX6_rowLength, .instanceMethod yX6_rowLength, .selects RX6 yX6_rowLength yX6_rowLength, .code yX6_rowLength cX6_rowLength 2 (some .int), .methodLink RX6 124 yX6_value, .instanceMethod yX6_value, .selects RX6 yX6_value yX6_value, .code yX6_value cX6_value 3 (some .int), .methodLink RX6 36 yX6_first, .instanceMethod yX6_first, .selects RX6 yX6_first yX6_first, .code yX6_first cX6_first 2 (some .int)] ++ wsX60)
def wsX6_vector_r1 : List Cond := [Cond.methodLink RX6 67 yX6_no, Cond.instanceMethod yX6_no, Cond.selects RX6 yX6_no yX6_no, Cond.initialized RX6, Cond.code yX6_no cX6_no 2 (some .boolean), Cond.fieldLink RX6 7 "TailVectorsModel" "now" "[I", Cond.methodLink RX6 24 yX6_in, Cond.static yX6_in, Cond.code yX6_in cX6_in 3 (some .boolean), Cond.methodLink RX6 32 yX6_rowLength, Cond.instanceMethod yX6_rowLength, Cond.selects RX6 yX6_rowLength yX6_rowLength, Cond.code yX6_rowLength cX6_rowLength 2 (some .int), Cond.methodLink RX6 56 yX6_leaves, Cond.static yX6_leaves, Cond.code yX6_leaves cX6_leaves 1 (some .int), Cond.methodLink RX6 70 yX6_length, Cond.instanceMethod yX6_length, Cond.selects RX6 yX6_length yX6_length, Cond.code yX6_length cX6_length 2 (some .int), Cond.methodLink RX6 28 yX6_isWindow, Cond.instanceMethod yX6_isWindow, Cond.selects RX6 yX6_isWindow yX6_isWindow, Cond.code yX6_isWindow cX6_isWindow 2 (some .boolean)]
def wsX6_vector_r2 : List Cond := [Cond.methodLink RX6 36 yX6_first, Cond.instanceMethod yX6_first, Cond.selects RX6 yX6_first yX6_first, Cond.code yX6_first cX6_first 2 (some .int), Cond.methodLink RX6 127 yX6_allBlocks, Cond.static yX6_allBlocks, Cond.code yX6_allBlocks cX6_allBlocks 3 (some .int), Cond.methodLink RX6 49 yX6_blocks, Cond.static yX6_blocks, Cond.code yX6_blocks cX6_blocks 2 (some .int), Cond.methodLink RX6 43 yX6_rootLevel, Cond.static yX6_rootLevel, Cond.code yX6_rootLevel cX6_rootLevel 2 (some .int), Cond.methodLink RX6 46 yX6_power, Cond.static yX6_power, Cond.code yX6_power cX6_power 1 (some .int), Cond.methodLink RX6 130 yX6_sum, Cond.instanceMethod yX6_sum, Cond.selects RX6 yX6_sum yX6_sum, Cond.code yX6_sum cX6_sum 4 (some .int), Cond.methodLink RX6 124 yX6_value, Cond.instanceMethod yX6_value, Cond.selects RX6 yX6_value yX6_value, Cond.code yX6_value cX6_value 3 (some .int)]
def wsX6_vector_r3 : List Cond := [Cond.methodLink RX6 133 yX6_greatest, Cond.instanceMethod yX6_greatest, Cond.selects RX6 yX6_greatest yX6_greatest, Cond.code yX6_greatest cX6_greatest 4 (some .int)]
def wsX6_vector : List Cond := .code yX6_vector cX6_vector 4 (some .int) :: ((wsX6_vector_r1 ++ (wsX6_vector_r2 ++ wsX6_vector_r3)) ++ wsX60)
def wsX6_block_r1 : List Cond := [Cond.methodLink RX6 67 yX6_no, Cond.instanceMethod yX6_no, Cond.selects RX6 yX6_no yX6_no, Cond.initialized RX6, Cond.code yX6_no cX6_no 2 (some .boolean), Cond.fieldLink RX6 7 "TailVectorsModel" "now" "[I", Cond.methodLink RX6 24 yX6_in, Cond.static yX6_in, Cond.code yX6_in cX6_in 3 (some .boolean), Cond.methodLink RX6 32 yX6_rowLength, Cond.instanceMethod yX6_rowLength, Cond.selects RX6 yX6_rowLength yX6_rowLength, Cond.code yX6_rowLength cX6_rowLength 2 (some .int), Cond.methodLink RX6 56 yX6_leaves, Cond.static yX6_leaves, Cond.code yX6_leaves cX6_leaves 1 (some .int), Cond.methodLink RX6 49 yX6_blocks, Cond.static yX6_blocks, Cond.code yX6_blocks cX6_blocks 2 (some .int), Cond.methodLink RX6 43 yX6_rootLevel, Cond.static yX6_rootLevel, Cond.code yX6_rootLevel cX6_rootLevel 2 (some .int), Cond.methodLink RX6 46 yX6_power, Cond.static yX6_power]
def wsX6_block_r2 : List Cond := [Cond.code yX6_power cX6_power 1 (some .int), Cond.methodLink RX6 136 yX6_id, Cond.instanceMethod yX6_id, Cond.selects RX6 yX6_id yX6_id, Cond.code yX6_id cX6_id 4 (some .int), Cond.methodLink RX6 53 yX6_begins, Cond.static yX6_begins, Cond.code yX6_begins cX6_begins 1 (some .int)]
def wsX6_block : List Cond := .code yX6_block cX6_block 5 (some .int) :: ((wsX6_block_r1 ++ wsX6_block_r2) ++ wsX60)
def wsX6_has_r1 : List Cond := [Cond.methodLink RX6 32 yX6_rowLength, Cond.instanceMethod yX6_rowLength, Cond.selects RX6 yX6_rowLength yX6_rowLength, Cond.initialized RX6, Cond.code yX6_rowLength cX6_rowLength 2 (some .int), Cond.fieldLink RX6 7 "TailVectorsModel" "now" "[I", Cond.methodLink RX6 56 yX6_leaves, Cond.static yX6_leaves, Cond.code yX6_leaves cX6_leaves 1 (some .int), Cond.methodLink RX6 49 yX6_blocks, Cond.static yX6_blocks, Cond.code yX6_blocks cX6_blocks 2 (some .int), Cond.methodLink RX6 43 yX6_rootLevel, Cond.static yX6_rootLevel, Cond.code yX6_rootLevel cX6_rootLevel 2 (some .int), Cond.methodLink RX6 46 yX6_power, Cond.static yX6_power, Cond.code yX6_power cX6_power 1 (some .int), Cond.methodLink RX6 136 yX6_id, Cond.instanceMethod yX6_id, Cond.selects RX6 yX6_id yX6_id, Cond.code yX6_id cX6_id 4 (some .int), Cond.methodLink RX6 53 yX6_begins, Cond.static yX6_begins]
def wsX6_has_r2 : List Cond := [Cond.code yX6_begins cX6_begins 1 (some .int)]
def wsX6_has : List Cond := .code yX6_has cX6_has 6 (some .boolean) :: ((wsX6_has_r1 ++ wsX6_has_r2) ++ wsX60)
def wsX6_isOfVector_r1 : List Cond := [Cond.fieldLink RX6 7 "TailVectorsModel" "now" "[I", Cond.methodLink RX6 67 yX6_no, Cond.instanceMethod yX6_no, Cond.selects RX6 yX6_no yX6_no, Cond.initialized RX6, Cond.code yX6_no cX6_no 2 (some .boolean), Cond.methodLink RX6 24 yX6_in, Cond.static yX6_in, Cond.code yX6_in cX6_in 3 (some .boolean), Cond.methodLink RX6 143 yX6_has, Cond.instanceMethod yX6_has, Cond.selects RX6 yX6_has yX6_has, Cond.code yX6_has cX6_has 6 (some .boolean), Cond.methodLink RX6 32 yX6_rowLength, Cond.instanceMethod yX6_rowLength, Cond.selects RX6 yX6_rowLength yX6_rowLength, Cond.code yX6_rowLength cX6_rowLength 2 (some .int), Cond.methodLink RX6 56 yX6_leaves, Cond.static yX6_leaves, Cond.code yX6_leaves cX6_leaves 1 (some .int), Cond.methodLink RX6 49 yX6_blocks, Cond.static yX6_blocks, Cond.code yX6_blocks cX6_blocks 2 (some .int), Cond.methodLink RX6 43 yX6_rootLevel]
def wsX6_isOfVector_r2 : List Cond := [Cond.static yX6_rootLevel, Cond.code yX6_rootLevel cX6_rootLevel 2 (some .int), Cond.methodLink RX6 46 yX6_power, Cond.static yX6_power, Cond.code yX6_power cX6_power 1 (some .int), Cond.methodLink RX6 136 yX6_id, Cond.instanceMethod yX6_id, Cond.selects RX6 yX6_id yX6_id, Cond.code yX6_id cX6_id 4 (some .int), Cond.methodLink RX6 53 yX6_begins, Cond.static yX6_begins, Cond.code yX6_begins cX6_begins 1 (some .int)]
def wsX6_isOfVector : List Cond := .code yX6_isOfVector cX6_isOfVector 3 (some .boolean) :: ((wsX6_isOfVector_r1 ++ wsX6_isOfVector_r2) ++ wsX60)
def wsX6_sharedOf_r1 : List Cond := [Cond.methodLink RX6 32 yX6_rowLength, Cond.instanceMethod yX6_rowLength, Cond.selects RX6 yX6_rowLength yX6_rowLength, Cond.initialized RX6, Cond.code yX6_rowLength cX6_rowLength 2 (some .int), Cond.fieldLink RX6 7 "TailVectorsModel" "now" "[I", Cond.methodLink RX6 56 yX6_leaves, Cond.static yX6_leaves, Cond.code yX6_leaves cX6_leaves 1 (some .int), Cond.methodLink RX6 49 yX6_blocks, Cond.static yX6_blocks, Cond.code yX6_blocks cX6_blocks 2 (some .int), Cond.methodLink RX6 43 yX6_rootLevel, Cond.static yX6_rootLevel, Cond.code yX6_rootLevel cX6_rootLevel 2 (some .int), Cond.methodLink RX6 46 yX6_power, Cond.static yX6_power, Cond.code yX6_power cX6_power 1 (some .int), Cond.methodLink RX6 136 yX6_id, Cond.instanceMethod yX6_id, Cond.selects RX6 yX6_id yX6_id, Cond.code yX6_id cX6_id 4 (some .int), Cond.methodLink RX6 53 yX6_begins, Cond.static yX6_begins]
def wsX6_sharedOf_r2 : List Cond := [Cond.code yX6_begins cX6_begins 1 (some .int), Cond.methodLink RX6 140 yX6_isOfVector, Cond.instanceMethod yX6_isOfVector, Cond.selects RX6 yX6_isOfVector yX6_isOfVector, Cond.code yX6_isOfVector cX6_isOfVector 3 (some .boolean), Cond.methodLink RX6 67 yX6_no, Cond.instanceMethod yX6_no, Cond.selects RX6 yX6_no yX6_no, Cond.code yX6_no cX6_no 2 (some .boolean), Cond.methodLink RX6 24 yX6_in, Cond.static yX6_in, Cond.code yX6_in cX6_in 3 (some .boolean), Cond.methodLink RX6 143 yX6_has, Cond.instanceMethod yX6_has, Cond.selects RX6 yX6_has yX6_has, Cond.code yX6_has cX6_has 6 (some .boolean)]
def wsX6_sharedOf : List Cond := .code yX6_sharedOf cX6_sharedOf 8 (some .int) :: ((wsX6_sharedOf_r1 ++ wsX6_sharedOf_r2) ++ wsX60)
def wsX6_shared_r1 : List Cond := [Cond.methodLink RX6 67 yX6_no, Cond.instanceMethod yX6_no, Cond.selects RX6 yX6_no yX6_no, Cond.initialized RX6, Cond.code yX6_no cX6_no 2 (some .boolean), Cond.fieldLink RX6 7 "TailVectorsModel" "now" "[I", Cond.methodLink RX6 24 yX6_in, Cond.static yX6_in, Cond.code yX6_in cX6_in 3 (some .boolean), Cond.methodLink RX6 147 yX6_sharedOf, Cond.instanceMethod yX6_sharedOf, Cond.selects RX6 yX6_sharedOf yX6_sharedOf, Cond.code yX6_sharedOf cX6_sharedOf 8 (some .int), Cond.methodLink RX6 32 yX6_rowLength, Cond.instanceMethod yX6_rowLength, Cond.selects RX6 yX6_rowLength yX6_rowLength, Cond.code yX6_rowLength cX6_rowLength 2 (some .int), Cond.methodLink RX6 56 yX6_leaves, Cond.static yX6_leaves, Cond.code yX6_leaves cX6_leaves 1 (some .int), Cond.methodLink RX6 49 yX6_blocks, Cond.static yX6_blocks, Cond.code yX6_blocks cX6_blocks 2 (some .int), Cond.methodLink RX6 43 yX6_rootLevel]
def wsX6_shared_r2 : List Cond := [Cond.static yX6_rootLevel, Cond.code yX6_rootLevel cX6_rootLevel 2 (some .int), Cond.methodLink RX6 46 yX6_power, Cond.static yX6_power, Cond.code yX6_power cX6_power 1 (some .int), Cond.methodLink RX6 136 yX6_id, Cond.instanceMethod yX6_id, Cond.selects RX6 yX6_id yX6_id, Cond.code yX6_id cX6_id 4 (some .int), Cond.methodLink RX6 53 yX6_begins, Cond.static yX6_begins, Cond.code yX6_begins cX6_begins 1 (some .int), Cond.methodLink RX6 140 yX6_isOfVector, Cond.instanceMethod yX6_isOfVector, Cond.selects RX6 yX6_isOfVector yX6_isOfVector, Cond.code yX6_isOfVector cX6_isOfVector 3 (some .boolean), Cond.methodLink RX6 143 yX6_has, Cond.instanceMethod yX6_has, Cond.selects RX6 yX6_has yX6_has, Cond.code yX6_has cX6_has 6 (some .boolean)]
def wsX6_shared : List Cond := .code yX6_shared cX6_shared 3 (some .int) :: ((wsX6_shared_r1 ++ wsX6_shared_r2) ++ wsX60)
def wsX6_differ_r1 : List Cond := [Cond.methodLink RX6 67 yX6_no, Cond.instanceMethod yX6_no, Cond.selects RX6 yX6_no yX6_no, Cond.initialized RX6, Cond.code yX6_no cX6_no 2 (some .boolean), Cond.fieldLink RX6 7 "TailVectorsModel" "now" "[I", Cond.methodLink RX6 24 yX6_in, Cond.static yX6_in, Cond.code yX6_in cX6_in 3 (some .boolean), Cond.methodLink RX6 70 yX6_length, Cond.instanceMethod yX6_length, Cond.selects RX6 yX6_length yX6_length, Cond.code yX6_length cX6_length 2 (some .int), Cond.methodLink RX6 28 yX6_isWindow, Cond.instanceMethod yX6_isWindow, Cond.selects RX6 yX6_isWindow yX6_isWindow, Cond.code yX6_isWindow cX6_isWindow 2 (some .boolean), Cond.methodLink RX6 32 yX6_rowLength, Cond.instanceMethod yX6_rowLength, Cond.selects RX6 yX6_rowLength yX6_rowLength, Cond.code yX6_rowLength cX6_rowLength 2 (some .int), Cond.methodLink RX6 124 yX6_value, Cond.instanceMethod yX6_value, Cond.selects RX6 yX6_value yX6_value]
def wsX6_differ_r2 : List Cond := [Cond.code yX6_value cX6_value 3 (some .int), Cond.methodLink RX6 36 yX6_first, Cond.instanceMethod yX6_first, Cond.selects RX6 yX6_first yX6_first, Cond.code yX6_first cX6_first 2 (some .int)]
def wsX6_differ : List Cond := .code yX6_differ cX6_differ 4 (some .int) :: ((wsX6_differ_r1 ++ wsX6_differ_r2) ++ wsX60)
def wsX6_find_r1 : List Cond := [Cond.methodLink RX6 67 yX6_no, Cond.instanceMethod yX6_no, Cond.selects RX6 yX6_no yX6_no, Cond.initialized RX6, Cond.code yX6_no cX6_no 2 (some .boolean), Cond.fieldLink RX6 7 "TailVectorsModel" "now" "[I", Cond.methodLink RX6 24 yX6_in, Cond.static yX6_in, Cond.code yX6_in cX6_in 3 (some .boolean), Cond.methodLink RX6 70 yX6_length, Cond.instanceMethod yX6_length, Cond.selects RX6 yX6_length yX6_length, Cond.code yX6_length cX6_length 2 (some .int), Cond.methodLink RX6 28 yX6_isWindow, Cond.instanceMethod yX6_isWindow, Cond.selects RX6 yX6_isWindow yX6_isWindow, Cond.code yX6_isWindow cX6_isWindow 2 (some .boolean), Cond.methodLink RX6 32 yX6_rowLength, Cond.instanceMethod yX6_rowLength, Cond.selects RX6 yX6_rowLength yX6_rowLength, Cond.code yX6_rowLength cX6_rowLength 2 (some .int), Cond.methodLink RX6 124 yX6_value, Cond.instanceMethod yX6_value, Cond.selects RX6 yX6_value yX6_value]
def wsX6_find_r2 : List Cond := [Cond.code yX6_value cX6_value 3 (some .int), Cond.methodLink RX6 36 yX6_first, Cond.instanceMethod yX6_first, Cond.selects RX6 yX6_first yX6_first, Cond.code yX6_first cX6_first 2 (some .int)]
def wsX6_find : List Cond := .code yX6_find cX6_find 5 (some .int) :: ((wsX6_find_r1 ++ wsX6_find_r2) ++ wsX60)
def wsX6_wouldMake_r1 : List Cond := [Cond.methodLink RX6 67 yX6_no, Cond.instanceMethod yX6_no, Cond.selects RX6 yX6_no yX6_no, Cond.initialized RX6, Cond.code yX6_no cX6_no 2 (some .boolean), Cond.fieldLink RX6 7 "TailVectorsModel" "now" "[I", Cond.methodLink RX6 24 yX6_in, Cond.static yX6_in, Cond.code yX6_in cX6_in 3 (some .boolean), Cond.methodLink RX6 32 yX6_rowLength, Cond.instanceMethod yX6_rowLength, Cond.selects RX6 yX6_rowLength yX6_rowLength, Cond.code yX6_rowLength cX6_rowLength 2 (some .int), Cond.methodLink RX6 56 yX6_leaves, Cond.static yX6_leaves, Cond.code yX6_leaves cX6_leaves 1 (some .int), Cond.methodLink RX6 28 yX6_isWindow, Cond.instanceMethod yX6_isWindow, Cond.selects RX6 yX6_isWindow yX6_isWindow, Cond.code yX6_isWindow cX6_isWindow 2 (some .boolean), Cond.methodLink RX6 43 yX6_rootLevel, Cond.static yX6_rootLevel, Cond.code yX6_rootLevel cX6_rootLevel 2 (some .int), Cond.methodLink RX6 46 yX6_power]
def wsX6_wouldMake_r2 : List Cond := [Cond.static yX6_power, Cond.code yX6_power cX6_power 1 (some .int), Cond.methodLink RX6 49 yX6_blocks, Cond.static yX6_blocks, Cond.code yX6_blocks cX6_blocks 2 (some .int)]
def wsX6_wouldMake : List Cond := .code yX6_wouldMake cX6_wouldMake 8 (some .int) :: ((wsX6_wouldMake_r1 ++ wsX6_wouldMake_r2) ++ wsX60)
def wsX6_own : List Cond := .code yX6_own cX6_own 5 (some .int) :: ([.fieldLink RX6 7 "TailVectorsModel" "now" "[I", .methodLink RX6 32 yX6_rowLength, .instanceMethod yX6_rowLength, .selects RX6 yX6_rowLength yX6_rowLength, .initialized RX6, .code yX6_rowLength cX6_rowLength 2 (some .int), .methodLink RX6 56 yX6_leaves, .static yX6_leaves, .code yX6_leaves cX6_leaves 1 (some .int), .methodLink RX6 49 yX6_blocks, .static yX6_blocks, .code yX6_blocks cX6_blocks 2 (some .int), .methodLink RX6 43 yX6_rootLevel, .static yX6_rootLevel, .code yX6_rootLevel cX6_rootLevel 2 (some .int), .methodLink RX6 46 yX6_power, .static yX6_power, .code yX6_power cX6_power 1 (some .int), .methodLink RX6 53 yX6_begins, .static yX6_begins, .code yX6_begins cX6_begins 1 (some .int)] ++ wsX60)
def wsX6_edit_r1 : List Cond := [Cond.methodLink RX6 24 yX6_in, Cond.static yX6_in, Cond.initialized RX6, Cond.code yX6_in cX6_in 3 (some .boolean), Cond.methodLink RX6 99 yX6_noEdit, Cond.instanceMethod yX6_noEdit, Cond.selects RX6 yX6_noEdit yX6_noEdit, Cond.code yX6_noEdit cX6_noEdit 1 (some .boolean), Cond.fieldLink RX6 7 "TailVectorsModel" "now" "[I", Cond.methodLink RX6 32 yX6_rowLength, Cond.instanceMethod yX6_rowLength, Cond.selects RX6 yX6_rowLength yX6_rowLength, Cond.code yX6_rowLength cX6_rowLength 2 (some .int), Cond.methodLink RX6 56 yX6_leaves, Cond.static yX6_leaves, Cond.code yX6_leaves cX6_leaves 1 (some .int), Cond.methodLink RX6 150 yX6_own, Cond.instanceMethod yX6_own, Cond.selects RX6 yX6_own yX6_own, Cond.code yX6_own cX6_own 5 (some .int), Cond.methodLink RX6 49 yX6_blocks, Cond.static yX6_blocks, Cond.code yX6_blocks cX6_blocks 2 (some .int), Cond.methodLink RX6 43 yX6_rootLevel]
def wsX6_edit_r2 : List Cond := [Cond.static yX6_rootLevel, Cond.code yX6_rootLevel cX6_rootLevel 2 (some .int), Cond.methodLink RX6 46 yX6_power, Cond.static yX6_power, Cond.code yX6_power cX6_power 1 (some .int), Cond.methodLink RX6 53 yX6_begins, Cond.static yX6_begins, Cond.code yX6_begins cX6_begins 1 (some .int), Cond.methodLink RX6 127 yX6_allBlocks, Cond.static yX6_allBlocks, Cond.code yX6_allBlocks cX6_allBlocks 3 (some .int), Cond.methodLink RX6 147 yX6_sharedOf, Cond.instanceMethod yX6_sharedOf, Cond.selects RX6 yX6_sharedOf yX6_sharedOf, Cond.code yX6_sharedOf cX6_sharedOf 8 (some .int), Cond.methodLink RX6 136 yX6_id, Cond.instanceMethod yX6_id, Cond.selects RX6 yX6_id yX6_id, Cond.code yX6_id cX6_id 4 (some .int), Cond.methodLink RX6 140 yX6_isOfVector, Cond.instanceMethod yX6_isOfVector, Cond.selects RX6 yX6_isOfVector yX6_isOfVector, Cond.code yX6_isOfVector cX6_isOfVector 3 (some .boolean), Cond.methodLink RX6 67 yX6_no]
def wsX6_edit_r3 : List Cond := [Cond.instanceMethod yX6_no, Cond.selects RX6 yX6_no yX6_no, Cond.code yX6_no cX6_no 2 (some .boolean), Cond.methodLink RX6 143 yX6_has, Cond.instanceMethod yX6_has, Cond.selects RX6 yX6_has yX6_has, Cond.code yX6_has cX6_has 6 (some .boolean)]
def wsX6_edit : List Cond := .code yX6_edit cX6_edit 3 (some .int) :: ((wsX6_edit_r1 ++ (wsX6_edit_r2 ++ wsX6_edit_r3)) ++ wsX60)
def wsX6_used_r1 : List Cond := [Cond.fieldLink RX6 7 "TailVectorsModel" "now" "[I", Cond.methodLink RX6 99 yX6_noEdit, Cond.instanceMethod yX6_noEdit, Cond.selects RX6 yX6_noEdit yX6_noEdit, Cond.initialized RX6, Cond.code yX6_noEdit cX6_noEdit 1 (some .boolean), Cond.methodLink RX6 143 yX6_has, Cond.instanceMethod yX6_has, Cond.selects RX6 yX6_has yX6_has, Cond.code yX6_has cX6_has 6 (some .boolean), Cond.methodLink RX6 32 yX6_rowLength, Cond.instanceMethod yX6_rowLength, Cond.selects RX6 yX6_rowLength yX6_rowLength, Cond.code yX6_rowLength cX6_rowLength 2 (some .int), Cond.methodLink RX6 56 yX6_leaves, Cond.static yX6_leaves, Cond.code yX6_leaves cX6_leaves 1 (some .int), Cond.methodLink RX6 49 yX6_blocks, Cond.static yX6_blocks, Cond.code yX6_blocks cX6_blocks 2 (some .int), Cond.methodLink RX6 43 yX6_rootLevel, Cond.static yX6_rootLevel, Cond.code yX6_rootLevel cX6_rootLevel 2 (some .int), Cond.methodLink RX6 46 yX6_power]
def wsX6_used_r2 : List Cond := [Cond.static yX6_power, Cond.code yX6_power cX6_power 1 (some .int), Cond.methodLink RX6 136 yX6_id, Cond.instanceMethod yX6_id, Cond.selects RX6 yX6_id yX6_id, Cond.code yX6_id cX6_id 4 (some .int), Cond.methodLink RX6 53 yX6_begins, Cond.static yX6_begins, Cond.code yX6_begins cX6_begins 1 (some .int), Cond.methodLink RX6 140 yX6_isOfVector, Cond.instanceMethod yX6_isOfVector, Cond.selects RX6 yX6_isOfVector yX6_isOfVector, Cond.code yX6_isOfVector cX6_isOfVector 3 (some .boolean), Cond.methodLink RX6 67 yX6_no, Cond.instanceMethod yX6_no, Cond.selects RX6 yX6_no yX6_no, Cond.code yX6_no cX6_no 2 (some .boolean), Cond.methodLink RX6 24 yX6_in, Cond.static yX6_in, Cond.code yX6_in cX6_in 3 (some .boolean)]
def wsX6_used : List Cond := .code yX6_used cX6_used 3 (some .int) :: ((wsX6_used_r1 ++ wsX6_used_r2) ++ wsX60)
def wsX6_lengths : List Cond := .code yX6_lengths cX6_lengths 3 (some .int) :: ([.fieldLink RX6 7 "TailVectorsModel" "now" "[I", .methodLink RX6 67 yX6_no, .instanceMethod yX6_no, .selects RX6 yX6_no yX6_no, .initialized RX6, .code yX6_no cX6_no 2 (some .boolean), .methodLink RX6 24 yX6_in, .static yX6_in, .code yX6_in cX6_in 3 (some .boolean), .methodLink RX6 70 yX6_length, .instanceMethod yX6_length, .selects RX6 yX6_length yX6_length, .code yX6_length cX6_length 2 (some .int), .methodLink RX6 28 yX6_isWindow, .instanceMethod yX6_isWindow, .selects RX6 yX6_isWindow yX6_isWindow, .code yX6_isWindow cX6_isWindow 2 (some .boolean), .methodLink RX6 32 yX6_rowLength, .instanceMethod yX6_rowLength, .selects RX6 yX6_rowLength yX6_rowLength, .code yX6_rowLength cX6_rowLength 2 (some .int)] ++ wsX60)
def wsX6_count_r1 : List Cond := [Cond.fieldLink RX6 7 "TailVectorsModel" "now" "[I", Cond.fieldLink RX6 39 "TailVectorsModel" "kept" "I", Cond.fieldLink RX6 102 "TailVectorsModel" "typed" "I", Cond.methodLink RX6 95 yX6_there, Cond.instanceMethod yX6_there, Cond.selects RX6 yX6_there yX6_there, Cond.initialized RX6, Cond.code yX6_there cX6_there 3 (some .int), Cond.methodLink RX6 153 yX6_used, Cond.instanceMethod yX6_used, Cond.selects RX6 yX6_used yX6_used, Cond.code yX6_used cX6_used 3 (some .int), Cond.methodLink RX6 99 yX6_noEdit, Cond.instanceMethod yX6_noEdit, Cond.selects RX6 yX6_noEdit yX6_noEdit, Cond.code yX6_noEdit cX6_noEdit 1 (some .boolean), Cond.methodLink RX6 143 yX6_has, Cond.instanceMethod yX6_has, Cond.selects RX6 yX6_has yX6_has, Cond.code yX6_has cX6_has 6 (some .boolean), Cond.methodLink RX6 32 yX6_rowLength, Cond.instanceMethod yX6_rowLength, Cond.selects RX6 yX6_rowLength yX6_rowLength, Cond.code yX6_rowLength cX6_rowLength 2 (some .int)]
def wsX6_count_r2 : List Cond := [Cond.methodLink RX6 56 yX6_leaves, Cond.static yX6_leaves, Cond.code yX6_leaves cX6_leaves 1 (some .int), Cond.methodLink RX6 49 yX6_blocks, Cond.static yX6_blocks, Cond.code yX6_blocks cX6_blocks 2 (some .int), Cond.methodLink RX6 43 yX6_rootLevel, Cond.static yX6_rootLevel, Cond.code yX6_rootLevel cX6_rootLevel 2 (some .int), Cond.methodLink RX6 46 yX6_power, Cond.static yX6_power, Cond.code yX6_power cX6_power 1 (some .int), Cond.methodLink RX6 136 yX6_id, Cond.instanceMethod yX6_id, Cond.selects RX6 yX6_id yX6_id, Cond.code yX6_id cX6_id 4 (some .int), Cond.methodLink RX6 53 yX6_begins, Cond.static yX6_begins, Cond.code yX6_begins cX6_begins 1 (some .int), Cond.methodLink RX6 140 yX6_isOfVector, Cond.instanceMethod yX6_isOfVector, Cond.selects RX6 yX6_isOfVector yX6_isOfVector, Cond.code yX6_isOfVector cX6_isOfVector 3 (some .boolean), Cond.methodLink RX6 67 yX6_no]
def wsX6_count_r3 : List Cond := [Cond.instanceMethod yX6_no, Cond.selects RX6 yX6_no yX6_no, Cond.code yX6_no cX6_no 2 (some .boolean), Cond.methodLink RX6 24 yX6_in, Cond.static yX6_in, Cond.code yX6_in cX6_in 3 (some .boolean), Cond.methodLink RX6 156 yX6_lengths, Cond.instanceMethod yX6_lengths, Cond.selects RX6 yX6_lengths yX6_lengths, Cond.code yX6_lengths cX6_lengths 3 (some .int), Cond.methodLink RX6 70 yX6_length, Cond.instanceMethod yX6_length, Cond.selects RX6 yX6_length yX6_length, Cond.code yX6_length cX6_length 2 (some .int), Cond.methodLink RX6 28 yX6_isWindow, Cond.instanceMethod yX6_isWindow, Cond.selects RX6 yX6_isWindow yX6_isWindow, Cond.code yX6_isWindow cX6_isWindow 2 (some .boolean)]
def wsX6_count : List Cond := .code yX6_count cX6_count 2 (some .int) :: ((wsX6_count_r1 ++ (wsX6_count_r2 ++ wsX6_count_r3)) ++ wsX60)
def wsJ9_max_7cf53 : List Cond := .code yJ9_max_7cf53 cJ9_max_7cf53 2 (some .int) :: ([])
def wsJ9_min_7cf53 : List Cond := .code yJ9_min_7cf53 cJ9_min_7cf53 2 (some .int) :: ([])
def wsL_law_r1 : List Cond := [Cond.classLink RL 7 RX5, Cond.instantiable RX5 5, Cond.initialized RX5, Cond.classLink RL 10 RX6, Cond.instantiable RX6 9, Cond.initialized RX6, Cond.methodLink RL 9 yX5_init, Cond.instanceMethod yX5_init, Cond.code yX5_init cX5_init 1 none, Cond.methodLink RX5 1 objectInit, Cond.instanceMethod objectInit, Cond.code objectInit ⟨#[0xb1]⟩ 1 none, Cond.classLink RX5 7 RX2, Cond.instantiable RX2 5, Cond.initialized RX2, Cond.fieldLink RX5 10 "TailVectors" "now" "LTailVectors$State;", Cond.fieldLink RX5 16 "TailVectors" "snapshot" "LTailVectors$State;", Cond.fieldLink RX5 19 "TailVectors" "hasSnapshot" "Z", Cond.classLink RX5 23 RX0, Cond.instantiable RX0 2, Cond.initialized RX0, Cond.fieldLink RX5 26 "TailVectors" "history" "LTailVectors$History;", Cond.classLink RX5 30 RX3, Cond.instantiable RX3 2]
def wsL_law_r2 : List Cond := [Cond.initialized RX3, Cond.fieldLink RX5 33 "TailVectors" "text" "LTailVectors$Text;", Cond.classLink RX5 37 RX4, Cond.instantiable RX4 4, Cond.initialized RX4, Cond.classLink RX5 39 RX1, Cond.instantiable RX1 3, Cond.initialized RX1, Cond.methodLink RX5 9 yX2_init, Cond.instanceMethod yX2_init, Cond.code yX2_init cX2_init 1 none, Cond.methodLink RX2 3 objectInit, Cond.classLink RX2 9 RX4, Cond.fieldLink RX2 11 "TailVectors$State" "views" "[LTailVectors$View;", Cond.fieldLink RX2 17 "TailVectors$State" "ever" "I", Cond.fieldLink RX2 21 "TailVectors$State" "made" "I", Cond.fieldLink RX2 24 "TailVectors$State" "editRow" "LTailVectors$Row;", Cond.constant RX2 28 (2147483647), Cond.fieldLink RX2 29 "TailVectors$State" "firstOwn" "I", Cond.methodLink RX5 25 yX0_init, Cond.instanceMethod yX0_init, Cond.code yX0_init cX0_init 2 none, Cond.methodLink RX0 3 objectInit, Cond.classLink RX0 9 RX2]
def wsL_law_r3 : List Cond := [Cond.fieldLink RX0 11 "TailVectors$History" "states" "[LTailVectors$State;", Cond.fieldLink RX0 18 "TailVectors$History" "many" "I", Cond.methodLink RX0 17 yX2_init, Cond.methodLink RX5 32 yX3_init, Cond.instanceMethod yX3_init, Cond.code yX3_init cX3_init 1 none, Cond.methodLink RX3 3 objectInit, Cond.arrayClass .char, Cond.fieldLink RX3 9 "TailVectors$Text" "characters" "[C", Cond.fieldLink RX3 15 "TailVectors$Text" "length" "I", Cond.methodLink RX5 41 yX1_init, Cond.instanceMethod yX1_init, Cond.code yX1_init cX1_init 2 none, Cond.methodLink RX1 3 objectInit, Cond.methodLink RX1 9 Lib.Math.min.name, Cond.static Lib.Math.min.name, Cond.initialized "java/lang/Math", Cond.code Lib.Math.min.name Lib.Math.min.code 2 (some .int), Cond.methodLink RX1 15 Lib.Math.max.name, Cond.static Lib.Math.max.name, Cond.code Lib.Math.max.name Lib.Math.max.code 2 (some .int), Cond.arrayClass .int, Cond.fieldLink RX1 18 "TailVectors$Row" "values" "[I", Cond.fieldLink RX1 24 "TailVectors$Row" "numbers" "[I"]
def wsL_law_r4 : List Cond := [Cond.fieldLink RX1 33 "TailVectors$Row" "length" "I", Cond.methodLink RX1 27 yJ7_fill_53178, Cond.static yJ7_fill_53178, Cond.initialized RJ7, Cond.code yJ7_fill_53178 cJ7_fill_53178 4 none, Cond.methodLink RX5 44 yX4_init, Cond.instanceMethod yX4_init, Cond.code yX4_init cX4_init 5 none, Cond.methodLink RX4 3 objectInit, Cond.fieldLink RX4 9 "TailVectors$View" "row" "LTailVectors$Row;", Cond.fieldLink RX4 15 "TailVectors$View" "window" "Z", Cond.fieldLink RX4 19 "TailVectors$View" "first" "I", Cond.fieldLink RX4 23 "TailVectors$View" "many" "I", Cond.methodLink RX5 47 yX2_addView, Cond.instanceMethod yX2_addView, Cond.selects RX2 yX2_addView yX2_addView, Cond.code yX2_addView cX2_addView 2 (some .int), Cond.methodLink RL 12 yX6_init, Cond.instanceMethod yX6_init, Cond.code yX6_init cX6_init 1 none, Cond.methodLink RX6 1 objectInit, Cond.fieldLink RX6 7 "TailVectorsModel" "now" "[I", Cond.constant RX6 13 (41104), Cond.fieldLink RX6 14 "TailVectorsModel" "history" "[I"]
def wsL_law_r5 : List Cond := [Cond.fieldLink RX6 17 "TailVectorsModel" "slot" "[I", Cond.fieldLink RX6 20 "TailVectorsModel" "text" "[C", Cond.methodLink RL 13 yX5_push, Cond.instanceMethod yX5_push, Cond.selects RX5 yX5_push yX5_push, Cond.code yX5_push cX5_push 5 (some .int), Cond.fieldLink RX5 71 "TailVectors$View" "row" "LTailVectors$Row;", Cond.fieldLink RX5 79 "TailVectors$View" "window" "Z", Cond.fieldLink RX5 82 "TailVectors$View" "first" "I", Cond.fieldLink RX5 86 "TailVectors$View" "many" "I", Cond.methodLink RX5 51 yX2_viewOf, Cond.instanceMethod yX2_viewOf, Cond.selects RX2 yX2_viewOf yX2_viewOf, Cond.code yX2_viewOf cX2_viewOf 2 (some (.object "TailVectors$View")), Cond.methodLink RX5 55 yX5_isValue, Cond.static yX5_isValue, Cond.code yX5_isValue cX5_isValue 1 (some .boolean), Cond.methodLink RX5 59 yX2_isFull, Cond.instanceMethod yX2_isFull, Cond.selects RX2 yX2_isFull yX2_isFull, Cond.code yX2_isFull cX2_isFull 1 (some .boolean), Cond.methodLink RX5 63 yX4_end, Cond.instanceMethod yX4_end, Cond.selects RX4 yX4_end yX4_end]
def wsL_law_r6 : List Cond := [Cond.code yX4_end cX4_end 1 (some .int), Cond.methodLink RX5 67 yX0_remember, Cond.instanceMethod yX0_remember, Cond.selects RX0 yX0_remember yX0_remember, Cond.code yX0_remember cX0_remember 3 none, Cond.methodLink RX0 22 yX0_forgetOldest, Cond.instanceMethod yX0_forgetOldest, Cond.selects RX0 yX0_forgetOldest yX0_forgetOldest, Cond.code yX0_forgetOldest cX0_forgetOldest 3 none, Cond.methodLink RX0 25 yX0_stateAt, Cond.instanceMethod yX0_stateAt, Cond.selects RX0 yX0_stateAt yX0_stateAt, Cond.code yX0_stateAt cX0_stateAt 2 (some (.object "TailVectors$State")), Cond.methodLink RX0 29 yX2_copyFrom, Cond.instanceMethod yX2_copyFrom, Cond.selects RX2 yX2_copyFrom yX2_copyFrom, Cond.code yX2_copyFrom cX2_copyFrom 3 none, Cond.methodLink RX5 75 yX2_rowWith, Cond.instanceMethod yX2_rowWith, Cond.selects RX2 yX2_rowWith yX2_rowWith, Cond.code yX2_rowWith cX2_rowWith 5 (some (.object "TailVectors$Row")), Cond.methodLink RX2 35 yX1_copy, Cond.instanceMethod yX1_copy, Cond.selects RX1 yX1_copy yX1_copy]
def wsL_law_r7 : List Cond := [Cond.code yX1_copy cX1_copy 5 (some (.object "TailVectors$Row")), Cond.classLink RX1 19 RX1, Cond.methodLink RX1 37 yX1_init, Cond.methodLink RX2 41 yX1_write, Cond.instanceMethod yX1_write, Cond.selects RX1 yX1_write yX1_write, Cond.code yX1_write cX1_write 6 (some .int), Cond.methodLink RX1 50 yX1_tail, Cond.instanceMethod yX1_tail, Cond.selects RX1 yX1_tail yX1_tail, Cond.code yX1_tail cX1_tail 1 (some .int), Cond.methodLink RX1 40 yX1_leaves, Cond.instanceMethod yX1_leaves, Cond.selects RX1 yX1_leaves yX1_leaves, Cond.code yX1_leaves cX1_leaves 1 (some .int), Cond.methodLink RX1 53 yX1_hangTail, Cond.instanceMethod yX1_hangTail, Cond.selects RX1 yX1_hangTail yX1_hangTail, Cond.code yX1_hangTail cX1_hangTail 4 (some .int), Cond.static yX5_rootLevel, Cond.code yX5_rootLevel cX5_rootLevel 2 (some .int), Cond.methodLink RX1 60 yX1_makePath, Cond.instanceMethod yX1_makePath, Cond.selects RX1 yX1_makePath yX1_makePath]
def wsL_law_r8 : List Cond := [Cond.code yX1_makePath cX1_makePath 7 (some .int), Cond.methodLink RX1 47 yX1_slotOf, Cond.static yX1_slotOf, Cond.code yX1_slotOf cX1_slotOf 3 (some .int), Cond.methodLink RX1 64 yX1_makeBlock, Cond.instanceMethod yX1_makeBlock, Cond.selects RX1 yX1_makeBlock yX1_makeBlock, Cond.code yX1_makeBlock cX1_makeBlock 4 (some .int), Cond.methodLink RL 17 yX6_push, Cond.instanceMethod yX6_push, Cond.selects RX6 yX6_push yX6_push, Cond.code yX6_push cX6_push 6 (some .int), Cond.methodLink RX6 67 yX6_no, Cond.instanceMethod yX6_no, Cond.selects RX6 yX6_no yX6_no, Cond.code yX6_no cX6_no 2 (some .boolean), Cond.methodLink RX6 24 yX6_in, Cond.static yX6_in, Cond.code yX6_in cX6_in 3 (some .boolean), Cond.methodLink RX6 36 yX6_first, Cond.instanceMethod yX6_first, Cond.selects RX6 yX6_first yX6_first, Cond.code yX6_first cX6_first 2 (some .int), Cond.methodLink RX6 70 yX6_length]
def wsL_law_r9 : List Cond := [Cond.instanceMethod yX6_length, Cond.selects RX6 yX6_length yX6_length, Cond.code yX6_length cX6_length 2 (some .int), Cond.methodLink RX6 28 yX6_isWindow, Cond.instanceMethod yX6_isWindow, Cond.selects RX6 yX6_isWindow yX6_isWindow, Cond.code yX6_isWindow cX6_isWindow 2 (some .boolean), Cond.methodLink RX6 32 yX6_rowLength, Cond.instanceMethod yX6_rowLength, Cond.selects RX6 yX6_rowLength yX6_rowLength, Cond.code yX6_rowLength cX6_rowLength 2 (some .int), Cond.methodLink RX6 73 yX6_isFull, Cond.instanceMethod yX6_isFull, Cond.selects RX6 yX6_isFull yX6_isFull, Cond.code yX6_isFull cX6_isFull 1 (some .boolean), Cond.methodLink RX6 77 yX6_record, Cond.instanceMethod yX6_record, Cond.selects RX6 yX6_record yX6_record, Cond.code yX6_record cX6_record 2 none, Cond.fieldLink RX6 39 "TailVectorsModel" "kept" "I", Cond.methodLink RX6 80 yX6_comes, Cond.instanceMethod yX6_comes, Cond.selects RX6 yX6_comes yX6_comes, Cond.code yX6_comes cX6_comes 6 (some .int)]
def wsL_law_r10 : List Cond := [Cond.methodLink RX6 63 yX6_copies, Cond.instanceMethod yX6_copies, Cond.selects RX6 yX6_copies yX6_copies, Cond.code yX6_copies cX6_copies 4 none, Cond.methodLink RX6 84 yX6_pushes, Cond.instanceMethod yX6_pushes, Cond.selects RX6 yX6_pushes yX6_pushes, Cond.code yX6_pushes cX6_pushes 8 none, Cond.methodLink RX6 56 yX6_leaves, Cond.static yX6_leaves, Cond.code yX6_leaves cX6_leaves 1 (some .int), Cond.methodLink RX6 59 yX6_makes, Cond.instanceMethod yX6_makes, Cond.selects RX6 yX6_makes yX6_makes, Cond.code yX6_makes cX6_makes 6 none, Cond.methodLink RX6 53 yX6_begins, Cond.static yX6_begins, Cond.code yX6_begins cX6_begins 1 (some .int), Cond.methodLink RX6 43 yX6_rootLevel, Cond.static yX6_rootLevel, Cond.code yX6_rootLevel cX6_rootLevel 2 (some .int), Cond.methodLink RX6 46 yX6_power, Cond.static yX6_power, Cond.code yX6_power cX6_power 1 (some .int)]
def wsL_law_r11 : List Cond := [Cond.methodLink RX6 49 yX6_blocks, Cond.static yX6_blocks, Cond.code yX6_blocks cX6_blocks 2 (some .int), Cond.methodLink RX6 87 yX6_sets, Cond.instanceMethod yX6_sets, Cond.selects RX6 yX6_sets yX6_sets, Cond.code yX6_sets cX6_sets 7 none, Cond.methodLink RL 18 yX5_set, Cond.instanceMethod yX5_set, Cond.selects RX5 yX5_set yX5_set, Cond.code yX5_set cX5_set 6 (some .int), Cond.methodLink RX5 89 yX4_shows, Cond.instanceMethod yX4_shows, Cond.selects RX4 yX4_shows yX4_shows, Cond.code yX4_shows cX4_shows 2 (some .boolean), Cond.methodLink RL 22 yX6_set, Cond.instanceMethod yX6_set, Cond.selects RX6 yX6_set yX6_set, Cond.code yX6_set cX6_set 5 (some .int), Cond.methodLink RL 23 yX5_pop, Cond.instanceMethod yX5_pop, Cond.selects RX5 yX5_pop yX5_pop, Cond.code yX5_pop cX5_pop 4 (some .int), Cond.methodLink RX5 92 yX2_rowWithoutLast]
def wsL_law_r12 : List Cond := [Cond.instanceMethod yX2_rowWithoutLast, Cond.selects RX2 yX2_rowWithoutLast yX2_rowWithoutLast, Cond.code yX2_rowWithoutLast cX2_rowWithoutLast 3 (some (.object "TailVectors$Row")), Cond.methodLink RX2 45 yX1_removeLast, Cond.instanceMethod yX1_removeLast, Cond.selects RX1 yX1_removeLast yX1_removeLast, Cond.code yX1_removeLast cX1_removeLast 4 (some .int), Cond.methodLink RX1 68 yX1_takeLastLeaf, Cond.instanceMethod yX1_takeLastLeaf, Cond.selects RX1 yX1_takeLastLeaf yX1_takeLastLeaf, Cond.code yX1_takeLastLeaf cX1_takeLastLeaf 9 (some .int), Cond.methodLink RX1 71 yX1_isFirstLeafOfBlock, Cond.static yX1_isFirstLeafOfBlock, Cond.code yX1_isFirstLeafOfBlock cX1_isFirstLeafOfBlock 2 (some .boolean), Cond.methodLink RX1 75 yX1_removeBlock, Cond.instanceMethod yX1_removeBlock, Cond.selects RX1 yX1_removeBlock yX1_removeBlock, Cond.code yX1_removeBlock cX1_removeBlock 2 none, Cond.methodLink RL 27 yX6_pop, Cond.instanceMethod yX6_pop, Cond.selects RX6 yX6_pop yX6_pop, Cond.code yX6_pop cX6_pop 3 (some .int), Cond.methodLink RX6 91 yX6_pops, Cond.instanceMethod yX6_pops]
def wsL_law_r13 : List Cond := [Cond.selects RX6 yX6_pops yX6_pops, Cond.code yX6_pops cX6_pops 7 none, Cond.methodLink RL 28 yX5_window, Cond.instanceMethod yX5_window, Cond.selects RX5 yX5_window yX5_window, Cond.code yX5_window cX5_window 5 (some .int), Cond.methodLink RL 31 yX6_window, Cond.instanceMethod yX6_window, Cond.selects RX6 yX6_window yX6_window, Cond.code yX6_window cX6_window 4 (some .int), Cond.methodLink RL 32 yX5_drop, Cond.instanceMethod yX5_drop, Cond.selects RX5 yX5_drop yX5_drop, Cond.code yX5_drop cX5_drop 2 (some .int), Cond.methodLink RX5 96 yX2_removeView, Cond.instanceMethod yX2_removeView, Cond.selects RX2 yX2_removeView yX2_removeView, Cond.code yX2_removeView cX2_removeView 2 none, Cond.methodLink RX5 99 yX2_viewsLeft, Cond.instanceMethod yX2_viewsLeft, Cond.selects RX2 yX2_viewsLeft yX2_viewsLeft, Cond.code yX2_viewsLeft cX2_viewsLeft 3 (some .int), Cond.methodLink RL 35 yX6_drop, Cond.instanceMethod yX6_drop]
def wsL_law_r14 : List Cond := [Cond.selects RX6 yX6_drop yX6_drop, Cond.code yX6_drop cX6_drop 2 (some .int), Cond.methodLink RX6 95 yX6_there, Cond.instanceMethod yX6_there, Cond.selects RX6 yX6_there yX6_there, Cond.code yX6_there cX6_there 3 (some .int), Cond.methodLink RL 36 yX5_begin, Cond.instanceMethod yX5_begin, Cond.selects RX5 yX5_begin yX5_begin, Cond.code yX5_begin cX5_begin 3 (some .int), Cond.fieldLink RX5 102 "TailVectors$State" "editRow" "LTailVectors$Row;", Cond.fieldLink RX5 109 "TailVectors$Row" "length" "I", Cond.methodLink RX5 105 yX2_beginEdit, Cond.instanceMethod yX2_beginEdit, Cond.selects RX2 yX2_beginEdit yX2_beginEdit, Cond.code yX2_beginEdit cX2_beginEdit 2 none, Cond.methodLink RL 39 yX6_begin, Cond.instanceMethod yX6_begin, Cond.selects RX6 yX6_begin yX6_begin, Cond.code yX6_begin cX6_begin 3 (some .int), Cond.methodLink RX6 99 yX6_noEdit, Cond.instanceMethod yX6_noEdit, Cond.selects RX6 yX6_noEdit yX6_noEdit, Cond.code yX6_noEdit cX6_noEdit 1 (some .boolean)]
def wsL_law_r15 : List Cond := [Cond.methodLink RL 40 yX5_editPush, Cond.instanceMethod yX5_editPush, Cond.selects RX5 yX5_editPush yX5_editPush, Cond.code yX5_editPush cX5_editPush 3 (some .int), Cond.methodLink RX5 112 yX2_editWrite, Cond.instanceMethod yX2_editWrite, Cond.selects RX2 yX2_editWrite yX2_editWrite, Cond.code yX2_editWrite cX2_editWrite 5 (some .int), Cond.methodLink RX2 49 yX2_takeEditRow, Cond.instanceMethod yX2_takeEditRow, Cond.selects RX2 yX2_takeEditRow yX2_takeEditRow, Cond.code yX2_takeEditRow cX2_takeEditRow 3 (some .int), Cond.methodLink RL 43 yX6_editPush, Cond.instanceMethod yX6_editPush, Cond.selects RX6 yX6_editPush yX6_editPush, Cond.code yX6_editPush cX6_editPush 3 (some .int), Cond.methodLink RL 44 yX5_editSet, Cond.instanceMethod yX5_editSet, Cond.selects RX5 yX5_editSet yX5_editSet, Cond.code yX5_editSet cX5_editSet 4 (some .int), Cond.methodLink RL 47 yX6_editSet, Cond.instanceMethod yX6_editSet, Cond.selects RX6 yX6_editSet yX6_editSet, Cond.code yX6_editSet cX6_editSet 4 (some .int)]
def wsL_law_r16 : List Cond := [Cond.methodLink RL 48 yX5_editPop, Cond.instanceMethod yX5_editPop, Cond.selects RX5 yX5_editPop yX5_editPop, Cond.code yX5_editPop cX5_editPop 2 (some .int), Cond.methodLink RX5 116 yX2_editRemoveLast, Cond.instanceMethod yX2_editRemoveLast, Cond.selects RX2 yX2_editRemoveLast yX2_editRemoveLast, Cond.code yX2_editRemoveLast cX2_editRemoveLast 3 (some .int), Cond.methodLink RL 52 yX6_editPop, Cond.instanceMethod yX6_editPop, Cond.selects RX6 yX6_editPop yX6_editPop, Cond.code yX6_editPop cX6_editPop 2 (some .int), Cond.methodLink RL 53 yX5_editRead, Cond.instanceMethod yX5_editRead, Cond.selects RX5 yX5_editRead yX5_editRead, Cond.code yX5_editRead cX5_editRead 4 (some .int), Cond.methodLink RX5 120 yX3_fault, Cond.instanceMethod yX3_fault, Cond.selects RX3 yX3_fault yX3_fault, Cond.code yX3_fault cX3_fault 5 (some .int), Cond.methodLink RX3 19 yX3_characterAt, Cond.instanceMethod yX3_characterAt, Cond.selects RX3 yX3_characterAt yX3_characterAt, Cond.code yX3_characterAt cX3_characterAt 2 (some .char)]
def wsL_law_r17 : List Cond := [Cond.methodLink RX3 23 yX3_isDigit, Cond.static yX3_isDigit, Cond.code yX3_isDigit cX3_isDigit 1 (some .boolean), Cond.methodLink RX5 123 yX3_values, Cond.instanceMethod yX3_values, Cond.selects RX3 yX3_values yX3_values, Cond.code yX3_values cX3_values 5 (some (.array .int)), Cond.methodLink RX3 27 yX3_commas, Cond.instanceMethod yX3_commas, Cond.selects RX3 yX3_commas yX3_commas, Cond.code yX3_commas cX3_commas 3 (some .int), Cond.methodLink RX5 127 yX2_editAppendAll, Cond.instanceMethod yX2_editAppendAll, Cond.selects RX2 yX2_editAppendAll yX2_editAppendAll, Cond.code yX2_editAppendAll cX2_editAppendAll 9 (some .int), Cond.fieldLink RX2 53 "TailVectors$Row" "length" "I", Cond.methodLink RL 56 yX6_editRead, Cond.instanceMethod yX6_editRead, Cond.selects RX6 yX6_editRead yX6_editRead, Cond.code yX6_editRead cX6_editRead 4 (some .int), Cond.fieldLink RX6 105 "TailVectorsModel" "at" "I", Cond.fieldLink RX6 111 "TailVectorsModel" "number" "I", Cond.methodLink RX6 117 yX6_valuesOfText, Cond.instanceMethod yX6_valuesOfText]
def wsL_law_r18 : List Cond := [Cond.selects RX6 yX6_valuesOfText yX6_valuesOfText, Cond.code yX6_valuesOfText cX6_valuesOfText 3 (some .int), Cond.fieldLink RX6 102 "TailVectorsModel" "typed" "I", Cond.methodLink RX6 114 yX6_takesNumber, Cond.instanceMethod yX6_takesNumber, Cond.selects RX6 yX6_takesNumber yX6_takesNumber, Cond.code yX6_takesNumber cX6_takesNumber 2 (some .boolean), Cond.methodLink RX6 108 yX6_isDigit, Cond.instanceMethod yX6_isDigit, Cond.selects RX6 yX6_isDigit yX6_isDigit, Cond.code yX6_isDigit cX6_isDigit 1 (some .boolean), Cond.methodLink RL 57 yX5_finish, Cond.instanceMethod yX5_finish, Cond.selects RX5 yX5_finish yX5_finish, Cond.code yX5_finish cX5_finish 2 (some .int), Cond.methodLink RX5 131 yX2_endEdit, Cond.instanceMethod yX2_endEdit, Cond.selects RX2 yX2_endEdit yX2_endEdit, Cond.code yX2_endEdit cX2_endEdit 1 none, Cond.methodLink RL 60 yX6_finish, Cond.instanceMethod yX6_finish, Cond.selects RX6 yX6_finish yX6_finish, Cond.code yX6_finish cX6_finish 1 (some .int), Cond.methodLink RL 61 yX5_abandon]
def wsL_law_r19 : List Cond := [Cond.instanceMethod yX5_abandon, Cond.selects RX5 yX5_abandon yX5_abandon, Cond.code yX5_abandon cX5_abandon 2 (some .int), Cond.methodLink RL 64 yX6_abandon, Cond.instanceMethod yX6_abandon, Cond.selects RX6 yX6_abandon yX6_abandon, Cond.code yX6_abandon cX6_abandon 1 (some .int), Cond.methodLink RL 65 yX5_type, Cond.instanceMethod yX5_type, Cond.selects RX5 yX5_type yX5_type, Cond.code yX5_type cX5_type 2 (some .int), Cond.fieldLink RX5 138 "TailVectors$Text" "length" "I", Cond.methodLink RX5 134 yX3_add, Cond.instanceMethod yX3_add, Cond.selects RX3 yX3_add yX3_add, Cond.code yX3_add cX3_add 2 (some .boolean), Cond.methodLink RL 69 yX6_type, Cond.instanceMethod yX6_type, Cond.selects RX6 yX6_type yX6_type, Cond.code yX6_type cX6_type 2 (some .int), Cond.methodLink RL 70 yX5_clearText, Cond.instanceMethod yX5_clearText, Cond.selects RX5 yX5_clearText yX5_clearText, Cond.code yX5_clearText cX5_clearText 2 (some .int)]
def wsL_law_r20 : List Cond := [Cond.methodLink RX5 139 yX3_empty, Cond.instanceMethod yX3_empty, Cond.selects RX3 yX3_empty yX3_empty, Cond.code yX3_empty cX3_empty 1 none, Cond.methodLink RL 73 yX6_clearText, Cond.instanceMethod yX6_clearText, Cond.selects RX6 yX6_clearText yX6_clearText, Cond.code yX6_clearText cX6_clearText 2 (some .int), Cond.methodLink RL 74 yX5_undo, Cond.instanceMethod yX5_undo, Cond.selects RX5 yX5_undo yX5_undo, Cond.code yX5_undo cX5_undo 1 (some .int), Cond.fieldLink RX5 142 "TailVectors$History" "many" "I", Cond.methodLink RX5 143 yX0_takeBack, Cond.instanceMethod yX0_takeBack, Cond.selects RX0 yX0_takeBack yX0_takeBack, Cond.code yX0_takeBack cX0_takeBack 3 none, Cond.methodLink RL 77 yX6_undo, Cond.instanceMethod yX6_undo, Cond.selects RX6 yX6_undo yX6_undo, Cond.code yX6_undo cX6_undo 2 (some .int), Cond.methodLink RL 78 yX5_keep, Cond.instanceMethod yX5_keep, Cond.selects RX5 yX5_keep yX5_keep]
def wsL_law_r21 : List Cond := [Cond.code yX5_keep cX5_keep 1 (some .int), Cond.fieldLink RX5 149 "TailVectors$State" "made" "I", Cond.methodLink RX5 146 yX2_copyFrom, Cond.methodLink RL 81 yX6_keep, Cond.instanceMethod yX6_keep, Cond.selects RX6 yX6_keep yX6_keep, Cond.code yX6_keep cX6_keep 2 (some .int), Cond.fieldLink RX6 120 "TailVectorsModel" "isFilled" "Z", Cond.methodLink RL 82 yX5_restore, Cond.instanceMethod yX5_restore, Cond.selects RX5 yX5_restore yX5_restore, Cond.code yX5_restore cX5_restore 1 (some .int), Cond.methodLink RL 85 yX6_restore, Cond.instanceMethod yX6_restore, Cond.selects RX6 yX6_restore yX6_restore, Cond.code yX6_restore cX6_restore 2 (some .int), Cond.methodLink RL 86 yX5_get, Cond.instanceMethod yX5_get, Cond.selects RX5 yX5_get yX5_get, Cond.code yX5_get cX5_get 4 (some .int), Cond.methodLink RX5 152 yX4_valueAt, Cond.instanceMethod yX4_valueAt, Cond.selects RX4 yX4_valueAt yX4_valueAt, Cond.code yX4_valueAt cX4_valueAt 3 (some .int)]
def wsL_law_r22 : List Cond := [Cond.fieldLink RX4 26 "TailVectors$Row" "values" "[I", Cond.methodLink RL 89 yX6_get, Cond.instanceMethod yX6_get, Cond.selects RX6 yX6_get yX6_get, Cond.code yX6_get cX6_get 3 (some .int), Cond.methodLink RX6 124 yX6_value, Cond.instanceMethod yX6_value, Cond.selects RX6 yX6_value yX6_value, Cond.code yX6_value cX6_value 3 (some .int), Cond.methodLink RL 90 yX5_vector, Cond.instanceMethod yX5_vector, Cond.selects RX5 yX5_vector yX5_vector, Cond.code yX5_vector cX5_vector 4 (some .int), Cond.methodLink RX5 156 yX1_leaves, Cond.methodLink RX5 159 yX1_blocks, Cond.instanceMethod yX1_blocks, Cond.selects RX1 yX1_blocks yX1_blocks, Cond.code yX1_blocks cX1_blocks 1 (some .int), Cond.methodLink RX1 78 yX1_blocksFrom, Cond.instanceMethod yX1_blocksFrom, Cond.selects RX1 yX1_blocksFrom yX1_blocksFrom, Cond.code yX1_blocksFrom cX1_blocksFrom 4 (some .int), Cond.methodLink RX5 162 yX5_rootLevel, Cond.methodLink RX5 165 yX1_tail]
def wsL_law_r23 : List Cond := [Cond.methodLink RX5 168 yX4_sum, Cond.instanceMethod yX4_sum, Cond.selects RX4 yX4_sum yX4_sum, Cond.code yX4_sum cX4_sum 3 (some .int), Cond.methodLink RX4 32 yX4_valueAt, Cond.methodLink RX5 171 yX4_greatest, Cond.instanceMethod yX4_greatest, Cond.selects RX4 yX4_greatest yX4_greatest, Cond.code yX4_greatest cX4_greatest 3 (some .int), Cond.methodLink RX4 36 Lib.Math.max.name, Cond.methodLink RL 93 yX6_vector, Cond.instanceMethod yX6_vector, Cond.selects RX6 yX6_vector yX6_vector, Cond.code yX6_vector cX6_vector 4 (some .int), Cond.methodLink RX6 127 yX6_allBlocks, Cond.static yX6_allBlocks, Cond.code yX6_allBlocks cX6_allBlocks 3 (some .int), Cond.methodLink RX6 130 yX6_sum, Cond.instanceMethod yX6_sum, Cond.selects RX6 yX6_sum yX6_sum, Cond.code yX6_sum cX6_sum 4 (some .int), Cond.methodLink RX6 133 yX6_greatest, Cond.instanceMethod yX6_greatest, Cond.selects RX6 yX6_greatest yX6_greatest]
def wsL_law_r24 : List Cond := [Cond.code yX6_greatest cX6_greatest 4 (some .int), Cond.methodLink RL 94 yX5_block, Cond.instanceMethod yX5_block, Cond.selects RX5 yX5_block yX5_block, Cond.code yX5_block cX5_block 5 (some .int), Cond.methodLink RX5 174 yX1_numberAt, Cond.instanceMethod yX1_numberAt, Cond.selects RX1 yX1_numberAt yX1_numberAt, Cond.code yX1_numberAt cX1_numberAt 4 (some .int), Cond.methodLink RL 97 yX6_block, Cond.instanceMethod yX6_block, Cond.selects RX6 yX6_block yX6_block, Cond.code yX6_block cX6_block 5 (some .int), Cond.methodLink RX6 136 yX6_id, Cond.instanceMethod yX6_id, Cond.selects RX6 yX6_id yX6_id, Cond.code yX6_id cX6_id 4 (some .int), Cond.methodLink RL 98 yX5_shared, Cond.instanceMethod yX5_shared, Cond.selects RX5 yX5_shared yX5_shared, Cond.code yX5_shared cX5_shared 5 (some .int), Cond.methodLink RX5 178 yX1_sharedWith, Cond.instanceMethod yX1_sharedWith, Cond.selects RX1 yX1_sharedWith yX1_sharedWith]
def wsL_law_r25 : List Cond := [Cond.code yX1_sharedWith cX1_sharedWith 4 (some .int), Cond.methodLink RX1 81 yX1_has, Cond.instanceMethod yX1_has, Cond.selects RX1 yX1_has yX1_has, Cond.code yX1_has cX1_has 3 (some .boolean), Cond.methodLink RL 101 yX6_shared, Cond.instanceMethod yX6_shared, Cond.selects RX6 yX6_shared yX6_shared, Cond.code yX6_shared cX6_shared 3 (some .int), Cond.methodLink RX6 147 yX6_sharedOf, Cond.instanceMethod yX6_sharedOf, Cond.selects RX6 yX6_sharedOf yX6_sharedOf, Cond.code yX6_sharedOf cX6_sharedOf 8 (some .int), Cond.methodLink RX6 140 yX6_isOfVector, Cond.instanceMethod yX6_isOfVector, Cond.selects RX6 yX6_isOfVector yX6_isOfVector, Cond.code yX6_isOfVector cX6_isOfVector 3 (some .boolean), Cond.methodLink RX6 143 yX6_has, Cond.instanceMethod yX6_has, Cond.selects RX6 yX6_has yX6_has, Cond.code yX6_has cX6_has 6 (some .boolean), Cond.methodLink RL 102 yX5_differ, Cond.instanceMethod yX5_differ, Cond.selects RX5 yX5_differ yX5_differ]
def wsL_law_r26 : List Cond := [Cond.code yX5_differ cX5_differ 5 (some .int), Cond.methodLink RX5 181 yX4_firstDifference, Cond.instanceMethod yX4_firstDifference, Cond.selects RX4 yX4_firstDifference yX4_firstDifference, Cond.code yX4_firstDifference cX4_firstDifference 4 (some .int), Cond.methodLink RX4 42 Lib.Math.min.name, Cond.methodLink RL 105 yX6_differ, Cond.instanceMethod yX6_differ, Cond.selects RX6 yX6_differ yX6_differ, Cond.code yX6_differ cX6_differ 4 (some .int), Cond.methodLink RL 106 yX5_find, Cond.instanceMethod yX5_find, Cond.selects RX5 yX5_find yX5_find, Cond.code yX5_find cX5_find 5 (some .int), Cond.methodLink RX5 184 yX4_placeOf, Cond.instanceMethod yX4_placeOf, Cond.selects RX4 yX4_placeOf yX4_placeOf, Cond.code yX4_placeOf cX4_placeOf 4 (some .int), Cond.methodLink RL 109 yX6_find, Cond.instanceMethod yX6_find, Cond.selects RX6 yX6_find yX6_find, Cond.code yX6_find cX6_find 5 (some .int), Cond.methodLink RL 110 yX5_wouldMake, Cond.instanceMethod yX5_wouldMake]
def wsL_law_r27 : List Cond := [Cond.selects RX5 yX5_wouldMake yX5_wouldMake, Cond.code yX5_wouldMake cX5_wouldMake 6 (some .int), Cond.constant RX5 191 (2147483647), Cond.methodLink RX5 187 yX1_copy, Cond.methodLink RX5 192 yX1_write, Cond.methodLink RX5 196 yX1_removeLast, Cond.methodLink RL 113 yX6_wouldMake, Cond.instanceMethod yX6_wouldMake, Cond.selects RX6 yX6_wouldMake yX6_wouldMake, Cond.code yX6_wouldMake cX6_wouldMake 8 (some .int), Cond.methodLink RL 114 yX5_edit, Cond.instanceMethod yX5_edit, Cond.selects RX5 yX5_edit yX5_edit, Cond.code yX5_edit cX5_edit 3 (some .int), Cond.fieldLink RX5 199 "TailVectors$State" "firstOwn" "I", Cond.methodLink RX5 202 yX1_blocksFrom, Cond.methodLink RX5 205 yX2_blocksNotIn, Cond.instanceMethod yX2_blocksNotIn, Cond.selects RX2 yX2_blocksNotIn yX2_blocksNotIn, Cond.code yX2_blocksNotIn cX2_blocksNotIn 6 (some .int), Cond.fieldLink RX2 70 "TailVectors$Row" "numbers" "[I", Cond.methodLink RX2 74 yX2_isInOne, Cond.instanceMethod yX2_isInOne, Cond.selects RX2 yX2_isInOne yX2_isInOne]
def wsL_law_r28 : List Cond := [Cond.code yX2_isInOne cX2_isInOne 6 (some .boolean), Cond.methodLink RX2 63 yX2_rowAt, Cond.instanceMethod yX2_rowAt, Cond.selects RX2 yX2_rowAt yX2_rowAt, Cond.code yX2_rowAt cX2_rowAt 3 (some (.object "TailVectors$Row")), Cond.fieldLink RX2 60 "TailVectors$View" "row" "LTailVectors$Row;", Cond.methodLink RX2 56 yX2_viewOf, Cond.methodLink RX2 78 yX1_has, Cond.methodLink RL 117 yX6_edit, Cond.instanceMethod yX6_edit, Cond.selects RX6 yX6_edit yX6_edit, Cond.code yX6_edit cX6_edit 3 (some .int), Cond.methodLink RX6 150 yX6_own, Cond.instanceMethod yX6_own, Cond.selects RX6 yX6_own yX6_own, Cond.code yX6_own cX6_own 5 (some .int), Cond.methodLink RL 118 yX5_count, Cond.instanceMethod yX5_count, Cond.selects RX5 yX5_count yX5_count, Cond.code yX5_count cX5_count 2 (some .int), Cond.fieldLink RX5 209 "TailVectors$State" "ever" "I", Cond.methodLink RX5 212 yX2_blocksInUse, Cond.instanceMethod yX2_blocksInUse, Cond.selects RX2 yX2_blocksInUse yX2_blocksInUse]
def wsL_law_r29 : List Cond := [Cond.code yX2_blocksInUse cX2_blocksInUse 4 (some .int), Cond.methodLink RX2 66 yX2_blocksNotIn, Cond.methodLink RX5 215 yX2_valuesShown, Cond.instanceMethod yX2_valuesShown, Cond.selects RX2 yX2_valuesShown yX2_valuesShown, Cond.code yX2_valuesShown cX2_valuesShown 4 (some .int), Cond.fieldLink RX2 32 "TailVectors$View" "many" "I", Cond.methodLink RL 121 yX6_count, Cond.instanceMethod yX6_count, Cond.selects RX6 yX6_count yX6_count, Cond.code yX6_count cX6_count 2 (some .int), Cond.methodLink RX6 153 yX6_used, Cond.instanceMethod yX6_used, Cond.selects RX6 yX6_used yX6_used, Cond.code yX6_used cX6_used 3 (some .int), Cond.methodLink RX6 156 yX6_lengths, Cond.instanceMethod yX6_lengths, Cond.selects RX6 yX6_lengths yX6_lengths, Cond.code yX6_lengths cX6_lengths 3 (some .int)]
def wsL_law : List Cond := (wsL_law_r1 ++ (wsL_law_r2 ++ (wsL_law_r3 ++ (wsL_law_r4 ++ (wsL_law_r5 ++ (wsL_law_r6 ++ (wsL_law_r7 ++ (wsL_law_r8 ++ (wsL_law_r9 ++ (wsL_law_r10 ++ (wsL_law_r11 ++ (wsL_law_r12 ++ (wsL_law_r13 ++ (wsL_law_r14 ++ (wsL_law_r15 ++ (wsL_law_r16 ++ (wsL_law_r17 ++ (wsL_law_r18 ++ (wsL_law_r19 ++ (wsL_law_r20 ++ (wsL_law_r21 ++ (wsL_law_r22 ++ (wsL_law_r23 ++ (wsL_law_r24 ++ (wsL_law_r25 ++ (wsL_law_r26 ++ (wsL_law_r27 ++ (wsL_law_r28 ++ wsL_law_r29)))))))))))))))))))))))))))) ++ wsX50 ++ wsX60 ++ wsX20 ++ wsX00 ++ wsX30 ++ wsX40 ++ wsX10 ++ ([] : List Cond)
abbrev vwCl : List vw_C := [(RX0, TX0, 2), (RX1, TX1, 3), (RX2, TX2, 5), (RX3, TX3, 2), (RX4, TX4, 4), (RX5, TX5, 5), (RX6, TX6, 9)]
/-! ===== END ===== -/
end
section
set_option maxRecDepth 20000 in
theorem ggX0_init_X2_init : GoodIn wsX0_init wsX2_init := goodIn_r _ [11, 12, 2, 3, 13, 14, 15, 16, 17, 18, 19, 22, 23, 24, 25, 26] (by decide +kernel) (by decide +kernel)
set_option maxRecDepth 20000 in
theorem gX0_init_X2_init : GoodIn wsX0_init (wsX2_init) := ggX0_init_X2_init
theorem dX0_init_0 : decode cX0_init 0 = .ok (.aload_n 0, 1) := by decide +kernel
theorem dX0_init_1 : decode cX0_init 1 = .ok (.invokespecial 3, 3) := by decide +kernel
theorem dX0_init_4 : decode cX0_init 4 = .ok (.aload_n 0, 1) := by decide +kernel
theorem dX0_init_5 : decode cX0_init 5 = .ok (.iconst 4, 1) := by decide +kernel
theorem dX0_init_6 : decode cX0_init 6 = .ok (.anewarray 9, 3) := by decide +kernel
theorem dX0_init_9 : decode cX0_init 9 = .ok (.putfield 11, 3) := by decide +kernel
theorem dX0_init_12 : decode cX0_init 12 = .ok (.iconst 0, 1) := by decide +kernel
theorem dX0_init_13 : decode cX0_init 13 = .ok (.istore_n 1, 1) := by decide +kernel
theorem dX0_init_14 : decode cX0_init 14 = .ok (.iload_n 1, 1) := by decide +kernel
theorem dX0_init_15 : decode cX0_init 15 = .ok (.iconst 4, 1) := by decide +kernel
theorem dX0_init_16 : decode cX0_init 16 = .ok (.if_icmp .ge 22, 3) := by decide +kernel
theorem dX0_init_19 : decode cX0_init 19 = .ok (.aload_n 0, 1) := by decide +kernel
theorem dX0_init_20 : decode cX0_init 20 = .ok (.getfield 11, 3) := by decide +kernel
theorem dX0_init_23 : decode cX0_init 23 = .ok (.iload_n 1, 1) := by decide +kernel
theorem dX0_init_24 : decode cX0_init 24 = .ok (.new 9, 3) := by decide +kernel
theorem dX0_init_27 : decode cX0_init 27 = .ok (.dup, 1) := by decide +kernel
theorem dX0_init_28 : decode cX0_init 28 = .ok (.invokespecial 17, 3) := by decide +kernel
theorem dX0_init_31 : decode cX0_init 31 = .ok (.aastore, 1) := by decide +kernel
theorem dX0_init_32 : decode cX0_init 32 = .ok (.iinc 1 1, 3) := by decide +kernel
theorem dX0_init_35 : decode cX0_init 35 = .ok (.goto (-21), 3) := by decide +kernel
theorem dX0_init_38 : decode cX0_init 38 = .ok (.aload_n 0, 1) := by decide +kernel
theorem dX0_init_39 : decode cX0_init 39 = .ok (.iconst 0, 1) := by decide +kernel
theorem dX0_init_40 : decode cX0_init 40 = .ok (.putfield 18, 3) := by decide +kernel
theorem dX0_init_43 : decode cX0_init 43 = .ok (.return_, 1) := by decide +kernel
set_option maxRecDepth 20000 in
theorem ggX0_remember_X0_forgetOldest : GoodIn wsX0_remember wsX0_forgetOldest := goodIn_r _ [6, 7, 1, 22, 23] (by decide +kernel) (by decide +kernel)
set_option maxRecDepth 20000 in
theorem gX0_remember_X0_forgetOldest : GoodIn wsX0_remember (wsV RX0 22 RX0 yX0_forgetOldest wsX0_forgetOldest) := goodIn_app (goodIn_of _ (by decide +kernel)) ggX0_remember_X0_forgetOldest
set_option maxRecDepth 20000 in
theorem ggX0_remember_X0_stateAt : GoodIn wsX0_remember wsX0_stateAt := goodIn_r _ [11, 7, 22, 23] (by decide +kernel) (by decide +kernel)
set_option maxRecDepth 20000 in
theorem gX0_remember_X0_stateAt : GoodIn wsX0_remember (wsV RX0 25 RX0 yX0_stateAt wsX0_stateAt) := goodIn_app (goodIn_of _ (by decide +kernel)) ggX0_remember_X0_stateAt
set_option maxRecDepth 20000 in
theorem ggX0_remember_X2_copyFrom : GoodIn wsX0_remember wsX2_copyFrom := goodIn_r _ [16, 17, 18, 19, 20, 21, 24, 25, 26, 27, 28] (by decide +kernel) (by decide +kernel)
set_option maxRecDepth 20000 in
theorem gX0_remember_X2_copyFrom : GoodIn wsX0_remember (wsV RX0 29 RX2 yX2_copyFrom wsX2_copyFrom) := goodIn_app (goodIn_of _ (by decide +kernel)) ggX0_remember_X2_copyFrom
theorem dX0_remember_0 : decode cX0_remember 0 = .ok (.aload_n 0, 1) := by decide +kernel
theorem dX0_remember_1 : decode cX0_remember 1 = .ok (.getfield 18, 3) := by decide +kernel
theorem dX0_remember_4 : decode cX0_remember 4 = .ok (.iconst 4, 1) := by decide +kernel
theorem dX0_remember_5 : decode cX0_remember 5 = .ok (.if_icmp .lt 7, 3) := by decide +kernel
theorem dX0_remember_8 : decode cX0_remember 8 = .ok (.aload_n 0, 1) := by decide +kernel
theorem dX0_remember_9 : decode cX0_remember 9 = .ok (.invokevirtual 22, 3) := by decide +kernel
theorem dX0_remember_12 : decode cX0_remember 12 = .ok (.aload_n 0, 1) := by decide +kernel
theorem dX0_remember_13 : decode cX0_remember 13 = .ok (.aload_n 0, 1) := by decide +kernel
theorem dX0_remember_14 : decode cX0_remember 14 = .ok (.getfield 18, 3) := by decide +kernel
theorem dX0_remember_17 : decode cX0_remember 17 = .ok (.invokevirtual 25, 3) := by decide +kernel
theorem dX0_remember_20 : decode cX0_remember 20 = .ok (.astore_n 2, 1) := by decide +kernel
theorem dX0_remember_21 : decode cX0_remember 21 = .ok (.aload_n 2, 1) := by decide +kernel
theorem dX0_remember_22 : decode cX0_remember 22 = .ok (.ifnull 18, 3) := by decide +kernel
theorem dX0_remember_25 : decode cX0_remember 25 = .ok (.aload_n 2, 1) := by decide +kernel
theorem dX0_remember_26 : decode cX0_remember 26 = .ok (.aload_n 1, 1) := by decide +kernel
theorem dX0_remember_27 : decode cX0_remember 27 = .ok (.invokevirtual 29, 3) := by decide +kernel
theorem dX0_remember_30 : decode cX0_remember 30 = .ok (.aload_n 0, 1) := by decide +kernel
theorem dX0_remember_31 : decode cX0_remember 31 = .ok (.dup, 1) := by decide +kernel
theorem dX0_remember_32 : decode cX0_remember 32 = .ok (.getfield 18, 3) := by decide +kernel
theorem dX0_remember_35 : decode cX0_remember 35 = .ok (.iconst 1, 1) := by decide +kernel
theorem dX0_remember_36 : decode cX0_remember 36 = .ok (.iadd, 1) := by decide +kernel
theorem dX0_remember_37 : decode cX0_remember 37 = .ok (.putfield 18, 3) := by decide +kernel
theorem dX0_remember_40 : decode cX0_remember 40 = .ok (.return_, 1) := by decide +kernel
set_option maxRecDepth 20000 in
theorem ggX0_takeBack_X0_stateAt : GoodIn wsX0_takeBack wsX0_stateAt := goodIn_r _ [6, 7, 18, 19] (by decide +kernel) (by decide +kernel)
set_option maxRecDepth 20000 in
theorem gX0_takeBack_X0_stateAt : GoodIn wsX0_takeBack (wsV RX0 25 RX0 yX0_stateAt wsX0_stateAt) := goodIn_app (goodIn_of _ (by decide +kernel)) ggX0_takeBack_X0_stateAt
set_option maxRecDepth 20000 in
theorem ggX0_takeBack_X2_copyFrom : GoodIn wsX0_takeBack wsX2_copyFrom := goodIn_r _ [12, 13, 14, 15, 16, 17, 20, 21, 22, 23, 24] (by decide +kernel) (by decide +kernel)
set_option maxRecDepth 20000 in
theorem gX0_takeBack_X2_copyFrom : GoodIn wsX0_takeBack (wsV RX0 29 RX2 yX2_copyFrom wsX2_copyFrom) := goodIn_app (goodIn_of _ (by decide +kernel)) ggX0_takeBack_X2_copyFrom
theorem dX0_takeBack_0 : decode cX0_takeBack 0 = .ok (.aload_n 0, 1) := by decide +kernel
theorem dX0_takeBack_1 : decode cX0_takeBack 1 = .ok (.aload_n 0, 1) := by decide +kernel
theorem dX0_takeBack_2 : decode cX0_takeBack 2 = .ok (.getfield 18, 3) := by decide +kernel
theorem dX0_takeBack_5 : decode cX0_takeBack 5 = .ok (.iconst 1, 1) := by decide +kernel
theorem dX0_takeBack_6 : decode cX0_takeBack 6 = .ok (.isub, 1) := by decide +kernel
theorem dX0_takeBack_7 : decode cX0_takeBack 7 = .ok (.invokevirtual 25, 3) := by decide +kernel
theorem dX0_takeBack_10 : decode cX0_takeBack 10 = .ok (.astore_n 2, 1) := by decide +kernel
theorem dX0_takeBack_11 : decode cX0_takeBack 11 = .ok (.aload_n 2, 1) := by decide +kernel
theorem dX0_takeBack_12 : decode cX0_takeBack 12 = .ok (.ifnull 18, 3) := by decide +kernel
theorem dX0_takeBack_15 : decode cX0_takeBack 15 = .ok (.aload_n 1, 1) := by decide +kernel
theorem dX0_takeBack_16 : decode cX0_takeBack 16 = .ok (.aload_n 2, 1) := by decide +kernel
theorem dX0_takeBack_17 : decode cX0_takeBack 17 = .ok (.invokevirtual 29, 3) := by decide +kernel
theorem dX0_takeBack_20 : decode cX0_takeBack 20 = .ok (.aload_n 0, 1) := by decide +kernel
theorem dX0_takeBack_21 : decode cX0_takeBack 21 = .ok (.dup, 1) := by decide +kernel
theorem dX0_takeBack_22 : decode cX0_takeBack 22 = .ok (.getfield 18, 3) := by decide +kernel
theorem dX0_takeBack_25 : decode cX0_takeBack 25 = .ok (.iconst 1, 1) := by decide +kernel
theorem dX0_takeBack_26 : decode cX0_takeBack 26 = .ok (.isub, 1) := by decide +kernel
theorem dX0_takeBack_27 : decode cX0_takeBack 27 = .ok (.putfield 18, 3) := by decide +kernel
theorem dX0_takeBack_30 : decode cX0_takeBack 30 = .ok (.return_, 1) := by decide +kernel
theorem dX0_stateAt_0 : decode cX0_stateAt 0 = .ok (.iload_n 1, 1) := by decide +kernel
theorem dX0_stateAt_1 : decode cX0_stateAt 1 = .ok (.ifCond .lt 17, 3) := by decide +kernel
theorem dX0_stateAt_4 : decode cX0_stateAt 4 = .ok (.iload_n 1, 1) := by decide +kernel
theorem dX0_stateAt_5 : decode cX0_stateAt 5 = .ok (.iconst 4, 1) := by decide +kernel
theorem dX0_stateAt_6 : decode cX0_stateAt 6 = .ok (.if_icmp .ge 12, 3) := by decide +kernel
theorem dX0_stateAt_9 : decode cX0_stateAt 9 = .ok (.aload_n 0, 1) := by decide +kernel
theorem dX0_stateAt_10 : decode cX0_stateAt 10 = .ok (.getfield 11, 3) := by decide +kernel
theorem dX0_stateAt_13 : decode cX0_stateAt 13 = .ok (.iload_n 1, 1) := by decide +kernel
theorem dX0_stateAt_14 : decode cX0_stateAt 14 = .ok (.aaload, 1) := by decide +kernel
theorem dX0_stateAt_15 : decode cX0_stateAt 15 = .ok (.goto 4, 3) := by decide +kernel
theorem dX0_stateAt_18 : decode cX0_stateAt 18 = .ok (.aconst_null, 1) := by decide +kernel
theorem dX0_stateAt_19 : decode cX0_stateAt 19 = .ok (.areturn, 1) := by decide +kernel
theorem dX0_forgetOldest_0 : decode cX0_forgetOldest 0 = .ok (.aload_n 0, 1) := by decide +kernel
theorem dX0_forgetOldest_1 : decode cX0_forgetOldest 1 = .ok (.getfield 11, 3) := by decide +kernel
theorem dX0_forgetOldest_4 : decode cX0_forgetOldest 4 = .ok (.iconst 0, 1) := by decide +kernel
theorem dX0_forgetOldest_5 : decode cX0_forgetOldest 5 = .ok (.aaload, 1) := by decide +kernel
theorem dX0_forgetOldest_6 : decode cX0_forgetOldest 6 = .ok (.astore_n 1, 1) := by decide +kernel
theorem dX0_forgetOldest_7 : decode cX0_forgetOldest 7 = .ok (.iconst 1, 1) := by decide +kernel
theorem dX0_forgetOldest_8 : decode cX0_forgetOldest 8 = .ok (.istore_n 2, 1) := by decide +kernel
theorem dX0_forgetOldest_9 : decode cX0_forgetOldest 9 = .ok (.iload_n 2, 1) := by decide +kernel
theorem dX0_forgetOldest_10 : decode cX0_forgetOldest 10 = .ok (.iconst 4, 1) := by decide +kernel
theorem dX0_forgetOldest_11 : decode cX0_forgetOldest 11 = .ok (.if_icmp .ge 23, 3) := by decide +kernel
theorem dX0_forgetOldest_14 : decode cX0_forgetOldest 14 = .ok (.aload_n 0, 1) := by decide +kernel
theorem dX0_forgetOldest_15 : decode cX0_forgetOldest 15 = .ok (.getfield 11, 3) := by decide +kernel
theorem dX0_forgetOldest_18 : decode cX0_forgetOldest 18 = .ok (.iload_n 2, 1) := by decide +kernel
theorem dX0_forgetOldest_19 : decode cX0_forgetOldest 19 = .ok (.iconst 1, 1) := by decide +kernel
theorem dX0_forgetOldest_20 : decode cX0_forgetOldest 20 = .ok (.isub, 1) := by decide +kernel
theorem dX0_forgetOldest_21 : decode cX0_forgetOldest 21 = .ok (.aload_n 0, 1) := by decide +kernel
theorem dX0_forgetOldest_22 : decode cX0_forgetOldest 22 = .ok (.getfield 11, 3) := by decide +kernel
theorem dX0_forgetOldest_25 : decode cX0_forgetOldest 25 = .ok (.iload_n 2, 1) := by decide +kernel
theorem dX0_forgetOldest_26 : decode cX0_forgetOldest 26 = .ok (.aaload, 1) := by decide +kernel
theorem dX0_forgetOldest_27 : decode cX0_forgetOldest 27 = .ok (.aastore, 1) := by decide +kernel
theorem dX0_forgetOldest_28 : decode cX0_forgetOldest 28 = .ok (.iinc 2 1, 3) := by decide +kernel
theorem dX0_forgetOldest_31 : decode cX0_forgetOldest 31 = .ok (.goto (-22), 3) := by decide +kernel
theorem dX0_forgetOldest_34 : decode cX0_forgetOldest 34 = .ok (.aload_n 0, 1) := by decide +kernel
theorem dX0_forgetOldest_35 : decode cX0_forgetOldest 35 = .ok (.getfield 11, 3) := by decide +kernel
theorem dX0_forgetOldest_38 : decode cX0_forgetOldest 38 = .ok (.iconst 3, 1) := by decide +kernel
theorem dX0_forgetOldest_39 : decode cX0_forgetOldest 39 = .ok (.aload_n 1, 1) := by decide +kernel
theorem dX0_forgetOldest_40 : decode cX0_forgetOldest 40 = .ok (.aastore, 1) := by decide +kernel
theorem dX0_forgetOldest_41 : decode cX0_forgetOldest 41 = .ok (.aload_n 0, 1) := by decide +kernel
theorem dX0_forgetOldest_42 : decode cX0_forgetOldest 42 = .ok (.iconst 3, 1) := by decide +kernel
theorem dX0_forgetOldest_43 : decode cX0_forgetOldest 43 = .ok (.putfield 18, 3) := by decide +kernel
theorem dX0_forgetOldest_46 : decode cX0_forgetOldest 46 = .ok (.return_, 1) := by decide +kernel
set_option maxRecDepth 20000 in
theorem ggX1_init_J7_fill_53178 : GoodIn wsX1_init wsJ7_fill_53178 := goodIn_r _ [18] (by decide +kernel) (by decide +kernel)
set_option maxRecDepth 20000 in
theorem gX1_init_J7_fill_53178 : GoodIn wsX1_init (va_wsS RX1 27 yJ7_fill_53178 wsJ7_fill_53178) := goodIn_app (goodIn_of _ (by decide +kernel)) ggX1_init_J7_fill_53178
theorem dX1_init_0 : decode cX1_init 0 = .ok (.aload_n 0, 1) := by decide +kernel
theorem dX1_init_1 : decode cX1_init 1 = .ok (.invokespecial 3, 3) := by decide +kernel
theorem dX1_init_4 : decode cX1_init 4 = .ok (.aload_n 0, 1) := by decide +kernel
theorem dX1_init_5 : decode cX1_init 5 = .ok (.iconst 0, 1) := by decide +kernel
theorem dX1_init_6 : decode cX1_init 6 = .ok (.iload_n 1, 1) := by decide +kernel
theorem dX1_init_7 : decode cX1_init 7 = .ok (.sipush 300, 3) := by decide +kernel
theorem dX1_init_10 : decode cX1_init 10 = .ok (.invokestatic 9, 3) := by decide +kernel
theorem dX1_init_13 : decode cX1_init 13 = .ok (.invokestatic 15, 3) := by decide +kernel
theorem dX1_init_16 : decode cX1_init 16 = .ok (.newarray .int, 2) := by decide +kernel
theorem dX1_init_18 : decode cX1_init 18 = .ok (.putfield 18, 3) := by decide +kernel
theorem dX1_init_21 : decode cX1_init 21 = .ok (.aload_n 0, 1) := by decide +kernel
theorem dX1_init_22 : decode cX1_init 22 = .ok (.bipush 101, 2) := by decide +kernel
theorem dX1_init_24 : decode cX1_init 24 = .ok (.newarray .int, 2) := by decide +kernel
theorem dX1_init_26 : decode cX1_init 26 = .ok (.putfield 24, 3) := by decide +kernel
theorem dX1_init_29 : decode cX1_init 29 = .ok (.aload_n 0, 1) := by decide +kernel
theorem dX1_init_30 : decode cX1_init 30 = .ok (.getfield 24, 3) := by decide +kernel
theorem dX1_init_33 : decode cX1_init 33 = .ok (.bipush (-5), 2) := by decide +kernel
theorem dX1_init_35 : decode cX1_init 35 = .ok (.invokestatic 27, 3) := by decide +kernel
theorem dX1_init_38 : decode cX1_init 38 = .ok (.aload_n 0, 1) := by decide +kernel
theorem dX1_init_39 : decode cX1_init 39 = .ok (.iconst 0, 1) := by decide +kernel
theorem dX1_init_40 : decode cX1_init 40 = .ok (.putfield 33, 3) := by decide +kernel
theorem dX1_init_43 : decode cX1_init 43 = .ok (.return_, 1) := by decide +kernel
set_option maxRecDepth 20000 in
theorem ggX1_copy_X1_init : GoodIn wsX1_copy wsX1_init := goodIn_r _ [13, 14, 15, 16, 6, 7, 8, 9, 17, 18, 19, 20, 5, 10, 4, 21, 22, 23, 24, 25, 26, 27] (by decide +kernel) (by decide +kernel)
set_option maxRecDepth 20000 in
theorem gX1_copy_X1_init : GoodIn wsX1_copy (wsX1_init) := ggX1_copy_X1_init
theorem dX1_copy_0 : decode cX1_copy 0 = .ok (.new 19, 3) := by decide +kernel
theorem dX1_copy_3 : decode cX1_copy 3 = .ok (.dup, 1) := by decide +kernel
theorem dX1_copy_4 : decode cX1_copy 4 = .ok (.aload_n 0, 1) := by decide +kernel
theorem dX1_copy_5 : decode cX1_copy 5 = .ok (.getfield 33, 3) := by decide +kernel
theorem dX1_copy_8 : decode cX1_copy 8 = .ok (.iload_n 1, 1) := by decide +kernel
theorem dX1_copy_9 : decode cX1_copy 9 = .ok (.iadd, 1) := by decide +kernel
theorem dX1_copy_10 : decode cX1_copy 10 = .ok (.invokespecial 37, 3) := by decide +kernel
theorem dX1_copy_13 : decode cX1_copy 13 = .ok (.astore_n 2, 1) := by decide +kernel
theorem dX1_copy_14 : decode cX1_copy 14 = .ok (.aload_n 0, 1) := by decide +kernel
theorem dX1_copy_15 : decode cX1_copy 15 = .ok (.getfield 33, 3) := by decide +kernel
theorem dX1_copy_18 : decode cX1_copy 18 = .ok (.aload_n 2, 1) := by decide +kernel
theorem dX1_copy_19 : decode cX1_copy 19 = .ok (.getfield 18, 3) := by decide +kernel
theorem dX1_copy_22 : decode cX1_copy 22 = .ok (.arraylength, 1) := by decide +kernel
theorem dX1_copy_23 : decode cX1_copy 23 = .ok (.invokestatic 9, 3) := by decide +kernel
theorem dX1_copy_26 : decode cX1_copy 26 = .ok (.istore_n 3, 1) := by decide +kernel
theorem dX1_copy_27 : decode cX1_copy 27 = .ok (.iconst 0, 1) := by decide +kernel
theorem dX1_copy_28 : decode cX1_copy 28 = .ok (.istore 4, 2) := by decide +kernel
theorem dX1_copy_30 : decode cX1_copy 30 = .ok (.iload 4, 2) := by decide +kernel
theorem dX1_copy_32 : decode cX1_copy 32 = .ok (.iload_n 3, 1) := by decide +kernel
theorem dX1_copy_33 : decode cX1_copy 33 = .ok (.if_icmp .ge 23, 3) := by decide +kernel
theorem dX1_copy_36 : decode cX1_copy 36 = .ok (.aload_n 2, 1) := by decide +kernel
theorem dX1_copy_37 : decode cX1_copy 37 = .ok (.getfield 18, 3) := by decide +kernel
theorem dX1_copy_40 : decode cX1_copy 40 = .ok (.iload 4, 2) := by decide +kernel
theorem dX1_copy_42 : decode cX1_copy 42 = .ok (.aload_n 0, 1) := by decide +kernel
theorem dX1_copy_43 : decode cX1_copy 43 = .ok (.getfield 18, 3) := by decide +kernel
theorem dX1_copy_46 : decode cX1_copy 46 = .ok (.iload 4, 2) := by decide +kernel
theorem dX1_copy_48 : decode cX1_copy 48 = .ok (.iaload, 1) := by decide +kernel
theorem dX1_copy_49 : decode cX1_copy 49 = .ok (.iastore, 1) := by decide +kernel
theorem dX1_copy_50 : decode cX1_copy 50 = .ok (.iinc 4 1, 3) := by decide +kernel
theorem dX1_copy_53 : decode cX1_copy 53 = .ok (.goto (-23), 3) := by decide +kernel
theorem dX1_copy_56 : decode cX1_copy 56 = .ok (.iconst 0, 1) := by decide +kernel
theorem dX1_copy_57 : decode cX1_copy 57 = .ok (.istore 4, 2) := by decide +kernel
theorem dX1_copy_59 : decode cX1_copy 59 = .ok (.iload 4, 2) := by decide +kernel
theorem dX1_copy_61 : decode cX1_copy 61 = .ok (.bipush 101, 2) := by decide +kernel
theorem dX1_copy_63 : decode cX1_copy 63 = .ok (.if_icmp .ge 23, 3) := by decide +kernel
theorem dX1_copy_66 : decode cX1_copy 66 = .ok (.aload_n 2, 1) := by decide +kernel
theorem dX1_copy_67 : decode cX1_copy 67 = .ok (.getfield 24, 3) := by decide +kernel
theorem dX1_copy_70 : decode cX1_copy 70 = .ok (.iload 4, 2) := by decide +kernel
theorem dX1_copy_72 : decode cX1_copy 72 = .ok (.aload_n 0, 1) := by decide +kernel
theorem dX1_copy_73 : decode cX1_copy 73 = .ok (.getfield 24, 3) := by decide +kernel
theorem dX1_copy_76 : decode cX1_copy 76 = .ok (.iload 4, 2) := by decide +kernel
theorem dX1_copy_78 : decode cX1_copy 78 = .ok (.iaload, 1) := by decide +kernel
theorem dX1_copy_79 : decode cX1_copy 79 = .ok (.iastore, 1) := by decide +kernel
theorem dX1_copy_80 : decode cX1_copy 80 = .ok (.iinc 4 1, 3) := by decide +kernel
theorem dX1_copy_83 : decode cX1_copy 83 = .ok (.goto (-24), 3) := by decide +kernel
theorem dX1_copy_86 : decode cX1_copy 86 = .ok (.aload_n 2, 1) := by decide +kernel
theorem dX1_copy_87 : decode cX1_copy 87 = .ok (.iload_n 3, 1) := by decide +kernel
theorem dX1_copy_88 : decode cX1_copy 88 = .ok (.putfield 33, 3) := by decide +kernel
theorem dX1_copy_91 : decode cX1_copy 91 = .ok (.aload_n 2, 1) := by decide +kernel
theorem dX1_copy_92 : decode cX1_copy 92 = .ok (.areturn, 1) := by decide +kernel
theorem dX1_leaves_0 : decode cX1_leaves 0 = .ok (.aload_n 0, 1) := by decide +kernel
theorem dX1_leaves_1 : decode cX1_leaves 1 = .ok (.getfield 33, 3) := by decide +kernel
theorem dX1_leaves_4 : decode cX1_leaves 4 = .ok (.ifCond .ne 7, 3) := by decide +kernel
theorem dX1_leaves_7 : decode cX1_leaves 7 = .ok (.iconst 0, 1) := by decide +kernel
theorem dX1_leaves_8 : decode cX1_leaves 8 = .ok (.goto 11, 3) := by decide +kernel
theorem dX1_leaves_11 : decode cX1_leaves 11 = .ok (.aload_n 0, 1) := by decide +kernel
theorem dX1_leaves_12 : decode cX1_leaves 12 = .ok (.getfield 33, 3) := by decide +kernel
theorem dX1_leaves_15 : decode cX1_leaves 15 = .ok (.iconst 1, 1) := by decide +kernel
theorem dX1_leaves_16 : decode cX1_leaves 16 = .ok (.isub, 1) := by decide +kernel
theorem dX1_leaves_17 : decode cX1_leaves 17 = .ok (.iconst 4, 1) := by decide +kernel
theorem dX1_leaves_18 : decode cX1_leaves 18 = .ok (.idiv, 1) := by decide +kernel
theorem dX1_leaves_19 : decode cX1_leaves 19 = .ok (.ireturn, 1) := by decide +kernel
set_option maxRecDepth 20000 in
theorem ggX1_tail_X1_leaves : GoodIn wsX1_tail wsX1_leaves := goodIn_r _ [6, 1, 7, 8, 9] (by decide +kernel) (by decide +kernel)
set_option maxRecDepth 20000 in
theorem gX1_tail_X1_leaves : GoodIn wsX1_tail (wsV RX1 40 RX1 yX1_leaves wsX1_leaves) := goodIn_app (goodIn_of _ (by decide +kernel)) ggX1_tail_X1_leaves
theorem dX1_tail_0 : decode cX1_tail 0 = .ok (.aload_n 0, 1) := by decide +kernel
theorem dX1_tail_1 : decode cX1_tail 1 = .ok (.getfield 33, 3) := by decide +kernel
theorem dX1_tail_4 : decode cX1_tail 4 = .ok (.aload_n 0, 1) := by decide +kernel
theorem dX1_tail_5 : decode cX1_tail 5 = .ok (.invokevirtual 40, 3) := by decide +kernel
theorem dX1_tail_8 : decode cX1_tail 8 = .ok (.iconst 4, 1) := by decide +kernel
theorem dX1_tail_9 : decode cX1_tail 9 = .ok (.imul, 1) := by decide +kernel
theorem dX1_tail_10 : decode cX1_tail 10 = .ok (.isub, 1) := by decide +kernel
theorem dX1_tail_11 : decode cX1_tail 11 = .ok (.ireturn, 1) := by decide +kernel
theorem dX1_slotOf_0 : decode cX1_slotOf 0 = .ok (.iload_n 0, 1) := by decide +kernel
theorem dX1_slotOf_1 : decode cX1_slotOf 1 = .ok (.ifCond .lt 12, 3) := by decide +kernel
theorem dX1_slotOf_4 : decode cX1_slotOf 4 = .ok (.iload_n 0, 1) := by decide +kernel
theorem dX1_slotOf_5 : decode cX1_slotOf 5 = .ok (.iconst 4, 1) := by decide +kernel
theorem dX1_slotOf_6 : decode cX1_slotOf 6 = .ok (.if_icmp .gt 7, 3) := by decide +kernel
theorem dX1_slotOf_9 : decode cX1_slotOf 9 = .ok (.iload_n 1, 1) := by decide +kernel
theorem dX1_slotOf_10 : decode cX1_slotOf 10 = .ok (.ifCond .ge 5, 3) := by decide +kernel
theorem dX1_slotOf_13 : decode cX1_slotOf 13 = .ok (.iconst (-1), 1) := by decide +kernel
theorem dX1_slotOf_14 : decode cX1_slotOf 14 = .ok (.ireturn, 1) := by decide +kernel
theorem dX1_slotOf_15 : decode cX1_slotOf 15 = .ok (.getstatic 44, 3) := by decide +kernel
theorem dX1_slotOf_18 : decode cX1_slotOf 18 = .ok (.iload_n 0, 1) := by decide +kernel
theorem dX1_slotOf_19 : decode cX1_slotOf 19 = .ok (.iaload, 1) := by decide +kernel
theorem dX1_slotOf_20 : decode cX1_slotOf 20 = .ok (.istore_n 2, 1) := by decide +kernel
theorem dX1_slotOf_21 : decode cX1_slotOf 21 = .ok (.iload_n 1, 1) := by decide +kernel
theorem dX1_slotOf_22 : decode cX1_slotOf 22 = .ok (.getstatic 44, 3) := by decide +kernel
theorem dX1_slotOf_25 : decode cX1_slotOf 25 = .ok (.iload_n 0, 1) := by decide +kernel
theorem dX1_slotOf_26 : decode cX1_slotOf 26 = .ok (.iconst 1, 1) := by decide +kernel
theorem dX1_slotOf_27 : decode cX1_slotOf 27 = .ok (.iadd, 1) := by decide +kernel
theorem dX1_slotOf_28 : decode cX1_slotOf 28 = .ok (.iaload, 1) := by decide +kernel
theorem dX1_slotOf_29 : decode cX1_slotOf 29 = .ok (.iload_n 2, 1) := by decide +kernel
theorem dX1_slotOf_30 : decode cX1_slotOf 30 = .ok (.isub, 1) := by decide +kernel
theorem dX1_slotOf_31 : decode cX1_slotOf 31 = .ok (.if_icmp .ge 9, 3) := by decide +kernel
theorem dX1_slotOf_34 : decode cX1_slotOf 34 = .ok (.iload_n 2, 1) := by decide +kernel
theorem dX1_slotOf_35 : decode cX1_slotOf 35 = .ok (.iload_n 1, 1) := by decide +kernel
theorem dX1_slotOf_36 : decode cX1_slotOf 36 = .ok (.iadd, 1) := by decide +kernel
theorem dX1_slotOf_37 : decode cX1_slotOf 37 = .ok (.goto 4, 3) := by decide +kernel
theorem dX1_slotOf_40 : decode cX1_slotOf 40 = .ok (.iconst (-1), 1) := by decide +kernel
theorem dX1_slotOf_41 : decode cX1_slotOf 41 = .ok (.ireturn, 1) := by decide +kernel
set_option maxRecDepth 20000 in
theorem ggX1_numberAt_X1_slotOf : GoodIn wsX1_numberAt wsX1_slotOf := goodIn_r _ [5] (by decide +kernel) (by decide +kernel)
set_option maxRecDepth 20000 in
theorem gX1_numberAt_X1_slotOf : GoodIn wsX1_numberAt (va_wsS RX1 47 yX1_slotOf wsX1_slotOf) := goodIn_app (goodIn_of _ (by decide +kernel)) ggX1_numberAt_X1_slotOf
theorem dX1_numberAt_0 : decode cX1_numberAt 0 = .ok (.iload_n 1, 1) := by decide +kernel
theorem dX1_numberAt_1 : decode cX1_numberAt 1 = .ok (.iload_n 2, 1) := by decide +kernel
theorem dX1_numberAt_2 : decode cX1_numberAt 2 = .ok (.invokestatic 47, 3) := by decide +kernel
theorem dX1_numberAt_5 : decode cX1_numberAt 5 = .ok (.istore_n 3, 1) := by decide +kernel
theorem dX1_numberAt_6 : decode cX1_numberAt 6 = .ok (.iload_n 3, 1) := by decide +kernel
theorem dX1_numberAt_7 : decode cX1_numberAt 7 = .ok (.ifCond .ge 8, 3) := by decide +kernel
theorem dX1_numberAt_10 : decode cX1_numberAt 10 = .ok (.bipush (-5), 2) := by decide +kernel
theorem dX1_numberAt_12 : decode cX1_numberAt 12 = .ok (.goto 9, 3) := by decide +kernel
theorem dX1_numberAt_15 : decode cX1_numberAt 15 = .ok (.aload_n 0, 1) := by decide +kernel
theorem dX1_numberAt_16 : decode cX1_numberAt 16 = .ok (.getfield 24, 3) := by decide +kernel
theorem dX1_numberAt_19 : decode cX1_numberAt 19 = .ok (.iload_n 3, 1) := by decide +kernel
theorem dX1_numberAt_20 : decode cX1_numberAt 20 = .ok (.iaload, 1) := by decide +kernel
theorem dX1_numberAt_21 : decode cX1_numberAt 21 = .ok (.ireturn, 1) := by decide +kernel
set_option maxRecDepth 20000 in
theorem ggX1_write_X1_tail : GoodIn wsX1_write wsX1_tail := goodIn_r _ [7, 1, 8, 9, 10, 6, 11, 31, 32, 33] (by decide +kernel) (by decide +kernel)
set_option maxRecDepth 20000 in
theorem gX1_write_X1_tail : GoodIn wsX1_write (wsV RX1 50 RX1 yX1_tail wsX1_tail) := goodIn_app (goodIn_of _ (by decide +kernel)) ggX1_write_X1_tail
set_option maxRecDepth 20000 in
theorem ggX1_write_X1_hangTail : GoodIn wsX1_write wsX1_hangTail := goodIn_r _ [15, 8, 9, 10, 6, 11, 1, 16, 17, 18, 19, 20, 21, 22, 23, 24, 25, 26, 27, 28, 29, 30, 31, 32, 33] (by decide +kernel) (by decide +kernel)
set_option maxRecDepth 20000 in
theorem gX1_write_X1_hangTail : GoodIn wsX1_write (wsV RX1 53 RX1 yX1_hangTail wsX1_hangTail) := goodIn_app (goodIn_of _ (by decide +kernel)) ggX1_write_X1_hangTail
set_option maxRecDepth 20000 in
theorem ggX1_write_X1_leaves : GoodIn wsX1_write wsX1_leaves := goodIn_r _ [11, 1, 31, 32, 33] (by decide +kernel) (by decide +kernel)
set_option maxRecDepth 20000 in
theorem gX1_write_X1_leaves : GoodIn wsX1_write (wsV RX1 40 RX1 yX1_leaves wsX1_leaves) := goodIn_app (goodIn_of _ (by decide +kernel)) ggX1_write_X1_leaves
set_option maxRecDepth 20000 in
theorem ggX1_write_X5_rootLevel : GoodIn wsX1_write wsX5_rootLevel := goodIn_r _ [18] (by decide +kernel) (by decide +kernel)
set_option maxRecDepth 20000 in
theorem gX1_write_X5_rootLevel_n56 : GoodIn wsX1_write (wsX5_rootLevel) := ggX1_write_X5_rootLevel
set_option maxRecDepth 20000 in
theorem ggX1_write_X1_makePath : GoodIn wsX1_write wsX1_makePath := goodIn_r _ [22, 23, 24, 6, 25, 26, 27, 28, 29, 30, 31, 32, 33] (by decide +kernel) (by decide +kernel)
set_option maxRecDepth 20000 in
theorem gX1_write_X1_makePath : GoodIn wsX1_write (wsV RX1 60 RX1 yX1_makePath wsX1_makePath) := goodIn_app (goodIn_of _ (by decide +kernel)) ggX1_write_X1_makePath
theorem dX1_write_0 : decode cX1_write 0 = .ok (.iload_n 1, 1) := by decide +kernel
theorem dX1_write_1 : decode cX1_write 1 = .ok (.ifCond .lt 20, 3) := by decide +kernel
theorem dX1_write_4 : decode cX1_write 4 = .ok (.iload_n 1, 1) := by decide +kernel
theorem dX1_write_5 : decode cX1_write 5 = .ok (.aload_n 0, 1) := by decide +kernel
theorem dX1_write_6 : decode cX1_write 6 = .ok (.getfield 33, 3) := by decide +kernel
theorem dX1_write_9 : decode cX1_write 9 = .ok (.if_icmp .gt 12, 3) := by decide +kernel
theorem dX1_write_12 : decode cX1_write 12 = .ok (.iload_n 1, 1) := by decide +kernel
theorem dX1_write_13 : decode cX1_write 13 = .ok (.aload_n 0, 1) := by decide +kernel
theorem dX1_write_14 : decode cX1_write 14 = .ok (.getfield 18, 3) := by decide +kernel
theorem dX1_write_17 : decode cX1_write 17 = .ok (.arraylength, 1) := by decide +kernel
theorem dX1_write_18 : decode cX1_write 18 = .ok (.if_icmp .lt 5, 3) := by decide +kernel
theorem dX1_write_21 : decode cX1_write 21 = .ok (.iconst 0, 1) := by decide +kernel
theorem dX1_write_22 : decode cX1_write 22 = .ok (.ireturn, 1) := by decide +kernel
theorem dX1_write_23 : decode cX1_write 23 = .ok (.iconst 0, 1) := by decide +kernel
theorem dX1_write_24 : decode cX1_write 24 = .ok (.istore 5, 2) := by decide +kernel
theorem dX1_write_26 : decode cX1_write 26 = .ok (.iload_n 1, 1) := by decide +kernel
theorem dX1_write_27 : decode cX1_write 27 = .ok (.aload_n 0, 1) := by decide +kernel
theorem dX1_write_28 : decode cX1_write 28 = .ok (.getfield 33, 3) := by decide +kernel
theorem dX1_write_31 : decode cX1_write 31 = .ok (.if_icmp .ne 37, 3) := by decide +kernel
theorem dX1_write_34 : decode cX1_write 34 = .ok (.aload_n 0, 1) := by decide +kernel
theorem dX1_write_35 : decode cX1_write 35 = .ok (.invokevirtual 50, 3) := by decide +kernel
theorem dX1_write_38 : decode cX1_write 38 = .ok (.iconst 4, 1) := by decide +kernel
theorem dX1_write_39 : decode cX1_write 39 = .ok (.if_icmp .ne 13, 3) := by decide +kernel
theorem dX1_write_42 : decode cX1_write 42 = .ok (.aload_n 0, 1) := by decide +kernel
theorem dX1_write_43 : decode cX1_write 43 = .ok (.iload_n 3, 1) := by decide +kernel
theorem dX1_write_44 : decode cX1_write 44 = .ok (.iload 4, 2) := by decide +kernel
theorem dX1_write_46 : decode cX1_write 46 = .ok (.invokevirtual 53, 3) := by decide +kernel
theorem dX1_write_49 : decode cX1_write 49 = .ok (.goto 4, 3) := by decide +kernel
theorem dX1_write_52 : decode cX1_write 52 = .ok (.iconst 0, 1) := by decide +kernel
theorem dX1_write_53 : decode cX1_write 53 = .ok (.istore 5, 2) := by decide +kernel
theorem dX1_write_55 : decode cX1_write 55 = .ok (.aload_n 0, 1) := by decide +kernel
theorem dX1_write_56 : decode cX1_write 56 = .ok (.dup, 1) := by decide +kernel
theorem dX1_write_57 : decode cX1_write 57 = .ok (.getfield 33, 3) := by decide +kernel
theorem dX1_write_60 : decode cX1_write 60 = .ok (.iconst 1, 1) := by decide +kernel
theorem dX1_write_61 : decode cX1_write 61 = .ok (.iadd, 1) := by decide +kernel
theorem dX1_write_62 : decode cX1_write 62 = .ok (.putfield 33, 3) := by decide +kernel
theorem dX1_write_65 : decode cX1_write 65 = .ok (.goto 32, 3) := by decide +kernel
theorem dX1_write_68 : decode cX1_write 68 = .ok (.iload_n 1, 1) := by decide +kernel
theorem dX1_write_69 : decode cX1_write 69 = .ok (.iconst 4, 1) := by decide +kernel
theorem dX1_write_70 : decode cX1_write 70 = .ok (.idiv, 1) := by decide +kernel
theorem dX1_write_71 : decode cX1_write 71 = .ok (.aload_n 0, 1) := by decide +kernel
theorem dX1_write_72 : decode cX1_write 72 = .ok (.invokevirtual 40, 3) := by decide +kernel
theorem dX1_write_75 : decode cX1_write 75 = .ok (.if_icmp .ge 22, 3) := by decide +kernel
theorem dX1_write_78 : decode cX1_write 78 = .ok (.aload_n 0, 1) := by decide +kernel
theorem dX1_write_79 : decode cX1_write 79 = .ok (.iload_n 1, 1) := by decide +kernel
theorem dX1_write_80 : decode cX1_write 80 = .ok (.iconst 4, 1) := by decide +kernel
theorem dX1_write_81 : decode cX1_write 81 = .ok (.idiv, 1) := by decide +kernel
theorem dX1_write_82 : decode cX1_write 82 = .ok (.aload_n 0, 1) := by decide +kernel
theorem dX1_write_83 : decode cX1_write 83 = .ok (.invokevirtual 40, 3) := by decide +kernel
theorem dX1_write_86 : decode cX1_write 86 = .ok (.invokestatic 56, 3) := by decide +kernel
theorem dX1_write_89 : decode cX1_write 89 = .ok (.iload_n 3, 1) := by decide +kernel
theorem dX1_write_90 : decode cX1_write 90 = .ok (.iload 4, 2) := by decide +kernel
theorem dX1_write_92 : decode cX1_write 92 = .ok (.invokevirtual 60, 3) := by decide +kernel
theorem dX1_write_95 : decode cX1_write 95 = .ok (.istore 5, 2) := by decide +kernel
theorem dX1_write_97 : decode cX1_write 97 = .ok (.aload_n 0, 1) := by decide +kernel
theorem dX1_write_98 : decode cX1_write 98 = .ok (.getfield 18, 3) := by decide +kernel
theorem dX1_write_101 : decode cX1_write 101 = .ok (.iload_n 1, 1) := by decide +kernel
theorem dX1_write_102 : decode cX1_write 102 = .ok (.iload_n 2, 1) := by decide +kernel
theorem dX1_write_103 : decode cX1_write 103 = .ok (.iastore, 1) := by decide +kernel
theorem dX1_write_104 : decode cX1_write 104 = .ok (.iload 5, 2) := by decide +kernel
theorem dX1_write_106 : decode cX1_write 106 = .ok (.ireturn, 1) := by decide +kernel
set_option maxRecDepth 20000 in
theorem ggX1_hangTail_X1_leaves : GoodIn wsX1_hangTail wsX1_leaves := goodIn_r _ [5, 6, 22, 23, 24] (by decide +kernel) (by decide +kernel)
set_option maxRecDepth 20000 in
theorem gX1_hangTail_X1_leaves : GoodIn wsX1_hangTail (wsV RX1 40 RX1 yX1_leaves wsX1_leaves) := goodIn_app (goodIn_of _ (by decide +kernel)) ggX1_hangTail_X1_leaves
set_option maxRecDepth 20000 in
theorem ggX1_hangTail_X5_rootLevel : GoodIn wsX1_hangTail wsX5_rootLevel := goodIn_r _ [9] (by decide +kernel) (by decide +kernel)
set_option maxRecDepth 20000 in
theorem gX1_hangTail_X5_rootLevel_n56 : GoodIn wsX1_hangTail (wsX5_rootLevel) := ggX1_hangTail_X5_rootLevel
set_option maxRecDepth 20000 in
theorem ggX1_hangTail_X1_makePath : GoodIn wsX1_hangTail wsX1_makePath := goodIn_r _ [13, 14, 15, 4, 16, 17, 18, 19, 20, 21, 22, 23, 24] (by decide +kernel) (by decide +kernel)
set_option maxRecDepth 20000 in
theorem gX1_hangTail_X1_makePath : GoodIn wsX1_hangTail (wsV RX1 60 RX1 yX1_makePath wsX1_makePath) := goodIn_app (goodIn_of _ (by decide +kernel)) ggX1_hangTail_X1_makePath
theorem dX1_hangTail_0 : decode cX1_hangTail 0 = .ok (.aload_n 0, 1) := by decide +kernel
theorem dX1_hangTail_1 : decode cX1_hangTail 1 = .ok (.invokevirtual 40, 3) := by decide +kernel
theorem dX1_hangTail_4 : decode cX1_hangTail 4 = .ok (.istore_n 3, 1) := by decide +kernel
theorem dX1_hangTail_5 : decode cX1_hangTail 5 = .ok (.aload_n 0, 1) := by decide +kernel
theorem dX1_hangTail_6 : decode cX1_hangTail 6 = .ok (.iload_n 3, 1) := by decide +kernel
theorem dX1_hangTail_7 : decode cX1_hangTail 7 = .ok (.iload_n 3, 1) := by decide +kernel
theorem dX1_hangTail_8 : decode cX1_hangTail 8 = .ok (.iconst 1, 1) := by decide +kernel
theorem dX1_hangTail_9 : decode cX1_hangTail 9 = .ok (.iadd, 1) := by decide +kernel
theorem dX1_hangTail_10 : decode cX1_hangTail 10 = .ok (.invokestatic 56, 3) := by decide +kernel
theorem dX1_hangTail_13 : decode cX1_hangTail 13 = .ok (.iload_n 1, 1) := by decide +kernel
theorem dX1_hangTail_14 : decode cX1_hangTail 14 = .ok (.iload_n 2, 1) := by decide +kernel
theorem dX1_hangTail_15 : decode cX1_hangTail 15 = .ok (.invokevirtual 60, 3) := by decide +kernel
theorem dX1_hangTail_18 : decode cX1_hangTail 18 = .ok (.ireturn, 1) := by decide +kernel
set_option maxRecDepth 20000 in
theorem ggX1_makePath_X1_slotOf : GoodIn wsX1_makePath wsX1_slotOf := goodIn_r _ [4] (by decide +kernel) (by decide +kernel)
set_option maxRecDepth 20000 in
theorem gX1_makePath_X1_slotOf : GoodIn wsX1_makePath (va_wsS RX1 47 yX1_slotOf wsX1_slotOf) := goodIn_app (goodIn_of _ (by decide +kernel)) ggX1_makePath_X1_slotOf
set_option maxRecDepth 20000 in
theorem ggX1_makePath_X1_makeBlock : GoodIn wsX1_makePath wsX1_makeBlock := goodIn_r _ [8, 9, 10, 11, 12] (by decide +kernel) (by decide +kernel)
set_option maxRecDepth 20000 in
theorem gX1_makePath_X1_makeBlock : GoodIn wsX1_makePath (wsV RX1 64 RX1 yX1_makeBlock wsX1_makeBlock) := goodIn_app (goodIn_of _ (by decide +kernel)) ggX1_makePath_X1_makeBlock
theorem dX1_makePath_0 : decode cX1_makePath 0 = .ok (.iconst 0, 1) := by decide +kernel
theorem dX1_makePath_1 : decode cX1_makePath 1 = .ok (.istore 5, 2) := by decide +kernel
theorem dX1_makePath_3 : decode cX1_makePath 3 = .ok (.iconst 0, 1) := by decide +kernel
theorem dX1_makePath_4 : decode cX1_makePath 4 = .ok (.istore 6, 2) := by decide +kernel
theorem dX1_makePath_6 : decode cX1_makePath 6 = .ok (.iload 6, 2) := by decide +kernel
theorem dX1_makePath_8 : decode cX1_makePath 8 = .ok (.iload_n 2, 1) := by decide +kernel
theorem dX1_makePath_9 : decode cX1_makePath 9 = .ok (.if_icmp .gt 35, 3) := by decide +kernel
theorem dX1_makePath_12 : decode cX1_makePath 12 = .ok (.iload 5, 2) := by decide +kernel
theorem dX1_makePath_14 : decode cX1_makePath 14 = .ok (.aload_n 0, 1) := by decide +kernel
theorem dX1_makePath_15 : decode cX1_makePath 15 = .ok (.iload 6, 2) := by decide +kernel
theorem dX1_makePath_17 : decode cX1_makePath 17 = .ok (.iload_n 1, 1) := by decide +kernel
theorem dX1_makePath_18 : decode cX1_makePath 18 = .ok (.iconst 2, 1) := by decide +kernel
theorem dX1_makePath_19 : decode cX1_makePath 19 = .ok (.iload 6, 2) := by decide +kernel
theorem dX1_makePath_21 : decode cX1_makePath 21 = .ok (.imul, 1) := by decide +kernel
theorem dX1_makePath_22 : decode cX1_makePath 22 = .ok (.ishr, 1) := by decide +kernel
theorem dX1_makePath_23 : decode cX1_makePath 23 = .ok (.invokestatic 47, 3) := by decide +kernel
theorem dX1_makePath_26 : decode cX1_makePath 26 = .ok (.iload_n 3, 1) := by decide +kernel
theorem dX1_makePath_27 : decode cX1_makePath 27 = .ok (.iload 5, 2) := by decide +kernel
theorem dX1_makePath_29 : decode cX1_makePath 29 = .ok (.iadd, 1) := by decide +kernel
theorem dX1_makePath_30 : decode cX1_makePath 30 = .ok (.iload 4, 2) := by decide +kernel
theorem dX1_makePath_32 : decode cX1_makePath 32 = .ok (.invokevirtual 64, 3) := by decide +kernel
theorem dX1_makePath_35 : decode cX1_makePath 35 = .ok (.iadd, 1) := by decide +kernel
theorem dX1_makePath_36 : decode cX1_makePath 36 = .ok (.istore 5, 2) := by decide +kernel
theorem dX1_makePath_38 : decode cX1_makePath 38 = .ok (.iinc 6 1, 3) := by decide +kernel
theorem dX1_makePath_41 : decode cX1_makePath 41 = .ok (.goto (-35), 3) := by decide +kernel
theorem dX1_makePath_44 : decode cX1_makePath 44 = .ok (.iload 5, 2) := by decide +kernel
theorem dX1_makePath_46 : decode cX1_makePath 46 = .ok (.ireturn, 1) := by decide +kernel
theorem dX1_makeBlock_0 : decode cX1_makeBlock 0 = .ok (.iload_n 1, 1) := by decide +kernel
theorem dX1_makeBlock_1 : decode cX1_makeBlock 1 = .ok (.ifCond .lt 19, 3) := by decide +kernel
theorem dX1_makeBlock_4 : decode cX1_makeBlock 4 = .ok (.iload_n 1, 1) := by decide +kernel
theorem dX1_makeBlock_5 : decode cX1_makeBlock 5 = .ok (.bipush 101, 2) := by decide +kernel
theorem dX1_makeBlock_7 : decode cX1_makeBlock 7 = .ok (.if_icmp .ge 13, 3) := by decide +kernel
theorem dX1_makeBlock_10 : decode cX1_makeBlock 10 = .ok (.aload_n 0, 1) := by decide +kernel
theorem dX1_makeBlock_11 : decode cX1_makeBlock 11 = .ok (.getfield 24, 3) := by decide +kernel
theorem dX1_makeBlock_14 : decode cX1_makeBlock 14 = .ok (.iload_n 1, 1) := by decide +kernel
theorem dX1_makeBlock_15 : decode cX1_makeBlock 15 = .ok (.iaload, 1) := by decide +kernel
theorem dX1_makeBlock_16 : decode cX1_makeBlock 16 = .ok (.iload_n 3, 1) := by decide +kernel
theorem dX1_makeBlock_17 : decode cX1_makeBlock 17 = .ok (.if_icmp .lt 5, 3) := by decide +kernel
theorem dX1_makeBlock_20 : decode cX1_makeBlock 20 = .ok (.iconst 0, 1) := by decide +kernel
theorem dX1_makeBlock_21 : decode cX1_makeBlock 21 = .ok (.ireturn, 1) := by decide +kernel
theorem dX1_makeBlock_22 : decode cX1_makeBlock 22 = .ok (.aload_n 0, 1) := by decide +kernel
theorem dX1_makeBlock_23 : decode cX1_makeBlock 23 = .ok (.getfield 24, 3) := by decide +kernel
theorem dX1_makeBlock_26 : decode cX1_makeBlock 26 = .ok (.iload_n 1, 1) := by decide +kernel
theorem dX1_makeBlock_27 : decode cX1_makeBlock 27 = .ok (.iload_n 2, 1) := by decide +kernel
theorem dX1_makeBlock_28 : decode cX1_makeBlock 28 = .ok (.iastore, 1) := by decide +kernel
theorem dX1_makeBlock_29 : decode cX1_makeBlock 29 = .ok (.iconst 1, 1) := by decide +kernel
theorem dX1_makeBlock_30 : decode cX1_makeBlock 30 = .ok (.ireturn, 1) := by decide +kernel
set_option maxRecDepth 20000 in
theorem ggX1_removeLast_X1_tail : GoodIn wsX1_removeLast wsX1_tail := goodIn_r _ [6, 1, 7, 8, 9, 5, 10, 33, 34, 35] (by decide +kernel) (by decide +kernel)
set_option maxRecDepth 20000 in
theorem gX1_removeLast_X1_tail : GoodIn wsX1_removeLast (wsV RX1 50 RX1 yX1_tail wsX1_tail) := goodIn_app (goodIn_of _ (by decide +kernel)) ggX1_removeLast_X1_tail
set_option maxRecDepth 20000 in
theorem ggX1_removeLast_X1_takeLastLeaf : GoodIn wsX1_removeLast wsX1_takeLastLeaf := goodIn_r _ [14, 7, 8, 9, 5, 10, 1, 15, 16, 17, 18, 19, 20, 21, 22, 23, 24, 25, 26, 27, 28, 29, 30, 31, 32, 33, 34, 35] (by decide +kernel) (by decide +kernel)
set_option maxRecDepth 20000 in
theorem gX1_removeLast_X1_takeLastLeaf : GoodIn wsX1_removeLast (wsV RX1 68 RX1 yX1_takeLastLeaf wsX1_takeLastLeaf) := goodIn_app (goodIn_of _ (by decide +kernel)) ggX1_removeLast_X1_takeLastLeaf
theorem dX1_removeLast_0 : decode cX1_removeLast 0 = .ok (.aload_n 0, 1) := by decide +kernel
theorem dX1_removeLast_1 : decode cX1_removeLast 1 = .ok (.getfield 33, 3) := by decide +kernel
theorem dX1_removeLast_4 : decode cX1_removeLast 4 = .ok (.ifCond .ne 5, 3) := by decide +kernel
theorem dX1_removeLast_7 : decode cX1_removeLast 7 = .ok (.iconst 0, 1) := by decide +kernel
theorem dX1_removeLast_8 : decode cX1_removeLast 8 = .ok (.ireturn, 1) := by decide +kernel
theorem dX1_removeLast_9 : decode cX1_removeLast 9 = .ok (.aload_n 0, 1) := by decide +kernel
theorem dX1_removeLast_10 : decode cX1_removeLast 10 = .ok (.invokevirtual 50, 3) := by decide +kernel
theorem dX1_removeLast_13 : decode cX1_removeLast 13 = .ok (.iconst 1, 1) := by decide +kernel
theorem dX1_removeLast_14 : decode cX1_removeLast 14 = .ok (.if_icmp .ne 12, 3) := by decide +kernel
theorem dX1_removeLast_17 : decode cX1_removeLast 17 = .ok (.aload_n 0, 1) := by decide +kernel
theorem dX1_removeLast_18 : decode cX1_removeLast 18 = .ok (.iload_n 1, 1) := by decide +kernel
theorem dX1_removeLast_19 : decode cX1_removeLast 19 = .ok (.iload_n 2, 1) := by decide +kernel
theorem dX1_removeLast_20 : decode cX1_removeLast 20 = .ok (.invokevirtual 68, 3) := by decide +kernel
theorem dX1_removeLast_23 : decode cX1_removeLast 23 = .ok (.goto 4, 3) := by decide +kernel
theorem dX1_removeLast_26 : decode cX1_removeLast 26 = .ok (.iconst 0, 1) := by decide +kernel
theorem dX1_removeLast_27 : decode cX1_removeLast 27 = .ok (.istore_n 3, 1) := by decide +kernel
theorem dX1_removeLast_28 : decode cX1_removeLast 28 = .ok (.aload_n 0, 1) := by decide +kernel
theorem dX1_removeLast_29 : decode cX1_removeLast 29 = .ok (.dup, 1) := by decide +kernel
theorem dX1_removeLast_30 : decode cX1_removeLast 30 = .ok (.getfield 33, 3) := by decide +kernel
theorem dX1_removeLast_33 : decode cX1_removeLast 33 = .ok (.iconst 1, 1) := by decide +kernel
theorem dX1_removeLast_34 : decode cX1_removeLast 34 = .ok (.isub, 1) := by decide +kernel
theorem dX1_removeLast_35 : decode cX1_removeLast 35 = .ok (.putfield 33, 3) := by decide +kernel
theorem dX1_removeLast_38 : decode cX1_removeLast 38 = .ok (.iload_n 3, 1) := by decide +kernel
theorem dX1_removeLast_39 : decode cX1_removeLast 39 = .ok (.ireturn, 1) := by decide +kernel
set_option maxRecDepth 20000 in
theorem ggX1_takeLastLeaf_X1_leaves : GoodIn wsX1_takeLastLeaf wsX1_leaves := goodIn_r _ [5, 6, 25, 26, 27] (by decide +kernel) (by decide +kernel)
set_option maxRecDepth 20000 in
theorem gX1_takeLastLeaf_X1_leaves : GoodIn wsX1_takeLastLeaf (wsV RX1 40 RX1 yX1_leaves wsX1_leaves) := goodIn_app (goodIn_of _ (by decide +kernel)) ggX1_takeLastLeaf_X1_leaves
set_option maxRecDepth 20000 in
theorem ggX1_takeLastLeaf_X5_rootLevel : GoodIn wsX1_takeLastLeaf wsX5_rootLevel := goodIn_r _ [9] (by decide +kernel) (by decide +kernel)
set_option maxRecDepth 20000 in
theorem gX1_takeLastLeaf_X5_rootLevel_n56 : GoodIn wsX1_takeLastLeaf (wsX5_rootLevel) := ggX1_takeLastLeaf_X5_rootLevel
set_option maxRecDepth 20000 in
theorem ggX1_takeLastLeaf_X1_slotOf : GoodIn wsX1_takeLastLeaf wsX1_slotOf := goodIn_r _ [12] (by decide +kernel) (by decide +kernel)
set_option maxRecDepth 20000 in
theorem gX1_takeLastLeaf_X1_slotOf : GoodIn wsX1_takeLastLeaf (va_wsS RX1 47 yX1_slotOf wsX1_slotOf) := goodIn_app (goodIn_of _ (by decide +kernel)) ggX1_takeLastLeaf_X1_slotOf
set_option maxRecDepth 20000 in
theorem ggX1_takeLastLeaf_X1_isFirstLeafOfBlock : GoodIn wsX1_takeLastLeaf wsX1_isFirstLeafOfBlock := goodIn_r _ [15] (by decide +kernel) (by decide +kernel)
set_option maxRecDepth 20000 in
theorem gX1_takeLastLeaf_X1_isFirstLeafOfBlock : GoodIn wsX1_takeLastLeaf (va_wsS RX1 71 yX1_isFirstLeafOfBlock wsX1_isFirstLeafOfBlock) := goodIn_app (goodIn_of _ (by decide +kernel)) ggX1_takeLastLeaf_X1_isFirstLeafOfBlock
set_option maxRecDepth 20000 in
theorem ggX1_takeLastLeaf_X1_removeBlock : GoodIn wsX1_takeLastLeaf wsX1_removeBlock := goodIn_r _ [19, 20, 25, 26, 27] (by decide +kernel) (by decide +kernel)
set_option maxRecDepth 20000 in
theorem gX1_takeLastLeaf_X1_removeBlock : GoodIn wsX1_takeLastLeaf (wsV RX1 75 RX1 yX1_removeBlock wsX1_removeBlock) := goodIn_app (goodIn_of _ (by decide +kernel)) ggX1_takeLastLeaf_X1_removeBlock
set_option maxRecDepth 20000 in
theorem ggX1_takeLastLeaf_X1_makeBlock : GoodIn wsX1_takeLastLeaf wsX1_makeBlock := goodIn_r _ [24, 20, 25, 26, 27] (by decide +kernel) (by decide +kernel)
set_option maxRecDepth 20000 in
theorem gX1_takeLastLeaf_X1_makeBlock : GoodIn wsX1_takeLastLeaf (wsV RX1 64 RX1 yX1_makeBlock wsX1_makeBlock) := goodIn_app (goodIn_of _ (by decide +kernel)) ggX1_takeLastLeaf_X1_makeBlock
theorem dX1_takeLastLeaf_0 : decode cX1_takeLastLeaf 0 = .ok (.aload_n 0, 1) := by decide +kernel
theorem dX1_takeLastLeaf_1 : decode cX1_takeLastLeaf 1 = .ok (.invokevirtual 40, 3) := by decide +kernel
theorem dX1_takeLastLeaf_4 : decode cX1_takeLastLeaf 4 = .ok (.iconst 1, 1) := by decide +kernel
theorem dX1_takeLastLeaf_5 : decode cX1_takeLastLeaf 5 = .ok (.isub, 1) := by decide +kernel
theorem dX1_takeLastLeaf_6 : decode cX1_takeLastLeaf 6 = .ok (.istore_n 3, 1) := by decide +kernel
theorem dX1_takeLastLeaf_7 : decode cX1_takeLastLeaf 7 = .ok (.aload_n 0, 1) := by decide +kernel
theorem dX1_takeLastLeaf_8 : decode cX1_takeLastLeaf 8 = .ok (.invokevirtual 40, 3) := by decide +kernel
theorem dX1_takeLastLeaf_11 : decode cX1_takeLastLeaf 11 = .ok (.invokestatic 56, 3) := by decide +kernel
theorem dX1_takeLastLeaf_14 : decode cX1_takeLastLeaf 14 = .ok (.istore 4, 2) := by decide +kernel
theorem dX1_takeLastLeaf_16 : decode cX1_takeLastLeaf 16 = .ok (.iload_n 3, 1) := by decide +kernel
theorem dX1_takeLastLeaf_17 : decode cX1_takeLastLeaf 17 = .ok (.invokestatic 56, 3) := by decide +kernel
theorem dX1_takeLastLeaf_20 : decode cX1_takeLastLeaf 20 = .ok (.istore 5, 2) := by decide +kernel
theorem dX1_takeLastLeaf_22 : decode cX1_takeLastLeaf 22 = .ok (.iconst 0, 1) := by decide +kernel
theorem dX1_takeLastLeaf_23 : decode cX1_takeLastLeaf 23 = .ok (.istore 6, 2) := by decide +kernel
theorem dX1_takeLastLeaf_25 : decode cX1_takeLastLeaf 25 = .ok (.iconst 0, 1) := by decide +kernel
theorem dX1_takeLastLeaf_26 : decode cX1_takeLastLeaf 26 = .ok (.istore 7, 2) := by decide +kernel
theorem dX1_takeLastLeaf_28 : decode cX1_takeLastLeaf 28 = .ok (.iload 7, 2) := by decide +kernel
theorem dX1_takeLastLeaf_30 : decode cX1_takeLastLeaf 30 = .ok (.iload 4, 2) := by decide +kernel
theorem dX1_takeLastLeaf_32 : decode cX1_takeLastLeaf 32 = .ok (.if_icmp .gt 63, 3) := by decide +kernel
theorem dX1_takeLastLeaf_35 : decode cX1_takeLastLeaf 35 = .ok (.iload 7, 2) := by decide +kernel
theorem dX1_takeLastLeaf_37 : decode cX1_takeLastLeaf 37 = .ok (.iload_n 3, 1) := by decide +kernel
theorem dX1_takeLastLeaf_38 : decode cX1_takeLastLeaf 38 = .ok (.iconst 2, 1) := by decide +kernel
theorem dX1_takeLastLeaf_39 : decode cX1_takeLastLeaf 39 = .ok (.iload 7, 2) := by decide +kernel
theorem dX1_takeLastLeaf_41 : decode cX1_takeLastLeaf 41 = .ok (.imul, 1) := by decide +kernel
theorem dX1_takeLastLeaf_42 : decode cX1_takeLastLeaf 42 = .ok (.ishr, 1) := by decide +kernel
theorem dX1_takeLastLeaf_43 : decode cX1_takeLastLeaf 43 = .ok (.invokestatic 47, 3) := by decide +kernel
theorem dX1_takeLastLeaf_46 : decode cX1_takeLastLeaf 46 = .ok (.istore 8, 2) := by decide +kernel
theorem dX1_takeLastLeaf_48 : decode cX1_takeLastLeaf 48 = .ok (.iload 7, 2) := by decide +kernel
theorem dX1_takeLastLeaf_50 : decode cX1_takeLastLeaf 50 = .ok (.iload 5, 2) := by decide +kernel
theorem dX1_takeLastLeaf_52 : decode cX1_takeLastLeaf 52 = .ok (.if_icmp .gt 12, 3) := by decide +kernel
theorem dX1_takeLastLeaf_55 : decode cX1_takeLastLeaf 55 = .ok (.iload_n 3, 1) := by decide +kernel
theorem dX1_takeLastLeaf_56 : decode cX1_takeLastLeaf 56 = .ok (.iload 7, 2) := by decide +kernel
theorem dX1_takeLastLeaf_58 : decode cX1_takeLastLeaf 58 = .ok (.invokestatic 71, 3) := by decide +kernel
theorem dX1_takeLastLeaf_61 : decode cX1_takeLastLeaf 61 = .ok (.ifCond .eq 12, 3) := by decide +kernel
theorem dX1_takeLastLeaf_64 : decode cX1_takeLastLeaf 64 = .ok (.aload_n 0, 1) := by decide +kernel
theorem dX1_takeLastLeaf_65 : decode cX1_takeLastLeaf 65 = .ok (.iload 8, 2) := by decide +kernel
theorem dX1_takeLastLeaf_67 : decode cX1_takeLastLeaf 67 = .ok (.invokevirtual 75, 3) := by decide +kernel
theorem dX1_takeLastLeaf_70 : decode cX1_takeLastLeaf 70 = .ok (.goto 19, 3) := by decide +kernel
theorem dX1_takeLastLeaf_73 : decode cX1_takeLastLeaf 73 = .ok (.iload 6, 2) := by decide +kernel
theorem dX1_takeLastLeaf_75 : decode cX1_takeLastLeaf 75 = .ok (.aload_n 0, 1) := by decide +kernel
theorem dX1_takeLastLeaf_76 : decode cX1_takeLastLeaf 76 = .ok (.iload 8, 2) := by decide +kernel
theorem dX1_takeLastLeaf_78 : decode cX1_takeLastLeaf 78 = .ok (.iload_n 1, 1) := by decide +kernel
theorem dX1_takeLastLeaf_79 : decode cX1_takeLastLeaf 79 = .ok (.iload 6, 2) := by decide +kernel
theorem dX1_takeLastLeaf_81 : decode cX1_takeLastLeaf 81 = .ok (.iadd, 1) := by decide +kernel
theorem dX1_takeLastLeaf_82 : decode cX1_takeLastLeaf 82 = .ok (.iload_n 2, 1) := by decide +kernel
theorem dX1_takeLastLeaf_83 : decode cX1_takeLastLeaf 83 = .ok (.invokevirtual 64, 3) := by decide +kernel
theorem dX1_takeLastLeaf_86 : decode cX1_takeLastLeaf 86 = .ok (.iadd, 1) := by decide +kernel
theorem dX1_takeLastLeaf_87 : decode cX1_takeLastLeaf 87 = .ok (.istore 6, 2) := by decide +kernel
theorem dX1_takeLastLeaf_89 : decode cX1_takeLastLeaf 89 = .ok (.iinc 7 1, 3) := by decide +kernel
theorem dX1_takeLastLeaf_92 : decode cX1_takeLastLeaf 92 = .ok (.goto (-64), 3) := by decide +kernel
theorem dX1_takeLastLeaf_95 : decode cX1_takeLastLeaf 95 = .ok (.iload 6, 2) := by decide +kernel
theorem dX1_takeLastLeaf_97 : decode cX1_takeLastLeaf 97 = .ok (.ireturn, 1) := by decide +kernel
theorem dX1_isFirstLeafOfBlock_0 : decode cX1_isFirstLeafOfBlock 0 = .ok (.iload_n 0, 1) := by decide +kernel
theorem dX1_isFirstLeafOfBlock_1 : decode cX1_isFirstLeafOfBlock 1 = .ok (.iconst 1, 1) := by decide +kernel
theorem dX1_isFirstLeafOfBlock_2 : decode cX1_isFirstLeafOfBlock 2 = .ok (.iconst 2, 1) := by decide +kernel
theorem dX1_isFirstLeafOfBlock_3 : decode cX1_isFirstLeafOfBlock 3 = .ok (.iload_n 1, 1) := by decide +kernel
theorem dX1_isFirstLeafOfBlock_4 : decode cX1_isFirstLeafOfBlock 4 = .ok (.imul, 1) := by decide +kernel
theorem dX1_isFirstLeafOfBlock_5 : decode cX1_isFirstLeafOfBlock 5 = .ok (.ishl, 1) := by decide +kernel
theorem dX1_isFirstLeafOfBlock_6 : decode cX1_isFirstLeafOfBlock 6 = .ok (.iconst 1, 1) := by decide +kernel
theorem dX1_isFirstLeafOfBlock_7 : decode cX1_isFirstLeafOfBlock 7 = .ok (.isub, 1) := by decide +kernel
theorem dX1_isFirstLeafOfBlock_8 : decode cX1_isFirstLeafOfBlock 8 = .ok (.iand, 1) := by decide +kernel
theorem dX1_isFirstLeafOfBlock_9 : decode cX1_isFirstLeafOfBlock 9 = .ok (.ifCond .ne 7, 3) := by decide +kernel
theorem dX1_isFirstLeafOfBlock_12 : decode cX1_isFirstLeafOfBlock 12 = .ok (.iconst 1, 1) := by decide +kernel
theorem dX1_isFirstLeafOfBlock_13 : decode cX1_isFirstLeafOfBlock 13 = .ok (.goto 4, 3) := by decide +kernel
theorem dX1_isFirstLeafOfBlock_16 : decode cX1_isFirstLeafOfBlock 16 = .ok (.iconst 0, 1) := by decide +kernel
theorem dX1_isFirstLeafOfBlock_17 : decode cX1_isFirstLeafOfBlock 17 = .ok (.ireturn, 1) := by decide +kernel
theorem dX1_removeBlock_0 : decode cX1_removeBlock 0 = .ok (.iload_n 1, 1) := by decide +kernel
theorem dX1_removeBlock_1 : decode cX1_removeBlock 1 = .ok (.ifCond .lt 17, 3) := by decide +kernel
theorem dX1_removeBlock_4 : decode cX1_removeBlock 4 = .ok (.iload_n 1, 1) := by decide +kernel
theorem dX1_removeBlock_5 : decode cX1_removeBlock 5 = .ok (.bipush 101, 2) := by decide +kernel
theorem dX1_removeBlock_7 : decode cX1_removeBlock 7 = .ok (.if_icmp .ge 11, 3) := by decide +kernel
theorem dX1_removeBlock_10 : decode cX1_removeBlock 10 = .ok (.aload_n 0, 1) := by decide +kernel
theorem dX1_removeBlock_11 : decode cX1_removeBlock 11 = .ok (.getfield 24, 3) := by decide +kernel
theorem dX1_removeBlock_14 : decode cX1_removeBlock 14 = .ok (.iload_n 1, 1) := by decide +kernel
theorem dX1_removeBlock_15 : decode cX1_removeBlock 15 = .ok (.bipush (-5), 2) := by decide +kernel
theorem dX1_removeBlock_17 : decode cX1_removeBlock 17 = .ok (.iastore, 1) := by decide +kernel
theorem dX1_removeBlock_18 : decode cX1_removeBlock 18 = .ok (.return_, 1) := by decide +kernel
set_option maxRecDepth 20000 in
theorem ggX1_blocks_X1_blocksFrom : GoodIn wsX1_blocks wsX1_blocksFrom := goodIn_r _ [5, 6, 7, 8, 9] (by decide +kernel) (by decide +kernel)
set_option maxRecDepth 20000 in
theorem gX1_blocks_X1_blocksFrom : GoodIn wsX1_blocks (wsV RX1 78 RX1 yX1_blocksFrom wsX1_blocksFrom) := goodIn_app (goodIn_of _ (by decide +kernel)) ggX1_blocks_X1_blocksFrom
theorem dX1_blocks_0 : decode cX1_blocks 0 = .ok (.aload_n 0, 1) := by decide +kernel
theorem dX1_blocks_1 : decode cX1_blocks 1 = .ok (.iconst 0, 1) := by decide +kernel
theorem dX1_blocks_2 : decode cX1_blocks 2 = .ok (.invokevirtual 78, 3) := by decide +kernel
theorem dX1_blocks_5 : decode cX1_blocks 5 = .ok (.ireturn, 1) := by decide +kernel
theorem dX1_blocksFrom_0 : decode cX1_blocksFrom 0 = .ok (.iconst 0, 1) := by decide +kernel
theorem dX1_blocksFrom_1 : decode cX1_blocksFrom 1 = .ok (.istore_n 2, 1) := by decide +kernel
theorem dX1_blocksFrom_2 : decode cX1_blocksFrom 2 = .ok (.iconst 0, 1) := by decide +kernel
theorem dX1_blocksFrom_3 : decode cX1_blocksFrom 3 = .ok (.istore_n 3, 1) := by decide +kernel
theorem dX1_blocksFrom_4 : decode cX1_blocksFrom 4 = .ok (.iload_n 3, 1) := by decide +kernel
theorem dX1_blocksFrom_5 : decode cX1_blocksFrom 5 = .ok (.bipush 101, 2) := by decide +kernel
theorem dX1_blocksFrom_7 : decode cX1_blocksFrom 7 = .ok (.if_icmp .ge 22, 3) := by decide +kernel
theorem dX1_blocksFrom_10 : decode cX1_blocksFrom 10 = .ok (.aload_n 0, 1) := by decide +kernel
theorem dX1_blocksFrom_11 : decode cX1_blocksFrom 11 = .ok (.getfield 24, 3) := by decide +kernel
theorem dX1_blocksFrom_14 : decode cX1_blocksFrom 14 = .ok (.iload_n 3, 1) := by decide +kernel
theorem dX1_blocksFrom_15 : decode cX1_blocksFrom 15 = .ok (.iaload, 1) := by decide +kernel
theorem dX1_blocksFrom_16 : decode cX1_blocksFrom 16 = .ok (.iload_n 1, 1) := by decide +kernel
theorem dX1_blocksFrom_17 : decode cX1_blocksFrom 17 = .ok (.if_icmp .lt 6, 3) := by decide +kernel
theorem dX1_blocksFrom_20 : decode cX1_blocksFrom 20 = .ok (.iinc 2 1, 3) := by decide +kernel
theorem dX1_blocksFrom_23 : decode cX1_blocksFrom 23 = .ok (.iinc 3 1, 3) := by decide +kernel
theorem dX1_blocksFrom_26 : decode cX1_blocksFrom 26 = .ok (.goto (-22), 3) := by decide +kernel
theorem dX1_blocksFrom_29 : decode cX1_blocksFrom 29 = .ok (.iload_n 2, 1) := by decide +kernel
theorem dX1_blocksFrom_30 : decode cX1_blocksFrom 30 = .ok (.ireturn, 1) := by decide +kernel
theorem dX1_has_0 : decode cX1_has 0 = .ok (.iload_n 1, 1) := by decide +kernel
theorem dX1_has_1 : decode cX1_has 1 = .ok (.ifCond .lt 27, 3) := by decide +kernel
theorem dX1_has_4 : decode cX1_has 4 = .ok (.iload_n 1, 1) := by decide +kernel
theorem dX1_has_5 : decode cX1_has 5 = .ok (.bipush 101, 2) := by decide +kernel
theorem dX1_has_7 : decode cX1_has 7 = .ok (.if_icmp .ge 21, 3) := by decide +kernel
theorem dX1_has_10 : decode cX1_has 10 = .ok (.iload_n 2, 1) := by decide +kernel
theorem dX1_has_11 : decode cX1_has 11 = .ok (.ifCond .lt 17, 3) := by decide +kernel
theorem dX1_has_14 : decode cX1_has 14 = .ok (.aload_n 0, 1) := by decide +kernel
theorem dX1_has_15 : decode cX1_has 15 = .ok (.getfield 24, 3) := by decide +kernel
theorem dX1_has_18 : decode cX1_has 18 = .ok (.iload_n 1, 1) := by decide +kernel
theorem dX1_has_19 : decode cX1_has 19 = .ok (.iaload, 1) := by decide +kernel
theorem dX1_has_20 : decode cX1_has 20 = .ok (.iload_n 2, 1) := by decide +kernel
theorem dX1_has_21 : decode cX1_has 21 = .ok (.if_icmp .ne 7, 3) := by decide +kernel
theorem dX1_has_24 : decode cX1_has 24 = .ok (.iconst 1, 1) := by decide +kernel
theorem dX1_has_25 : decode cX1_has 25 = .ok (.goto 4, 3) := by decide +kernel
theorem dX1_has_28 : decode cX1_has 28 = .ok (.iconst 0, 1) := by decide +kernel
theorem dX1_has_29 : decode cX1_has 29 = .ok (.ireturn, 1) := by decide +kernel
set_option maxRecDepth 20000 in
theorem ggX1_sharedWith_X1_has : GoodIn wsX1_sharedWith wsX1_has := goodIn_r _ [6, 1, 7, 8, 9] (by decide +kernel) (by decide +kernel)
set_option maxRecDepth 20000 in
theorem gX1_sharedWith_X1_has : GoodIn wsX1_sharedWith (wsV RX1 81 RX1 yX1_has wsX1_has) := goodIn_app (goodIn_of _ (by decide +kernel)) ggX1_sharedWith_X1_has
theorem dX1_sharedWith_0 : decode cX1_sharedWith 0 = .ok (.iconst 0, 1) := by decide +kernel
theorem dX1_sharedWith_1 : decode cX1_sharedWith 1 = .ok (.istore_n 2, 1) := by decide +kernel
theorem dX1_sharedWith_2 : decode cX1_sharedWith 2 = .ok (.iconst 0, 1) := by decide +kernel
theorem dX1_sharedWith_3 : decode cX1_sharedWith 3 = .ok (.istore_n 3, 1) := by decide +kernel
theorem dX1_sharedWith_4 : decode cX1_sharedWith 4 = .ok (.iload_n 3, 1) := by decide +kernel
theorem dX1_sharedWith_5 : decode cX1_sharedWith 5 = .ok (.bipush 101, 2) := by decide +kernel
theorem dX1_sharedWith_7 : decode cX1_sharedWith 7 = .ok (.if_icmp .ge 26, 3) := by decide +kernel
theorem dX1_sharedWith_10 : decode cX1_sharedWith 10 = .ok (.aload_n 1, 1) := by decide +kernel
theorem dX1_sharedWith_11 : decode cX1_sharedWith 11 = .ok (.iload_n 3, 1) := by decide +kernel
theorem dX1_sharedWith_12 : decode cX1_sharedWith 12 = .ok (.aload_n 0, 1) := by decide +kernel
theorem dX1_sharedWith_13 : decode cX1_sharedWith 13 = .ok (.getfield 24, 3) := by decide +kernel
theorem dX1_sharedWith_16 : decode cX1_sharedWith 16 = .ok (.iload_n 3, 1) := by decide +kernel
theorem dX1_sharedWith_17 : decode cX1_sharedWith 17 = .ok (.iaload, 1) := by decide +kernel
theorem dX1_sharedWith_18 : decode cX1_sharedWith 18 = .ok (.invokevirtual 81, 3) := by decide +kernel
theorem dX1_sharedWith_21 : decode cX1_sharedWith 21 = .ok (.ifCond .eq 6, 3) := by decide +kernel
theorem dX1_sharedWith_24 : decode cX1_sharedWith 24 = .ok (.iinc 2 1, 3) := by decide +kernel
theorem dX1_sharedWith_27 : decode cX1_sharedWith 27 = .ok (.iinc 3 1, 3) := by decide +kernel
theorem dX1_sharedWith_30 : decode cX1_sharedWith 30 = .ok (.goto (-26), 3) := by decide +kernel
theorem dX1_sharedWith_33 : decode cX1_sharedWith 33 = .ok (.iload_n 2, 1) := by decide +kernel
theorem dX1_sharedWith_34 : decode cX1_sharedWith 34 = .ok (.ireturn, 1) := by decide +kernel
theorem dX2_init_0 : decode cX2_init 0 = .ok (.aload_n 0, 1) := by decide +kernel
theorem dX2_init_1 : decode cX2_init 1 = .ok (.invokespecial 3, 3) := by decide +kernel
theorem dX2_init_4 : decode cX2_init 4 = .ok (.aload_n 0, 1) := by decide +kernel
theorem dX2_init_5 : decode cX2_init 5 = .ok (.bipush 24, 2) := by decide +kernel
theorem dX2_init_7 : decode cX2_init 7 = .ok (.anewarray 9, 3) := by decide +kernel
theorem dX2_init_10 : decode cX2_init 10 = .ok (.putfield 11, 3) := by decide +kernel
theorem dX2_init_13 : decode cX2_init 13 = .ok (.aload_n 0, 1) := by decide +kernel
theorem dX2_init_14 : decode cX2_init 14 = .ok (.iconst 0, 1) := by decide +kernel
theorem dX2_init_15 : decode cX2_init 15 = .ok (.putfield 17, 3) := by decide +kernel
theorem dX2_init_18 : decode cX2_init 18 = .ok (.aload_n 0, 1) := by decide +kernel
theorem dX2_init_19 : decode cX2_init 19 = .ok (.iconst 0, 1) := by decide +kernel
theorem dX2_init_20 : decode cX2_init 20 = .ok (.putfield 21, 3) := by decide +kernel
theorem dX2_init_23 : decode cX2_init 23 = .ok (.aload_n 0, 1) := by decide +kernel
theorem dX2_init_24 : decode cX2_init 24 = .ok (.aconst_null, 1) := by decide +kernel
theorem dX2_init_25 : decode cX2_init 25 = .ok (.putfield 24, 3) := by decide +kernel
theorem dX2_init_28 : decode cX2_init 28 = .ok (.aload_n 0, 1) := by decide +kernel
theorem dX2_init_29 : decode cX2_init 29 = .ok (.ldc 28, 2) := by decide +kernel
theorem dX2_init_31 : decode cX2_init 31 = .ok (.putfield 29, 3) := by decide +kernel
theorem dX2_init_34 : decode cX2_init 34 = .ok (.return_, 1) := by decide +kernel
theorem dX2_copyFrom_0 : decode cX2_copyFrom 0 = .ok (.iconst 0, 1) := by decide +kernel
theorem dX2_copyFrom_1 : decode cX2_copyFrom 1 = .ok (.istore_n 2, 1) := by decide +kernel
theorem dX2_copyFrom_2 : decode cX2_copyFrom 2 = .ok (.iload_n 2, 1) := by decide +kernel
theorem dX2_copyFrom_3 : decode cX2_copyFrom 3 = .ok (.bipush 24, 2) := by decide +kernel
theorem dX2_copyFrom_5 : decode cX2_copyFrom 5 = .ok (.if_icmp .ge 21, 3) := by decide +kernel
theorem dX2_copyFrom_8 : decode cX2_copyFrom 8 = .ok (.aload_n 0, 1) := by decide +kernel
theorem dX2_copyFrom_9 : decode cX2_copyFrom 9 = .ok (.getfield 11, 3) := by decide +kernel
theorem dX2_copyFrom_12 : decode cX2_copyFrom 12 = .ok (.iload_n 2, 1) := by decide +kernel
theorem dX2_copyFrom_13 : decode cX2_copyFrom 13 = .ok (.aload_n 1, 1) := by decide +kernel
theorem dX2_copyFrom_14 : decode cX2_copyFrom 14 = .ok (.getfield 11, 3) := by decide +kernel
theorem dX2_copyFrom_17 : decode cX2_copyFrom 17 = .ok (.iload_n 2, 1) := by decide +kernel
theorem dX2_copyFrom_18 : decode cX2_copyFrom 18 = .ok (.aaload, 1) := by decide +kernel
theorem dX2_copyFrom_19 : decode cX2_copyFrom 19 = .ok (.aastore, 1) := by decide +kernel
theorem dX2_copyFrom_20 : decode cX2_copyFrom 20 = .ok (.iinc 2 1, 3) := by decide +kernel
theorem dX2_copyFrom_23 : decode cX2_copyFrom 23 = .ok (.goto (-21), 3) := by decide +kernel
theorem dX2_copyFrom_26 : decode cX2_copyFrom 26 = .ok (.aload_n 0, 1) := by decide +kernel
theorem dX2_copyFrom_27 : decode cX2_copyFrom 27 = .ok (.aload_n 1, 1) := by decide +kernel
theorem dX2_copyFrom_28 : decode cX2_copyFrom 28 = .ok (.getfield 17, 3) := by decide +kernel
theorem dX2_copyFrom_31 : decode cX2_copyFrom 31 = .ok (.putfield 17, 3) := by decide +kernel
theorem dX2_copyFrom_34 : decode cX2_copyFrom 34 = .ok (.aload_n 0, 1) := by decide +kernel
theorem dX2_copyFrom_35 : decode cX2_copyFrom 35 = .ok (.aload_n 1, 1) := by decide +kernel
theorem dX2_copyFrom_36 : decode cX2_copyFrom 36 = .ok (.getfield 21, 3) := by decide +kernel
theorem dX2_copyFrom_39 : decode cX2_copyFrom 39 = .ok (.putfield 21, 3) := by decide +kernel
theorem dX2_copyFrom_42 : decode cX2_copyFrom 42 = .ok (.aload_n 0, 1) := by decide +kernel
theorem dX2_copyFrom_43 : decode cX2_copyFrom 43 = .ok (.aload_n 1, 1) := by decide +kernel
theorem dX2_copyFrom_44 : decode cX2_copyFrom 44 = .ok (.getfield 24, 3) := by decide +kernel
theorem dX2_copyFrom_47 : decode cX2_copyFrom 47 = .ok (.putfield 24, 3) := by decide +kernel
theorem dX2_copyFrom_50 : decode cX2_copyFrom 50 = .ok (.aload_n 0, 1) := by decide +kernel
theorem dX2_copyFrom_51 : decode cX2_copyFrom 51 = .ok (.aload_n 1, 1) := by decide +kernel
theorem dX2_copyFrom_52 : decode cX2_copyFrom 52 = .ok (.getfield 29, 3) := by decide +kernel
theorem dX2_copyFrom_55 : decode cX2_copyFrom 55 = .ok (.putfield 29, 3) := by decide +kernel
theorem dX2_copyFrom_58 : decode cX2_copyFrom 58 = .ok (.return_, 1) := by decide +kernel
theorem dX2_isFull_0 : decode cX2_isFull 0 = .ok (.aload_n 0, 1) := by decide +kernel
theorem dX2_isFull_1 : decode cX2_isFull 1 = .ok (.getfield 17, 3) := by decide +kernel
theorem dX2_isFull_4 : decode cX2_isFull 4 = .ok (.bipush 24, 2) := by decide +kernel
theorem dX2_isFull_6 : decode cX2_isFull 6 = .ok (.if_icmp .lt 7, 3) := by decide +kernel
theorem dX2_isFull_9 : decode cX2_isFull 9 = .ok (.iconst 1, 1) := by decide +kernel
theorem dX2_isFull_10 : decode cX2_isFull 10 = .ok (.goto 4, 3) := by decide +kernel
theorem dX2_isFull_13 : decode cX2_isFull 13 = .ok (.iconst 0, 1) := by decide +kernel
theorem dX2_isFull_14 : decode cX2_isFull 14 = .ok (.ireturn, 1) := by decide +kernel
theorem dX2_viewOf_0 : decode cX2_viewOf 0 = .ok (.iload_n 1, 1) := by decide +kernel
theorem dX2_viewOf_1 : decode cX2_viewOf 1 = .ok (.ifCond .lt 18, 3) := by decide +kernel
theorem dX2_viewOf_4 : decode cX2_viewOf 4 = .ok (.iload_n 1, 1) := by decide +kernel
theorem dX2_viewOf_5 : decode cX2_viewOf 5 = .ok (.bipush 24, 2) := by decide +kernel
theorem dX2_viewOf_7 : decode cX2_viewOf 7 = .ok (.if_icmp .ge 12, 3) := by decide +kernel
theorem dX2_viewOf_10 : decode cX2_viewOf 10 = .ok (.aload_n 0, 1) := by decide +kernel
theorem dX2_viewOf_11 : decode cX2_viewOf 11 = .ok (.getfield 11, 3) := by decide +kernel
theorem dX2_viewOf_14 : decode cX2_viewOf 14 = .ok (.iload_n 1, 1) := by decide +kernel
theorem dX2_viewOf_15 : decode cX2_viewOf 15 = .ok (.aaload, 1) := by decide +kernel
theorem dX2_viewOf_16 : decode cX2_viewOf 16 = .ok (.goto 4, 3) := by decide +kernel
theorem dX2_viewOf_19 : decode cX2_viewOf 19 = .ok (.aconst_null, 1) := by decide +kernel
theorem dX2_viewOf_20 : decode cX2_viewOf 20 = .ok (.areturn, 1) := by decide +kernel
theorem dX2_addView_0 : decode cX2_addView 0 = .ok (.aload_n 0, 1) := by decide +kernel
theorem dX2_addView_1 : decode cX2_addView 1 = .ok (.getfield 17, 3) := by decide +kernel
theorem dX2_addView_4 : decode cX2_addView 4 = .ok (.ifCond .lt 12, 3) := by decide +kernel
theorem dX2_addView_7 : decode cX2_addView 7 = .ok (.aload_n 0, 1) := by decide +kernel
theorem dX2_addView_8 : decode cX2_addView 8 = .ok (.getfield 17, 3) := by decide +kernel
theorem dX2_addView_11 : decode cX2_addView 11 = .ok (.bipush 24, 2) := by decide +kernel
theorem dX2_addView_13 : decode cX2_addView 13 = .ok (.if_icmp .lt 6, 3) := by decide +kernel
theorem dX2_addView_16 : decode cX2_addView 16 = .ok (.bipush (-3), 2) := by decide +kernel
theorem dX2_addView_18 : decode cX2_addView 18 = .ok (.ireturn, 1) := by decide +kernel
theorem dX2_addView_19 : decode cX2_addView 19 = .ok (.aload_n 0, 1) := by decide +kernel
theorem dX2_addView_20 : decode cX2_addView 20 = .ok (.getfield 11, 3) := by decide +kernel
theorem dX2_addView_23 : decode cX2_addView 23 = .ok (.aload_n 0, 1) := by decide +kernel
theorem dX2_addView_24 : decode cX2_addView 24 = .ok (.getfield 17, 3) := by decide +kernel
theorem dX2_addView_27 : decode cX2_addView 27 = .ok (.aload_n 1, 1) := by decide +kernel
theorem dX2_addView_28 : decode cX2_addView 28 = .ok (.aastore, 1) := by decide +kernel
theorem dX2_addView_29 : decode cX2_addView 29 = .ok (.aload_n 0, 1) := by decide +kernel
theorem dX2_addView_30 : decode cX2_addView 30 = .ok (.dup, 1) := by decide +kernel
theorem dX2_addView_31 : decode cX2_addView 31 = .ok (.getfield 17, 3) := by decide +kernel
theorem dX2_addView_34 : decode cX2_addView 34 = .ok (.iconst 1, 1) := by decide +kernel
theorem dX2_addView_35 : decode cX2_addView 35 = .ok (.iadd, 1) := by decide +kernel
theorem dX2_addView_36 : decode cX2_addView 36 = .ok (.putfield 17, 3) := by decide +kernel
theorem dX2_addView_39 : decode cX2_addView 39 = .ok (.aload_n 0, 1) := by decide +kernel
theorem dX2_addView_40 : decode cX2_addView 40 = .ok (.getfield 17, 3) := by decide +kernel
theorem dX2_addView_43 : decode cX2_addView 43 = .ok (.iconst 1, 1) := by decide +kernel
theorem dX2_addView_44 : decode cX2_addView 44 = .ok (.isub, 1) := by decide +kernel
theorem dX2_addView_45 : decode cX2_addView 45 = .ok (.ireturn, 1) := by decide +kernel
theorem dX2_removeView_0 : decode cX2_removeView 0 = .ok (.iload_n 1, 1) := by decide +kernel
theorem dX2_removeView_1 : decode cX2_removeView 1 = .ok (.ifCond .lt 16, 3) := by decide +kernel
theorem dX2_removeView_4 : decode cX2_removeView 4 = .ok (.iload_n 1, 1) := by decide +kernel
theorem dX2_removeView_5 : decode cX2_removeView 5 = .ok (.bipush 24, 2) := by decide +kernel
theorem dX2_removeView_7 : decode cX2_removeView 7 = .ok (.if_icmp .ge 10, 3) := by decide +kernel
theorem dX2_removeView_10 : decode cX2_removeView 10 = .ok (.aload_n 0, 1) := by decide +kernel
theorem dX2_removeView_11 : decode cX2_removeView 11 = .ok (.getfield 11, 3) := by decide +kernel
theorem dX2_removeView_14 : decode cX2_removeView 14 = .ok (.iload_n 1, 1) := by decide +kernel
theorem dX2_removeView_15 : decode cX2_removeView 15 = .ok (.aconst_null, 1) := by decide +kernel
theorem dX2_removeView_16 : decode cX2_removeView 16 = .ok (.aastore, 1) := by decide +kernel
theorem dX2_removeView_17 : decode cX2_removeView 17 = .ok (.return_, 1) := by decide +kernel
theorem dX2_viewsLeft_0 : decode cX2_viewsLeft 0 = .ok (.iconst 0, 1) := by decide +kernel
theorem dX2_viewsLeft_1 : decode cX2_viewsLeft 1 = .ok (.istore_n 1, 1) := by decide +kernel
theorem dX2_viewsLeft_2 : decode cX2_viewsLeft 2 = .ok (.iconst 0, 1) := by decide +kernel
theorem dX2_viewsLeft_3 : decode cX2_viewsLeft 3 = .ok (.istore_n 2, 1) := by decide +kernel
theorem dX2_viewsLeft_4 : decode cX2_viewsLeft 4 = .ok (.iload_n 2, 1) := by decide +kernel
theorem dX2_viewsLeft_5 : decode cX2_viewsLeft 5 = .ok (.bipush 24, 2) := by decide +kernel
theorem dX2_viewsLeft_7 : decode cX2_viewsLeft 7 = .ok (.if_icmp .ge 21, 3) := by decide +kernel
theorem dX2_viewsLeft_10 : decode cX2_viewsLeft 10 = .ok (.aload_n 0, 1) := by decide +kernel
theorem dX2_viewsLeft_11 : decode cX2_viewsLeft 11 = .ok (.getfield 11, 3) := by decide +kernel
theorem dX2_viewsLeft_14 : decode cX2_viewsLeft 14 = .ok (.iload_n 2, 1) := by decide +kernel
theorem dX2_viewsLeft_15 : decode cX2_viewsLeft 15 = .ok (.aaload, 1) := by decide +kernel
theorem dX2_viewsLeft_16 : decode cX2_viewsLeft 16 = .ok (.ifnull 6, 3) := by decide +kernel
theorem dX2_viewsLeft_19 : decode cX2_viewsLeft 19 = .ok (.iinc 1 1, 3) := by decide +kernel
theorem dX2_viewsLeft_22 : decode cX2_viewsLeft 22 = .ok (.iinc 2 1, 3) := by decide +kernel
theorem dX2_viewsLeft_25 : decode cX2_viewsLeft 25 = .ok (.goto (-21), 3) := by decide +kernel
theorem dX2_viewsLeft_28 : decode cX2_viewsLeft 28 = .ok (.iload_n 1, 1) := by decide +kernel
theorem dX2_viewsLeft_29 : decode cX2_viewsLeft 29 = .ok (.ireturn, 1) := by decide +kernel
theorem dX2_valuesShown_0 : decode cX2_valuesShown 0 = .ok (.iconst 0, 1) := by decide +kernel
theorem dX2_valuesShown_1 : decode cX2_valuesShown 1 = .ok (.istore_n 1, 1) := by decide +kernel
theorem dX2_valuesShown_2 : decode cX2_valuesShown 2 = .ok (.iconst 0, 1) := by decide +kernel
theorem dX2_valuesShown_3 : decode cX2_valuesShown 3 = .ok (.istore_n 2, 1) := by decide +kernel
theorem dX2_valuesShown_4 : decode cX2_valuesShown 4 = .ok (.iload_n 2, 1) := by decide +kernel
theorem dX2_valuesShown_5 : decode cX2_valuesShown 5 = .ok (.bipush 24, 2) := by decide +kernel
theorem dX2_valuesShown_7 : decode cX2_valuesShown 7 = .ok (.if_icmp .ge 31, 3) := by decide +kernel
theorem dX2_valuesShown_10 : decode cX2_valuesShown 10 = .ok (.aload_n 0, 1) := by decide +kernel
theorem dX2_valuesShown_11 : decode cX2_valuesShown 11 = .ok (.getfield 11, 3) := by decide +kernel
theorem dX2_valuesShown_14 : decode cX2_valuesShown 14 = .ok (.iload_n 2, 1) := by decide +kernel
theorem dX2_valuesShown_15 : decode cX2_valuesShown 15 = .ok (.aaload, 1) := by decide +kernel
theorem dX2_valuesShown_16 : decode cX2_valuesShown 16 = .ok (.astore_n 3, 1) := by decide +kernel
theorem dX2_valuesShown_17 : decode cX2_valuesShown 17 = .ok (.iload_n 1, 1) := by decide +kernel
theorem dX2_valuesShown_18 : decode cX2_valuesShown 18 = .ok (.aload_n 3, 1) := by decide +kernel
theorem dX2_valuesShown_19 : decode cX2_valuesShown 19 = .ok (.ifnonnull 7, 3) := by decide +kernel
theorem dX2_valuesShown_22 : decode cX2_valuesShown 22 = .ok (.iconst 0, 1) := by decide +kernel
theorem dX2_valuesShown_23 : decode cX2_valuesShown 23 = .ok (.goto 7, 3) := by decide +kernel
theorem dX2_valuesShown_26 : decode cX2_valuesShown 26 = .ok (.aload_n 3, 1) := by decide +kernel
theorem dX2_valuesShown_27 : decode cX2_valuesShown 27 = .ok (.getfield 32, 3) := by decide +kernel
theorem dX2_valuesShown_30 : decode cX2_valuesShown 30 = .ok (.iadd, 1) := by decide +kernel
theorem dX2_valuesShown_31 : decode cX2_valuesShown 31 = .ok (.istore_n 1, 1) := by decide +kernel
theorem dX2_valuesShown_32 : decode cX2_valuesShown 32 = .ok (.iinc 2 1, 3) := by decide +kernel
theorem dX2_valuesShown_35 : decode cX2_valuesShown 35 = .ok (.goto (-31), 3) := by decide +kernel
theorem dX2_valuesShown_38 : decode cX2_valuesShown 38 = .ok (.iload_n 1, 1) := by decide +kernel
theorem dX2_valuesShown_39 : decode cX2_valuesShown 39 = .ok (.ireturn, 1) := by decide +kernel
set_option maxRecDepth 20000 in
theorem ggX2_rowWith_X1_copy : GoodIn wsX2_rowWith wsX1_copy := goodIn_r _ [7, 8, 9, 6, 10, 11, 12, 13, 14, 15, 16, 17, 18, 19, 20, 21, 22, 23, 24, 25, 26, 27, 28, 29, 30, 66, 67, 68] (by decide +kernel) (by decide +kernel)
set_option maxRecDepth 20000 in
theorem gX2_rowWith_X1_copy : GoodIn wsX2_rowWith (wsV RX2 35 RX1 yX1_copy wsX1_copy) := goodIn_app (goodIn_of _ (by decide +kernel)) ggX2_rowWith_X1_copy
set_option maxRecDepth 20000 in
theorem ggX2_rowWith_X1_write : GoodIn wsX2_rowWith wsX1_write := goodIn_r _ [34, 10, 11, 35, 36, 37, 6, 38, 39, 40, 41, 42, 43, 44, 45, 46, 47, 48, 49, 50, 51, 52, 53, 54, 55, 56, 57, 58, 59, 60, 16, 66, 67, 68] (by decide +kernel) (by decide +kernel)
set_option maxRecDepth 20000 in
theorem gX2_rowWith_X1_write : GoodIn wsX2_rowWith (wsV RX2 41 RX1 yX1_write wsX1_write) := goodIn_app (goodIn_of _ (by decide +kernel)) ggX2_rowWith_X1_write
theorem dX2_rowWith_0 : decode cX2_rowWith 0 = .ok (.aload_n 1, 1) := by decide +kernel
theorem dX2_rowWith_1 : decode cX2_rowWith 1 = .ok (.iconst 1, 1) := by decide +kernel
theorem dX2_rowWith_2 : decode cX2_rowWith 2 = .ok (.invokevirtual 35, 3) := by decide +kernel
theorem dX2_rowWith_5 : decode cX2_rowWith 5 = .ok (.astore 4, 2) := by decide +kernel
theorem dX2_rowWith_7 : decode cX2_rowWith 7 = .ok (.aload_n 0, 1) := by decide +kernel
theorem dX2_rowWith_8 : decode cX2_rowWith 8 = .ok (.dup, 1) := by decide +kernel
theorem dX2_rowWith_9 : decode cX2_rowWith 9 = .ok (.getfield 21, 3) := by decide +kernel
theorem dX2_rowWith_12 : decode cX2_rowWith 12 = .ok (.aload 4, 2) := by decide +kernel
theorem dX2_rowWith_14 : decode cX2_rowWith 14 = .ok (.iload_n 2, 1) := by decide +kernel
theorem dX2_rowWith_15 : decode cX2_rowWith 15 = .ok (.iload_n 3, 1) := by decide +kernel
theorem dX2_rowWith_16 : decode cX2_rowWith 16 = .ok (.aload_n 0, 1) := by decide +kernel
theorem dX2_rowWith_17 : decode cX2_rowWith 17 = .ok (.getfield 21, 3) := by decide +kernel
theorem dX2_rowWith_20 : decode cX2_rowWith 20 = .ok (.ldc 28, 2) := by decide +kernel
theorem dX2_rowWith_22 : decode cX2_rowWith 22 = .ok (.invokevirtual 41, 3) := by decide +kernel
theorem dX2_rowWith_25 : decode cX2_rowWith 25 = .ok (.iadd, 1) := by decide +kernel
theorem dX2_rowWith_26 : decode cX2_rowWith 26 = .ok (.putfield 21, 3) := by decide +kernel
theorem dX2_rowWith_29 : decode cX2_rowWith 29 = .ok (.aload 4, 2) := by decide +kernel
theorem dX2_rowWith_31 : decode cX2_rowWith 31 = .ok (.areturn, 1) := by decide +kernel
set_option maxRecDepth 20000 in
theorem ggX2_rowWithoutLast_X1_copy : GoodIn wsX2_rowWithoutLast wsX1_copy := goodIn_r _ [7, 8, 9, 6, 10, 11, 12, 13, 14, 15, 16, 17, 18, 19, 20, 21, 22, 23, 24, 25, 26, 27, 28, 29, 30, 69, 70, 71] (by decide +kernel) (by decide +kernel)
set_option maxRecDepth 20000 in
theorem gX2_rowWithoutLast_X1_copy : GoodIn wsX2_rowWithoutLast (wsV RX2 35 RX1 yX1_copy wsX1_copy) := goodIn_app (goodIn_of _ (by decide +kernel)) ggX2_rowWithoutLast_X1_copy
set_option maxRecDepth 20000 in
theorem ggX2_rowWithoutLast_X1_removeLast : GoodIn wsX2_rowWithoutLast wsX1_removeLast := goodIn_r _ [34, 10, 35, 36, 37, 6, 38, 39, 40, 41, 42, 43, 44, 45, 46, 47, 48, 49, 50, 51, 52, 53, 54, 55, 56, 57, 58, 59, 16, 60, 61, 62, 63, 69, 70, 71] (by decide +kernel) (by decide +kernel)
set_option maxRecDepth 20000 in
theorem gX2_rowWithoutLast_X1_removeLast : GoodIn wsX2_rowWithoutLast (wsV RX2 45 RX1 yX1_removeLast wsX1_removeLast) := goodIn_app (goodIn_of _ (by decide +kernel)) ggX2_rowWithoutLast_X1_removeLast
theorem dX2_rowWithoutLast_0 : decode cX2_rowWithoutLast 0 = .ok (.aload_n 1, 1) := by decide +kernel
theorem dX2_rowWithoutLast_1 : decode cX2_rowWithoutLast 1 = .ok (.iconst 0, 1) := by decide +kernel
theorem dX2_rowWithoutLast_2 : decode cX2_rowWithoutLast 2 = .ok (.invokevirtual 35, 3) := by decide +kernel
theorem dX2_rowWithoutLast_5 : decode cX2_rowWithoutLast 5 = .ok (.astore_n 2, 1) := by decide +kernel
theorem dX2_rowWithoutLast_6 : decode cX2_rowWithoutLast 6 = .ok (.aload_n 0, 1) := by decide +kernel
theorem dX2_rowWithoutLast_7 : decode cX2_rowWithoutLast 7 = .ok (.dup, 1) := by decide +kernel
theorem dX2_rowWithoutLast_8 : decode cX2_rowWithoutLast 8 = .ok (.getfield 21, 3) := by decide +kernel
theorem dX2_rowWithoutLast_11 : decode cX2_rowWithoutLast 11 = .ok (.aload_n 2, 1) := by decide +kernel
theorem dX2_rowWithoutLast_12 : decode cX2_rowWithoutLast 12 = .ok (.aload_n 0, 1) := by decide +kernel
theorem dX2_rowWithoutLast_13 : decode cX2_rowWithoutLast 13 = .ok (.getfield 21, 3) := by decide +kernel
theorem dX2_rowWithoutLast_16 : decode cX2_rowWithoutLast 16 = .ok (.ldc 28, 2) := by decide +kernel
theorem dX2_rowWithoutLast_18 : decode cX2_rowWithoutLast 18 = .ok (.invokevirtual 45, 3) := by decide +kernel
theorem dX2_rowWithoutLast_21 : decode cX2_rowWithoutLast 21 = .ok (.iadd, 1) := by decide +kernel
theorem dX2_rowWithoutLast_22 : decode cX2_rowWithoutLast 22 = .ok (.putfield 21, 3) := by decide +kernel
theorem dX2_rowWithoutLast_25 : decode cX2_rowWithoutLast 25 = .ok (.aload_n 2, 1) := by decide +kernel
theorem dX2_rowWithoutLast_26 : decode cX2_rowWithoutLast 26 = .ok (.areturn, 1) := by decide +kernel
theorem dX2_beginEdit_0 : decode cX2_beginEdit 0 = .ok (.aload_n 0, 1) := by decide +kernel
theorem dX2_beginEdit_1 : decode cX2_beginEdit 1 = .ok (.aload_n 1, 1) := by decide +kernel
theorem dX2_beginEdit_2 : decode cX2_beginEdit 2 = .ok (.putfield 24, 3) := by decide +kernel
theorem dX2_beginEdit_5 : decode cX2_beginEdit 5 = .ok (.aload_n 0, 1) := by decide +kernel
theorem dX2_beginEdit_6 : decode cX2_beginEdit 6 = .ok (.aload_n 0, 1) := by decide +kernel
theorem dX2_beginEdit_7 : decode cX2_beginEdit 7 = .ok (.getfield 21, 3) := by decide +kernel
theorem dX2_beginEdit_10 : decode cX2_beginEdit 10 = .ok (.putfield 29, 3) := by decide +kernel
theorem dX2_beginEdit_13 : decode cX2_beginEdit 13 = .ok (.return_, 1) := by decide +kernel
theorem dX2_endEdit_0 : decode cX2_endEdit 0 = .ok (.aload_n 0, 1) := by decide +kernel
theorem dX2_endEdit_1 : decode cX2_endEdit 1 = .ok (.aconst_null, 1) := by decide +kernel
theorem dX2_endEdit_2 : decode cX2_endEdit 2 = .ok (.putfield 24, 3) := by decide +kernel
theorem dX2_endEdit_5 : decode cX2_endEdit 5 = .ok (.aload_n 0, 1) := by decide +kernel
theorem dX2_endEdit_6 : decode cX2_endEdit 6 = .ok (.ldc 28, 2) := by decide +kernel
theorem dX2_endEdit_8 : decode cX2_endEdit 8 = .ok (.putfield 29, 3) := by decide +kernel
theorem dX2_endEdit_11 : decode cX2_endEdit 11 = .ok (.return_, 1) := by decide +kernel
set_option maxRecDepth 20000 in
theorem ggX2_editWrite_X1_copy : GoodIn wsX2_editWrite wsX1_copy := goodIn_r _ [7, 8, 9, 6, 10, 11, 12, 13, 14, 15, 16, 17, 18, 19, 20, 21, 22, 23, 24, 25, 26, 27, 28, 29, 30, 72, 73, 74] (by decide +kernel) (by decide +kernel)
set_option maxRecDepth 20000 in
theorem gX2_editWrite_X1_copy : GoodIn wsX2_editWrite (wsV RX2 35 RX1 yX1_copy wsX1_copy) := goodIn_app (goodIn_of _ (by decide +kernel)) ggX2_editWrite_X1_copy
set_option maxRecDepth 20000 in
theorem ggX2_editWrite_X1_write : GoodIn wsX2_editWrite wsX1_write := goodIn_r _ [34, 10, 11, 35, 36, 37, 6, 38, 39, 40, 41, 42, 43, 44, 45, 46, 47, 48, 49, 50, 51, 52, 53, 54, 55, 56, 57, 58, 59, 60, 16, 72, 73, 74] (by decide +kernel) (by decide +kernel)
set_option maxRecDepth 20000 in
theorem gX2_editWrite_X1_write : GoodIn wsX2_editWrite (wsV RX2 41 RX1 yX1_write wsX1_write) := goodIn_app (goodIn_of _ (by decide +kernel)) ggX2_editWrite_X1_write
set_option maxRecDepth 20000 in
theorem ggX2_editWrite_X2_takeEditRow : GoodIn wsX2_editWrite wsX2_takeEditRow := goodIn_r _ [65, 66, 1, 67, 68, 69, 70, 71] (by decide +kernel) (by decide +kernel)
set_option maxRecDepth 20000 in
theorem gX2_editWrite_X2_takeEditRow : GoodIn wsX2_editWrite (wsV RX2 49 RX2 yX2_takeEditRow wsX2_takeEditRow) := goodIn_app (goodIn_of _ (by decide +kernel)) ggX2_editWrite_X2_takeEditRow
theorem dX2_editWrite_0 : decode cX2_editWrite 0 = .ok (.aload_n 1, 1) := by decide +kernel
theorem dX2_editWrite_1 : decode cX2_editWrite 1 = .ok (.iconst 1, 1) := by decide +kernel
theorem dX2_editWrite_2 : decode cX2_editWrite 2 = .ok (.invokevirtual 35, 3) := by decide +kernel
theorem dX2_editWrite_5 : decode cX2_editWrite 5 = .ok (.astore 4, 2) := by decide +kernel
theorem dX2_editWrite_7 : decode cX2_editWrite 7 = .ok (.aload_n 0, 1) := by decide +kernel
theorem dX2_editWrite_8 : decode cX2_editWrite 8 = .ok (.aload 4, 2) := by decide +kernel
theorem dX2_editWrite_10 : decode cX2_editWrite 10 = .ok (.aload 4, 2) := by decide +kernel
theorem dX2_editWrite_12 : decode cX2_editWrite 12 = .ok (.iload_n 2, 1) := by decide +kernel
theorem dX2_editWrite_13 : decode cX2_editWrite 13 = .ok (.iload_n 3, 1) := by decide +kernel
theorem dX2_editWrite_14 : decode cX2_editWrite 14 = .ok (.aload_n 0, 1) := by decide +kernel
theorem dX2_editWrite_15 : decode cX2_editWrite 15 = .ok (.getfield 21, 3) := by decide +kernel
theorem dX2_editWrite_18 : decode cX2_editWrite 18 = .ok (.aload_n 0, 1) := by decide +kernel
theorem dX2_editWrite_19 : decode cX2_editWrite 19 = .ok (.getfield 29, 3) := by decide +kernel
theorem dX2_editWrite_22 : decode cX2_editWrite 22 = .ok (.invokevirtual 41, 3) := by decide +kernel
theorem dX2_editWrite_25 : decode cX2_editWrite 25 = .ok (.invokevirtual 49, 3) := by decide +kernel
theorem dX2_editWrite_28 : decode cX2_editWrite 28 = .ok (.ireturn, 1) := by decide +kernel
set_option maxRecDepth 20000 in
theorem ggX2_editRemoveLast_X1_copy : GoodIn wsX2_editRemoveLast wsX1_copy := goodIn_r _ [7, 8, 9, 6, 10, 11, 12, 13, 14, 15, 16, 17, 18, 19, 20, 21, 22, 23, 24, 25, 26, 27, 28, 29, 30, 75, 76, 77] (by decide +kernel) (by decide +kernel)
set_option maxRecDepth 20000 in
theorem gX2_editRemoveLast_X1_copy : GoodIn wsX2_editRemoveLast (wsV RX2 35 RX1 yX1_copy wsX1_copy) := goodIn_app (goodIn_of _ (by decide +kernel)) ggX2_editRemoveLast_X1_copy
set_option maxRecDepth 20000 in
theorem ggX2_editRemoveLast_X1_removeLast : GoodIn wsX2_editRemoveLast wsX1_removeLast := goodIn_r _ [34, 10, 35, 36, 37, 6, 38, 39, 40, 41, 42, 43, 44, 45, 46, 47, 48, 49, 50, 51, 52, 53, 54, 55, 56, 57, 58, 59, 16, 60, 61, 62, 63, 75, 76, 77] (by decide +kernel) (by decide +kernel)
set_option maxRecDepth 20000 in
theorem gX2_editRemoveLast_X1_removeLast : GoodIn wsX2_editRemoveLast (wsV RX2 45 RX1 yX1_removeLast wsX1_removeLast) := goodIn_app (goodIn_of _ (by decide +kernel)) ggX2_editRemoveLast_X1_removeLast
set_option maxRecDepth 20000 in
theorem ggX2_editRemoveLast_X2_takeEditRow : GoodIn wsX2_editRemoveLast wsX2_takeEditRow := goodIn_r _ [68, 69, 1, 70, 71, 72, 73, 74] (by decide +kernel) (by decide +kernel)
set_option maxRecDepth 20000 in
theorem gX2_editRemoveLast_X2_takeEditRow : GoodIn wsX2_editRemoveLast (wsV RX2 49 RX2 yX2_takeEditRow wsX2_takeEditRow) := goodIn_app (goodIn_of _ (by decide +kernel)) ggX2_editRemoveLast_X2_takeEditRow
theorem dX2_editRemoveLast_0 : decode cX2_editRemoveLast 0 = .ok (.aload_n 1, 1) := by decide +kernel
theorem dX2_editRemoveLast_1 : decode cX2_editRemoveLast 1 = .ok (.iconst 0, 1) := by decide +kernel
theorem dX2_editRemoveLast_2 : decode cX2_editRemoveLast 2 = .ok (.invokevirtual 35, 3) := by decide +kernel
theorem dX2_editRemoveLast_5 : decode cX2_editRemoveLast 5 = .ok (.astore_n 2, 1) := by decide +kernel
theorem dX2_editRemoveLast_6 : decode cX2_editRemoveLast 6 = .ok (.aload_n 0, 1) := by decide +kernel
theorem dX2_editRemoveLast_7 : decode cX2_editRemoveLast 7 = .ok (.aload_n 2, 1) := by decide +kernel
theorem dX2_editRemoveLast_8 : decode cX2_editRemoveLast 8 = .ok (.aload_n 2, 1) := by decide +kernel
theorem dX2_editRemoveLast_9 : decode cX2_editRemoveLast 9 = .ok (.aload_n 0, 1) := by decide +kernel
theorem dX2_editRemoveLast_10 : decode cX2_editRemoveLast 10 = .ok (.getfield 21, 3) := by decide +kernel
theorem dX2_editRemoveLast_13 : decode cX2_editRemoveLast 13 = .ok (.aload_n 0, 1) := by decide +kernel
theorem dX2_editRemoveLast_14 : decode cX2_editRemoveLast 14 = .ok (.getfield 29, 3) := by decide +kernel
theorem dX2_editRemoveLast_17 : decode cX2_editRemoveLast 17 = .ok (.invokevirtual 45, 3) := by decide +kernel
theorem dX2_editRemoveLast_20 : decode cX2_editRemoveLast 20 = .ok (.invokevirtual 49, 3) := by decide +kernel
theorem dX2_editRemoveLast_23 : decode cX2_editRemoveLast 23 = .ok (.ireturn, 1) := by decide +kernel
set_option maxRecDepth 20000 in
theorem ggX2_editAppendAll_X1_copy : GoodIn wsX2_editAppendAll wsX1_copy := goodIn_r _ [8, 9, 10, 7, 11, 12, 13, 14, 15, 16, 17, 18, 19, 20, 21, 22, 23, 24, 25, 26, 27, 28, 29, 30, 31, 68, 69, 70] (by decide +kernel) (by decide +kernel)
set_option maxRecDepth 20000 in
theorem gX2_editAppendAll_X1_copy : GoodIn wsX2_editAppendAll (wsV RX2 35 RX1 yX1_copy wsX1_copy) := goodIn_app (goodIn_of _ (by decide +kernel)) ggX2_editAppendAll_X1_copy
set_option maxRecDepth 20000 in
theorem ggX2_editAppendAll_X1_write : GoodIn wsX2_editAppendAll wsX1_write := goodIn_r _ [35, 11, 12, 36, 37, 38, 7, 39, 40, 41, 42, 43, 44, 45, 46, 47, 48, 49, 50, 51, 52, 53, 54, 55, 56, 57, 58, 59, 60, 61, 17, 68, 69, 70] (by decide +kernel) (by decide +kernel)
set_option maxRecDepth 20000 in
theorem gX2_editAppendAll_X1_write : GoodIn wsX2_editAppendAll (wsV RX2 41 RX1 yX1_write wsX1_write) := goodIn_app (goodIn_of _ (by decide +kernel)) ggX2_editAppendAll_X1_write
set_option maxRecDepth 20000 in
theorem ggX2_editAppendAll_X2_takeEditRow : GoodIn wsX2_editAppendAll wsX2_takeEditRow := goodIn_r _ [66, 67, 2, 71, 72, 73, 74, 75] (by decide +kernel) (by decide +kernel)
set_option maxRecDepth 20000 in
theorem gX2_editAppendAll_X2_takeEditRow : GoodIn wsX2_editAppendAll (wsV RX2 49 RX2 yX2_takeEditRow wsX2_takeEditRow) := goodIn_app (goodIn_of _ (by decide +kernel)) ggX2_editAppendAll_X2_takeEditRow
theorem dX2_editAppendAll_0 : decode cX2_editAppendAll 0 = .ok (.aload_n 1, 1) := by decide +kernel
theorem dX2_editAppendAll_1 : decode cX2_editAppendAll 1 = .ok (.aload_n 2, 1) := by decide +kernel
theorem dX2_editAppendAll_2 : decode cX2_editAppendAll 2 = .ok (.arraylength, 1) := by decide +kernel
theorem dX2_editAppendAll_3 : decode cX2_editAppendAll 3 = .ok (.invokevirtual 35, 3) := by decide +kernel
theorem dX2_editAppendAll_6 : decode cX2_editAppendAll 6 = .ok (.astore_n 3, 1) := by decide +kernel
theorem dX2_editAppendAll_7 : decode cX2_editAppendAll 7 = .ok (.iconst 0, 1) := by decide +kernel
theorem dX2_editAppendAll_8 : decode cX2_editAppendAll 8 = .ok (.istore 4, 2) := by decide +kernel
theorem dX2_editAppendAll_10 : decode cX2_editAppendAll 10 = .ok (.aload_n 2, 1) := by decide +kernel
theorem dX2_editAppendAll_11 : decode cX2_editAppendAll 11 = .ok (.astore 5, 2) := by decide +kernel
theorem dX2_editAppendAll_13 : decode cX2_editAppendAll 13 = .ok (.aload 5, 2) := by decide +kernel
theorem dX2_editAppendAll_15 : decode cX2_editAppendAll 15 = .ok (.arraylength, 1) := by decide +kernel
theorem dX2_editAppendAll_16 : decode cX2_editAppendAll 16 = .ok (.istore 6, 2) := by decide +kernel
theorem dX2_editAppendAll_18 : decode cX2_editAppendAll 18 = .ok (.iconst 0, 1) := by decide +kernel
theorem dX2_editAppendAll_19 : decode cX2_editAppendAll 19 = .ok (.istore 7, 2) := by decide +kernel
theorem dX2_editAppendAll_21 : decode cX2_editAppendAll 21 = .ok (.iload 7, 2) := by decide +kernel
theorem dX2_editAppendAll_23 : decode cX2_editAppendAll 23 = .ok (.iload 6, 2) := by decide +kernel
theorem dX2_editAppendAll_25 : decode cX2_editAppendAll 25 = .ok (.if_icmp .ge 42, 3) := by decide +kernel
theorem dX2_editAppendAll_28 : decode cX2_editAppendAll 28 = .ok (.aload 5, 2) := by decide +kernel
theorem dX2_editAppendAll_30 : decode cX2_editAppendAll 30 = .ok (.iload 7, 2) := by decide +kernel
theorem dX2_editAppendAll_32 : decode cX2_editAppendAll 32 = .ok (.iaload, 1) := by decide +kernel
theorem dX2_editAppendAll_33 : decode cX2_editAppendAll 33 = .ok (.istore 8, 2) := by decide +kernel
theorem dX2_editAppendAll_35 : decode cX2_editAppendAll 35 = .ok (.iload 4, 2) := by decide +kernel
theorem dX2_editAppendAll_37 : decode cX2_editAppendAll 37 = .ok (.aload_n 3, 1) := by decide +kernel
theorem dX2_editAppendAll_38 : decode cX2_editAppendAll 38 = .ok (.aload_n 3, 1) := by decide +kernel
theorem dX2_editAppendAll_39 : decode cX2_editAppendAll 39 = .ok (.getfield 53, 3) := by decide +kernel
theorem dX2_editAppendAll_42 : decode cX2_editAppendAll 42 = .ok (.iload 8, 2) := by decide +kernel
theorem dX2_editAppendAll_44 : decode cX2_editAppendAll 44 = .ok (.aload_n 0, 1) := by decide +kernel
theorem dX2_editAppendAll_45 : decode cX2_editAppendAll 45 = .ok (.getfield 21, 3) := by decide +kernel
theorem dX2_editAppendAll_48 : decode cX2_editAppendAll 48 = .ok (.iload 4, 2) := by decide +kernel
theorem dX2_editAppendAll_50 : decode cX2_editAppendAll 50 = .ok (.iadd, 1) := by decide +kernel
theorem dX2_editAppendAll_51 : decode cX2_editAppendAll 51 = .ok (.aload_n 0, 1) := by decide +kernel
theorem dX2_editAppendAll_52 : decode cX2_editAppendAll 52 = .ok (.getfield 29, 3) := by decide +kernel
theorem dX2_editAppendAll_55 : decode cX2_editAppendAll 55 = .ok (.invokevirtual 41, 3) := by decide +kernel
theorem dX2_editAppendAll_58 : decode cX2_editAppendAll 58 = .ok (.iadd, 1) := by decide +kernel
theorem dX2_editAppendAll_59 : decode cX2_editAppendAll 59 = .ok (.istore 4, 2) := by decide +kernel
theorem dX2_editAppendAll_61 : decode cX2_editAppendAll 61 = .ok (.iinc 7 1, 3) := by decide +kernel
theorem dX2_editAppendAll_64 : decode cX2_editAppendAll 64 = .ok (.goto (-43), 3) := by decide +kernel
theorem dX2_editAppendAll_67 : decode cX2_editAppendAll 67 = .ok (.aload_n 0, 1) := by decide +kernel
theorem dX2_editAppendAll_68 : decode cX2_editAppendAll 68 = .ok (.aload_n 3, 1) := by decide +kernel
theorem dX2_editAppendAll_69 : decode cX2_editAppendAll 69 = .ok (.iload 4, 2) := by decide +kernel
theorem dX2_editAppendAll_71 : decode cX2_editAppendAll 71 = .ok (.invokevirtual 49, 3) := by decide +kernel
theorem dX2_editAppendAll_74 : decode cX2_editAppendAll 74 = .ok (.ireturn, 1) := by decide +kernel
theorem dX2_takeEditRow_0 : decode cX2_takeEditRow 0 = .ok (.aload_n 0, 1) := by decide +kernel
theorem dX2_takeEditRow_1 : decode cX2_takeEditRow 1 = .ok (.aload_n 1, 1) := by decide +kernel
theorem dX2_takeEditRow_2 : decode cX2_takeEditRow 2 = .ok (.putfield 24, 3) := by decide +kernel
theorem dX2_takeEditRow_5 : decode cX2_takeEditRow 5 = .ok (.aload_n 0, 1) := by decide +kernel
theorem dX2_takeEditRow_6 : decode cX2_takeEditRow 6 = .ok (.dup, 1) := by decide +kernel
theorem dX2_takeEditRow_7 : decode cX2_takeEditRow 7 = .ok (.getfield 21, 3) := by decide +kernel
theorem dX2_takeEditRow_10 : decode cX2_takeEditRow 10 = .ok (.iload_n 2, 1) := by decide +kernel
theorem dX2_takeEditRow_11 : decode cX2_takeEditRow 11 = .ok (.iadd, 1) := by decide +kernel
theorem dX2_takeEditRow_12 : decode cX2_takeEditRow 12 = .ok (.putfield 21, 3) := by decide +kernel
theorem dX2_takeEditRow_15 : decode cX2_takeEditRow 15 = .ok (.iload_n 2, 1) := by decide +kernel
theorem dX2_takeEditRow_16 : decode cX2_takeEditRow 16 = .ok (.ireturn, 1) := by decide +kernel
set_option maxRecDepth 20000 in
theorem ggX2_rowAt_X2_viewOf : GoodIn wsX2_rowAt wsX2_viewOf := goodIn_r _ [7, 8, 13, 14, 15, 16, 17] (by decide +kernel) (by decide +kernel)
set_option maxRecDepth 20000 in
theorem gX2_rowAt_X2_viewOf : GoodIn wsX2_rowAt (wsV RX2 56 RX2 yX2_viewOf wsX2_viewOf) := goodIn_app (goodIn_of _ (by decide +kernel)) ggX2_rowAt_X2_viewOf
theorem dX2_rowAt_0 : decode cX2_rowAt 0 = .ok (.aload_n 0, 1) := by decide +kernel
theorem dX2_rowAt_1 : decode cX2_rowAt 1 = .ok (.iload_n 1, 1) := by decide +kernel
theorem dX2_rowAt_2 : decode cX2_rowAt 2 = .ok (.invokevirtual 56, 3) := by decide +kernel
theorem dX2_rowAt_5 : decode cX2_rowAt 5 = .ok (.astore_n 2, 1) := by decide +kernel
theorem dX2_rowAt_6 : decode cX2_rowAt 6 = .ok (.aload_n 2, 1) := by decide +kernel
theorem dX2_rowAt_7 : decode cX2_rowAt 7 = .ok (.ifnull 8, 3) := by decide +kernel
theorem dX2_rowAt_10 : decode cX2_rowAt 10 = .ok (.aload_n 2, 1) := by decide +kernel
theorem dX2_rowAt_11 : decode cX2_rowAt 11 = .ok (.getfield 60, 3) := by decide +kernel
theorem dX2_rowAt_14 : decode cX2_rowAt 14 = .ok (.areturn, 1) := by decide +kernel
theorem dX2_rowAt_15 : decode cX2_rowAt 15 = .ok (.iload_n 1, 1) := by decide +kernel
theorem dX2_rowAt_16 : decode cX2_rowAt 16 = .ok (.bipush 24, 2) := by decide +kernel
theorem dX2_rowAt_18 : decode cX2_rowAt 18 = .ok (.if_icmp .ne 10, 3) := by decide +kernel
theorem dX2_rowAt_21 : decode cX2_rowAt 21 = .ok (.aload_n 0, 1) := by decide +kernel
theorem dX2_rowAt_22 : decode cX2_rowAt 22 = .ok (.getfield 24, 3) := by decide +kernel
theorem dX2_rowAt_25 : decode cX2_rowAt 25 = .ok (.goto 4, 3) := by decide +kernel
theorem dX2_rowAt_28 : decode cX2_rowAt 28 = .ok (.aconst_null, 1) := by decide +kernel
theorem dX2_rowAt_29 : decode cX2_rowAt 29 = .ok (.areturn, 1) := by decide +kernel
set_option maxRecDepth 20000 in
theorem ggX2_blocksInUse_X2_rowAt : GoodIn wsX2_blocksInUse wsX2_rowAt := goodIn_r _ [5, 6, 7, 8, 9, 10, 4, 11, 12, 28, 29, 30, 31, 32, 33, 34, 35, 36] (by decide +kernel) (by decide +kernel)
set_option maxRecDepth 20000 in
theorem gX2_blocksInUse_X2_rowAt : GoodIn wsX2_blocksInUse (wsV RX2 63 RX2 yX2_rowAt wsX2_rowAt) := goodIn_app (goodIn_of _ (by decide +kernel)) ggX2_blocksInUse_X2_rowAt
set_option maxRecDepth 20000 in
theorem ggX2_blocksInUse_X2_blocksNotIn : GoodIn wsX2_blocksInUse wsX2_blocksNotIn := goodIn_r _ [16, 17, 18, 19, 20, 4, 21, 1, 2, 3, 5, 6, 7, 8, 9, 10, 11, 12, 22, 23, 24, 25, 26, 27, 37, 38, 39, 28, 29, 30, 31, 32, 33, 34, 35, 36] (by decide +kernel) (by decide +kernel)
set_option maxRecDepth 20000 in
theorem gX2_blocksInUse_X2_blocksNotIn : GoodIn wsX2_blocksInUse (wsV RX2 66 RX2 yX2_blocksNotIn wsX2_blocksNotIn) := goodIn_app (goodIn_of _ (by decide +kernel)) ggX2_blocksInUse_X2_blocksNotIn
theorem dX2_blocksInUse_0 : decode cX2_blocksInUse 0 = .ok (.iconst 0, 1) := by decide +kernel
theorem dX2_blocksInUse_1 : decode cX2_blocksInUse 1 = .ok (.istore_n 1, 1) := by decide +kernel
theorem dX2_blocksInUse_2 : decode cX2_blocksInUse 2 = .ok (.iconst 0, 1) := by decide +kernel
theorem dX2_blocksInUse_3 : decode cX2_blocksInUse 3 = .ok (.istore_n 2, 1) := by decide +kernel
theorem dX2_blocksInUse_4 : decode cX2_blocksInUse 4 = .ok (.iload_n 2, 1) := by decide +kernel
theorem dX2_blocksInUse_5 : decode cX2_blocksInUse 5 = .ok (.bipush 24, 2) := by decide +kernel
theorem dX2_blocksInUse_7 : decode cX2_blocksInUse 7 = .ok (.if_icmp .gt 32, 3) := by decide +kernel
theorem dX2_blocksInUse_10 : decode cX2_blocksInUse 10 = .ok (.aload_n 0, 1) := by decide +kernel
theorem dX2_blocksInUse_11 : decode cX2_blocksInUse 11 = .ok (.iload_n 2, 1) := by decide +kernel
theorem dX2_blocksInUse_12 : decode cX2_blocksInUse 12 = .ok (.invokevirtual 63, 3) := by decide +kernel
theorem dX2_blocksInUse_15 : decode cX2_blocksInUse 15 = .ok (.astore_n 3, 1) := by decide +kernel
theorem dX2_blocksInUse_16 : decode cX2_blocksInUse 16 = .ok (.iload_n 1, 1) := by decide +kernel
theorem dX2_blocksInUse_17 : decode cX2_blocksInUse 17 = .ok (.aload_n 3, 1) := by decide +kernel
theorem dX2_blocksInUse_18 : decode cX2_blocksInUse 18 = .ok (.ifnonnull 7, 3) := by decide +kernel
theorem dX2_blocksInUse_21 : decode cX2_blocksInUse 21 = .ok (.iconst 0, 1) := by decide +kernel
theorem dX2_blocksInUse_22 : decode cX2_blocksInUse 22 = .ok (.goto 9, 3) := by decide +kernel
theorem dX2_blocksInUse_25 : decode cX2_blocksInUse 25 = .ok (.aload_n 0, 1) := by decide +kernel
theorem dX2_blocksInUse_26 : decode cX2_blocksInUse 26 = .ok (.iload_n 2, 1) := by decide +kernel
theorem dX2_blocksInUse_27 : decode cX2_blocksInUse 27 = .ok (.aload_n 3, 1) := by decide +kernel
theorem dX2_blocksInUse_28 : decode cX2_blocksInUse 28 = .ok (.invokevirtual 66, 3) := by decide +kernel
theorem dX2_blocksInUse_31 : decode cX2_blocksInUse 31 = .ok (.iadd, 1) := by decide +kernel
theorem dX2_blocksInUse_32 : decode cX2_blocksInUse 32 = .ok (.istore_n 1, 1) := by decide +kernel
theorem dX2_blocksInUse_33 : decode cX2_blocksInUse 33 = .ok (.iinc 2 1, 3) := by decide +kernel
theorem dX2_blocksInUse_36 : decode cX2_blocksInUse 36 = .ok (.goto (-32), 3) := by decide +kernel
theorem dX2_blocksInUse_39 : decode cX2_blocksInUse 39 = .ok (.iload_n 1, 1) := by decide +kernel
theorem dX2_blocksInUse_40 : decode cX2_blocksInUse 40 = .ok (.ireturn, 1) := by decide +kernel
set_option maxRecDepth 20000 in
theorem ggX2_blocksNotIn_X2_isInOne : GoodIn wsX2_blocksNotIn wsX2_isInOne := goodIn_r _ [6, 7, 8, 9, 5, 10, 11, 12, 13, 14, 15, 16, 17, 18, 19, 20, 21, 22, 23, 27, 28, 29, 30, 31, 32, 33, 34, 35, 24, 25, 26] (by decide +kernel) (by decide +kernel)
set_option maxRecDepth 20000 in
theorem gX2_blocksNotIn_X2_isInOne : GoodIn wsX2_blocksNotIn (wsV RX2 74 RX2 yX2_isInOne wsX2_isInOne) := goodIn_app (goodIn_of _ (by decide +kernel)) ggX2_blocksNotIn_X2_isInOne
theorem dX2_blocksNotIn_0 : decode cX2_blocksNotIn 0 = .ok (.iconst 0, 1) := by decide +kernel
theorem dX2_blocksNotIn_1 : decode cX2_blocksNotIn 1 = .ok (.istore_n 3, 1) := by decide +kernel
theorem dX2_blocksNotIn_2 : decode cX2_blocksNotIn 2 = .ok (.iconst 0, 1) := by decide +kernel
theorem dX2_blocksNotIn_3 : decode cX2_blocksNotIn 3 = .ok (.istore 4, 2) := by decide +kernel
theorem dX2_blocksNotIn_5 : decode cX2_blocksNotIn 5 = .ok (.iload 4, 2) := by decide +kernel
theorem dX2_blocksNotIn_7 : decode cX2_blocksNotIn 7 = .ok (.bipush 101, 2) := by decide +kernel
theorem dX2_blocksNotIn_9 : decode cX2_blocksNotIn 9 = .ok (.if_icmp .ge 38, 3) := by decide +kernel
theorem dX2_blocksNotIn_12 : decode cX2_blocksNotIn 12 = .ok (.aload_n 2, 1) := by decide +kernel
theorem dX2_blocksNotIn_13 : decode cX2_blocksNotIn 13 = .ok (.getfield 70, 3) := by decide +kernel
theorem dX2_blocksNotIn_16 : decode cX2_blocksNotIn 16 = .ok (.iload 4, 2) := by decide +kernel
theorem dX2_blocksNotIn_18 : decode cX2_blocksNotIn 18 = .ok (.iaload, 1) := by decide +kernel
theorem dX2_blocksNotIn_19 : decode cX2_blocksNotIn 19 = .ok (.istore 5, 2) := by decide +kernel
theorem dX2_blocksNotIn_21 : decode cX2_blocksNotIn 21 = .ok (.iload 5, 2) := by decide +kernel
theorem dX2_blocksNotIn_23 : decode cX2_blocksNotIn 23 = .ok (.ifCond .lt 18, 3) := by decide +kernel
theorem dX2_blocksNotIn_26 : decode cX2_blocksNotIn 26 = .ok (.aload_n 0, 1) := by decide +kernel
theorem dX2_blocksNotIn_27 : decode cX2_blocksNotIn 27 = .ok (.iload_n 1, 1) := by decide +kernel
theorem dX2_blocksNotIn_28 : decode cX2_blocksNotIn 28 = .ok (.iload 4, 2) := by decide +kernel
theorem dX2_blocksNotIn_30 : decode cX2_blocksNotIn 30 = .ok (.iload 5, 2) := by decide +kernel
theorem dX2_blocksNotIn_32 : decode cX2_blocksNotIn 32 = .ok (.invokevirtual 74, 3) := by decide +kernel
theorem dX2_blocksNotIn_35 : decode cX2_blocksNotIn 35 = .ok (.ifCond .ne 6, 3) := by decide +kernel
theorem dX2_blocksNotIn_38 : decode cX2_blocksNotIn 38 = .ok (.iinc 3 1, 3) := by decide +kernel
theorem dX2_blocksNotIn_41 : decode cX2_blocksNotIn 41 = .ok (.iinc 4 1, 3) := by decide +kernel
theorem dX2_blocksNotIn_44 : decode cX2_blocksNotIn 44 = .ok (.goto (-39), 3) := by decide +kernel
theorem dX2_blocksNotIn_47 : decode cX2_blocksNotIn 47 = .ok (.iload_n 3, 1) := by decide +kernel
theorem dX2_blocksNotIn_48 : decode cX2_blocksNotIn 48 = .ok (.ireturn, 1) := by decide +kernel
set_option maxRecDepth 20000 in
theorem ggX2_isInOne_X2_rowAt : GoodIn wsX2_isInOne wsX2_rowAt := goodIn_r _ [5, 6, 7, 8, 9, 10, 4, 11, 12, 19, 20, 21, 22, 23, 24, 25, 26, 27] (by decide +kernel) (by decide +kernel)
set_option maxRecDepth 20000 in
theorem gX2_isInOne_X2_rowAt : GoodIn wsX2_isInOne (wsV RX2 63 RX2 yX2_rowAt wsX2_rowAt) := goodIn_app (goodIn_of _ (by decide +kernel)) ggX2_isInOne_X2_rowAt
set_option maxRecDepth 20000 in
theorem ggX2_isInOne_X1_has : GoodIn wsX2_isInOne wsX1_has := goodIn_r _ [17, 18, 28, 29, 30] (by decide +kernel) (by decide +kernel)
set_option maxRecDepth 20000 in
theorem gX2_isInOne_X1_has : GoodIn wsX2_isInOne (wsV RX2 78 RX1 yX1_has wsX1_has) := goodIn_app (goodIn_of _ (by decide +kernel)) ggX2_isInOne_X1_has
theorem dX2_isInOne_0 : decode cX2_isInOne 0 = .ok (.iconst 0, 1) := by decide +kernel
theorem dX2_isInOne_1 : decode cX2_isInOne 1 = .ok (.istore 4, 2) := by decide +kernel
theorem dX2_isInOne_3 : decode cX2_isInOne 3 = .ok (.iload 4, 2) := by decide +kernel
theorem dX2_isInOne_5 : decode cX2_isInOne 5 = .ok (.iload_n 1, 1) := by decide +kernel
theorem dX2_isInOne_6 : decode cX2_isInOne 6 = .ok (.if_icmp .ge 34, 3) := by decide +kernel
theorem dX2_isInOne_9 : decode cX2_isInOne 9 = .ok (.aload_n 0, 1) := by decide +kernel
theorem dX2_isInOne_10 : decode cX2_isInOne 10 = .ok (.iload 4, 2) := by decide +kernel
theorem dX2_isInOne_12 : decode cX2_isInOne 12 = .ok (.invokevirtual 63, 3) := by decide +kernel
theorem dX2_isInOne_15 : decode cX2_isInOne 15 = .ok (.astore 5, 2) := by decide +kernel
theorem dX2_isInOne_17 : decode cX2_isInOne 17 = .ok (.aload 5, 2) := by decide +kernel
theorem dX2_isInOne_19 : decode cX2_isInOne 19 = .ok (.ifnull 15, 3) := by decide +kernel
theorem dX2_isInOne_22 : decode cX2_isInOne 22 = .ok (.aload 5, 2) := by decide +kernel
theorem dX2_isInOne_24 : decode cX2_isInOne 24 = .ok (.iload_n 2, 1) := by decide +kernel
theorem dX2_isInOne_25 : decode cX2_isInOne 25 = .ok (.iload_n 3, 1) := by decide +kernel
theorem dX2_isInOne_26 : decode cX2_isInOne 26 = .ok (.invokevirtual 78, 3) := by decide +kernel
theorem dX2_isInOne_29 : decode cX2_isInOne 29 = .ok (.ifCond .eq 5, 3) := by decide +kernel
theorem dX2_isInOne_32 : decode cX2_isInOne 32 = .ok (.iconst 1, 1) := by decide +kernel
theorem dX2_isInOne_33 : decode cX2_isInOne 33 = .ok (.ireturn, 1) := by decide +kernel
theorem dX2_isInOne_34 : decode cX2_isInOne 34 = .ok (.iinc 4 1, 3) := by decide +kernel
theorem dX2_isInOne_37 : decode cX2_isInOne 37 = .ok (.goto (-34), 3) := by decide +kernel
theorem dX2_isInOne_40 : decode cX2_isInOne 40 = .ok (.iconst 0, 1) := by decide +kernel
theorem dX2_isInOne_41 : decode cX2_isInOne 41 = .ok (.ireturn, 1) := by decide +kernel
theorem dX3_init_0 : decode cX3_init 0 = .ok (.aload_n 0, 1) := by decide +kernel
theorem dX3_init_1 : decode cX3_init 1 = .ok (.invokespecial 3, 3) := by decide +kernel
theorem dX3_init_4 : decode cX3_init 4 = .ok (.aload_n 0, 1) := by decide +kernel
theorem dX3_init_5 : decode cX3_init 5 = .ok (.bipush 60, 2) := by decide +kernel
theorem dX3_init_7 : decode cX3_init 7 = .ok (.newarray .char, 2) := by decide +kernel
theorem dX3_init_9 : decode cX3_init 9 = .ok (.putfield 9, 3) := by decide +kernel
theorem dX3_init_12 : decode cX3_init 12 = .ok (.aload_n 0, 1) := by decide +kernel
theorem dX3_init_13 : decode cX3_init 13 = .ok (.iconst 0, 1) := by decide +kernel
theorem dX3_init_14 : decode cX3_init 14 = .ok (.putfield 15, 3) := by decide +kernel
theorem dX3_init_17 : decode cX3_init 17 = .ok (.return_, 1) := by decide +kernel
theorem dX3_add_0 : decode cX3_add 0 = .ok (.aload_n 0, 1) := by decide +kernel
theorem dX3_add_1 : decode cX3_add 1 = .ok (.getfield 15, 3) := by decide +kernel
theorem dX3_add_4 : decode cX3_add 4 = .ok (.ifCond .lt 12, 3) := by decide +kernel
theorem dX3_add_7 : decode cX3_add 7 = .ok (.aload_n 0, 1) := by decide +kernel
theorem dX3_add_8 : decode cX3_add 8 = .ok (.getfield 15, 3) := by decide +kernel
theorem dX3_add_11 : decode cX3_add 11 = .ok (.bipush 60, 2) := by decide +kernel
theorem dX3_add_13 : decode cX3_add 13 = .ok (.if_icmp .lt 5, 3) := by decide +kernel
theorem dX3_add_16 : decode cX3_add 16 = .ok (.iconst 0, 1) := by decide +kernel
theorem dX3_add_17 : decode cX3_add 17 = .ok (.ireturn, 1) := by decide +kernel
theorem dX3_add_18 : decode cX3_add 18 = .ok (.aload_n 0, 1) := by decide +kernel
theorem dX3_add_19 : decode cX3_add 19 = .ok (.getfield 9, 3) := by decide +kernel
theorem dX3_add_22 : decode cX3_add 22 = .ok (.aload_n 0, 1) := by decide +kernel
theorem dX3_add_23 : decode cX3_add 23 = .ok (.getfield 15, 3) := by decide +kernel
theorem dX3_add_26 : decode cX3_add 26 = .ok (.iload_n 1, 1) := by decide +kernel
theorem dX3_add_27 : decode cX3_add 27 = .ok (.castore, 1) := by decide +kernel
theorem dX3_add_28 : decode cX3_add 28 = .ok (.aload_n 0, 1) := by decide +kernel
theorem dX3_add_29 : decode cX3_add 29 = .ok (.dup, 1) := by decide +kernel
theorem dX3_add_30 : decode cX3_add 30 = .ok (.getfield 15, 3) := by decide +kernel
theorem dX3_add_33 : decode cX3_add 33 = .ok (.iconst 1, 1) := by decide +kernel
theorem dX3_add_34 : decode cX3_add 34 = .ok (.iadd, 1) := by decide +kernel
theorem dX3_add_35 : decode cX3_add 35 = .ok (.putfield 15, 3) := by decide +kernel
theorem dX3_add_38 : decode cX3_add 38 = .ok (.iconst 1, 1) := by decide +kernel
theorem dX3_add_39 : decode cX3_add 39 = .ok (.ireturn, 1) := by decide +kernel
theorem dX3_empty_0 : decode cX3_empty 0 = .ok (.aload_n 0, 1) := by decide +kernel
theorem dX3_empty_1 : decode cX3_empty 1 = .ok (.iconst 0, 1) := by decide +kernel
theorem dX3_empty_2 : decode cX3_empty 2 = .ok (.putfield 15, 3) := by decide +kernel
theorem dX3_empty_5 : decode cX3_empty 5 = .ok (.return_, 1) := by decide +kernel
theorem dX3_characterAt_0 : decode cX3_characterAt 0 = .ok (.iload_n 1, 1) := by decide +kernel
theorem dX3_characterAt_1 : decode cX3_characterAt 1 = .ok (.ifCond .lt 18, 3) := by decide +kernel
theorem dX3_characterAt_4 : decode cX3_characterAt 4 = .ok (.iload_n 1, 1) := by decide +kernel
theorem dX3_characterAt_5 : decode cX3_characterAt 5 = .ok (.bipush 60, 2) := by decide +kernel
theorem dX3_characterAt_7 : decode cX3_characterAt 7 = .ok (.if_icmp .ge 12, 3) := by decide +kernel
theorem dX3_characterAt_10 : decode cX3_characterAt 10 = .ok (.aload_n 0, 1) := by decide +kernel
theorem dX3_characterAt_11 : decode cX3_characterAt 11 = .ok (.getfield 9, 3) := by decide +kernel
theorem dX3_characterAt_14 : decode cX3_characterAt 14 = .ok (.iload_n 1, 1) := by decide +kernel
theorem dX3_characterAt_15 : decode cX3_characterAt 15 = .ok (.caload, 1) := by decide +kernel
theorem dX3_characterAt_16 : decode cX3_characterAt 16 = .ok (.goto 4, 3) := by decide +kernel
theorem dX3_characterAt_19 : decode cX3_characterAt 19 = .ok (.iconst 0, 1) := by decide +kernel
theorem dX3_characterAt_20 : decode cX3_characterAt 20 = .ok (.ireturn, 1) := by decide +kernel
theorem dX3_isDigit_0 : decode cX3_isDigit 0 = .ok (.iload_n 0, 1) := by decide +kernel
theorem dX3_isDigit_1 : decode cX3_isDigit 1 = .ok (.bipush 48, 2) := by decide +kernel
theorem dX3_isDigit_3 : decode cX3_isDigit 3 = .ok (.if_icmp .lt 13, 3) := by decide +kernel
theorem dX3_isDigit_6 : decode cX3_isDigit 6 = .ok (.iload_n 0, 1) := by decide +kernel
theorem dX3_isDigit_7 : decode cX3_isDigit 7 = .ok (.bipush 57, 2) := by decide +kernel
theorem dX3_isDigit_9 : decode cX3_isDigit 9 = .ok (.if_icmp .gt 7, 3) := by decide +kernel
theorem dX3_isDigit_12 : decode cX3_isDigit 12 = .ok (.iconst 1, 1) := by decide +kernel
theorem dX3_isDigit_13 : decode cX3_isDigit 13 = .ok (.goto 4, 3) := by decide +kernel
theorem dX3_isDigit_16 : decode cX3_isDigit 16 = .ok (.iconst 0, 1) := by decide +kernel
theorem dX3_isDigit_17 : decode cX3_isDigit 17 = .ok (.ireturn, 1) := by decide +kernel
set_option maxRecDepth 20000 in
theorem ggX3_fault_X3_characterAt : GoodIn wsX3_fault wsX3_characterAt := goodIn_r _ [6, 7, 11, 12] (by decide +kernel) (by decide +kernel)
set_option maxRecDepth 20000 in
theorem gX3_fault_X3_characterAt : GoodIn wsX3_fault (wsV RX3 19 RX3 yX3_characterAt wsX3_characterAt) := goodIn_app (goodIn_of _ (by decide +kernel)) ggX3_fault_X3_characterAt
set_option maxRecDepth 20000 in
theorem ggX3_fault_X3_isDigit : GoodIn wsX3_fault wsX3_isDigit := goodIn_r _ [10] (by decide +kernel) (by decide +kernel)
set_option maxRecDepth 20000 in
theorem gX3_fault_X3_isDigit : GoodIn wsX3_fault (va_wsS RX3 23 yX3_isDigit wsX3_isDigit) := goodIn_app (goodIn_of _ (by decide +kernel)) ggX3_fault_X3_isDigit
theorem dX3_fault_0 : decode cX3_fault 0 = .ok (.iconst 0, 1) := by decide +kernel
theorem dX3_fault_1 : decode cX3_fault 1 = .ok (.istore_n 1, 1) := by decide +kernel
theorem dX3_fault_2 : decode cX3_fault 2 = .ok (.iconst 0, 1) := by decide +kernel
theorem dX3_fault_3 : decode cX3_fault 3 = .ok (.istore_n 2, 1) := by decide +kernel
theorem dX3_fault_4 : decode cX3_fault 4 = .ok (.iload_n 2, 1) := by decide +kernel
theorem dX3_fault_5 : decode cX3_fault 5 = .ok (.aload_n 0, 1) := by decide +kernel
theorem dX3_fault_6 : decode cX3_fault 6 = .ok (.getfield 15, 3) := by decide +kernel
theorem dX3_fault_9 : decode cX3_fault 9 = .ok (.if_icmp .ge 81, 3) := by decide +kernel
theorem dX3_fault_12 : decode cX3_fault 12 = .ok (.aload_n 0, 1) := by decide +kernel
theorem dX3_fault_13 : decode cX3_fault 13 = .ok (.iload_n 2, 1) := by decide +kernel
theorem dX3_fault_14 : decode cX3_fault 14 = .ok (.invokevirtual 19, 3) := by decide +kernel
theorem dX3_fault_17 : decode cX3_fault 17 = .ok (.istore_n 3, 1) := by decide +kernel
theorem dX3_fault_18 : decode cX3_fault 18 = .ok (.iload_n 3, 1) := by decide +kernel
theorem dX3_fault_19 : decode cX3_fault 19 = .ok (.invokestatic 23, 3) := by decide +kernel
theorem dX3_fault_22 : decode cX3_fault 22 = .ok (.ifCond .eq 45, 3) := by decide +kernel
theorem dX3_fault_25 : decode cX3_fault 25 = .ok (.iload_n 1, 1) := by decide +kernel
theorem dX3_fault_26 : decode cX3_fault 26 = .ok (.iconst 1, 1) := by decide +kernel
theorem dX3_fault_27 : decode cX3_fault 27 = .ok (.if_icmp .ne 19, 3) := by decide +kernel
theorem dX3_fault_30 : decode cX3_fault 30 = .ok (.aload_n 0, 1) := by decide +kernel
theorem dX3_fault_31 : decode cX3_fault 31 = .ok (.iload_n 2, 1) := by decide +kernel
theorem dX3_fault_32 : decode cX3_fault 32 = .ok (.iconst 1, 1) := by decide +kernel
theorem dX3_fault_33 : decode cX3_fault 33 = .ok (.isub, 1) := by decide +kernel
theorem dX3_fault_34 : decode cX3_fault 34 = .ok (.invokevirtual 19, 3) := by decide +kernel
theorem dX3_fault_37 : decode cX3_fault 37 = .ok (.bipush 48, 2) := by decide +kernel
theorem dX3_fault_39 : decode cX3_fault 39 = .ok (.if_icmp .ne 7, 3) := by decide +kernel
theorem dX3_fault_42 : decode cX3_fault 42 = .ok (.iconst 1, 1) := by decide +kernel
theorem dX3_fault_43 : decode cX3_fault 43 = .ok (.goto 4, 3) := by decide +kernel
theorem dX3_fault_46 : decode cX3_fault 46 = .ok (.iconst 0, 1) := by decide +kernel
theorem dX3_fault_47 : decode cX3_fault 47 = .ok (.istore 4, 2) := by decide +kernel
theorem dX3_fault_49 : decode cX3_fault 49 = .ok (.iload 4, 2) := by decide +kernel
theorem dX3_fault_51 : decode cX3_fault 51 = .ok (.ifCond .ne 8, 3) := by decide +kernel
theorem dX3_fault_54 : decode cX3_fault 54 = .ok (.iload_n 1, 1) := by decide +kernel
theorem dX3_fault_55 : decode cX3_fault 55 = .ok (.iconst 3, 1) := by decide +kernel
theorem dX3_fault_56 : decode cX3_fault 56 = .ok (.if_icmp .ne 5, 3) := by decide +kernel
theorem dX3_fault_59 : decode cX3_fault 59 = .ok (.iload_n 2, 1) := by decide +kernel
theorem dX3_fault_60 : decode cX3_fault 60 = .ok (.ireturn, 1) := by decide +kernel
theorem dX3_fault_61 : decode cX3_fault 61 = .ok (.iinc 1 1, 3) := by decide +kernel
theorem dX3_fault_64 : decode cX3_fault 64 = .ok (.goto 20, 3) := by decide +kernel
theorem dX3_fault_67 : decode cX3_fault 67 = .ok (.iload_n 3, 1) := by decide +kernel
theorem dX3_fault_68 : decode cX3_fault 68 = .ok (.bipush 44, 2) := by decide +kernel
theorem dX3_fault_70 : decode cX3_fault 70 = .ok (.if_icmp .ne 12, 3) := by decide +kernel
theorem dX3_fault_73 : decode cX3_fault 73 = .ok (.iload_n 1, 1) := by decide +kernel
theorem dX3_fault_74 : decode cX3_fault 74 = .ok (.ifCond .le 8, 3) := by decide +kernel
theorem dX3_fault_77 : decode cX3_fault 77 = .ok (.iconst 0, 1) := by decide +kernel
theorem dX3_fault_78 : decode cX3_fault 78 = .ok (.istore_n 1, 1) := by decide +kernel
theorem dX3_fault_79 : decode cX3_fault 79 = .ok (.goto 5, 3) := by decide +kernel
theorem dX3_fault_82 : decode cX3_fault 82 = .ok (.iload_n 2, 1) := by decide +kernel
theorem dX3_fault_83 : decode cX3_fault 83 = .ok (.ireturn, 1) := by decide +kernel
theorem dX3_fault_84 : decode cX3_fault 84 = .ok (.iinc 2 1, 3) := by decide +kernel
theorem dX3_fault_87 : decode cX3_fault 87 = .ok (.goto (-83), 3) := by decide +kernel
theorem dX3_fault_90 : decode cX3_fault 90 = .ok (.iload_n 1, 1) := by decide +kernel
theorem dX3_fault_91 : decode cX3_fault 91 = .ok (.ifCond .ne 10, 3) := by decide +kernel
theorem dX3_fault_94 : decode cX3_fault 94 = .ok (.aload_n 0, 1) := by decide +kernel
theorem dX3_fault_95 : decode cX3_fault 95 = .ok (.getfield 15, 3) := by decide +kernel
theorem dX3_fault_98 : decode cX3_fault 98 = .ok (.goto 4, 3) := by decide +kernel
theorem dX3_fault_101 : decode cX3_fault 101 = .ok (.iconst (-1), 1) := by decide +kernel
theorem dX3_fault_102 : decode cX3_fault 102 = .ok (.ireturn, 1) := by decide +kernel
set_option maxRecDepth 20000 in
theorem ggX3_values_X3_commas : GoodIn wsX3_values wsX3_commas := goodIn_r _ [7, 2, 8, 9, 10, 6, 11, 12, 13, 14] (by decide +kernel) (by decide +kernel)
set_option maxRecDepth 20000 in
theorem gX3_values_X3_commas : GoodIn wsX3_values (wsV RX3 27 RX3 yX3_commas wsX3_commas) := goodIn_app (goodIn_of _ (by decide +kernel)) ggX3_values_X3_commas
set_option maxRecDepth 20000 in
theorem ggX3_values_X3_characterAt : GoodIn wsX3_values wsX3_characterAt := goodIn_r _ [11, 12, 13, 14] (by decide +kernel) (by decide +kernel)
set_option maxRecDepth 20000 in
theorem gX3_values_X3_characterAt : GoodIn wsX3_values (wsV RX3 19 RX3 yX3_characterAt wsX3_characterAt) := goodIn_app (goodIn_of _ (by decide +kernel)) ggX3_values_X3_characterAt
theorem dX3_values_0 : decode cX3_values 0 = .ok (.aload_n 0, 1) := by decide +kernel
theorem dX3_values_1 : decode cX3_values 1 = .ok (.invokevirtual 27, 3) := by decide +kernel
theorem dX3_values_4 : decode cX3_values 4 = .ok (.iconst 1, 1) := by decide +kernel
theorem dX3_values_5 : decode cX3_values 5 = .ok (.iadd, 1) := by decide +kernel
theorem dX3_values_6 : decode cX3_values 6 = .ok (.newarray .int, 2) := by decide +kernel
theorem dX3_values_8 : decode cX3_values 8 = .ok (.astore_n 1, 1) := by decide +kernel
theorem dX3_values_9 : decode cX3_values 9 = .ok (.iconst 0, 1) := by decide +kernel
theorem dX3_values_10 : decode cX3_values 10 = .ok (.istore_n 2, 1) := by decide +kernel
theorem dX3_values_11 : decode cX3_values 11 = .ok (.iconst 0, 1) := by decide +kernel
theorem dX3_values_12 : decode cX3_values 12 = .ok (.istore_n 3, 1) := by decide +kernel
theorem dX3_values_13 : decode cX3_values 13 = .ok (.iload_n 3, 1) := by decide +kernel
theorem dX3_values_14 : decode cX3_values 14 = .ok (.aload_n 0, 1) := by decide +kernel
theorem dX3_values_15 : decode cX3_values 15 = .ok (.getfield 15, 3) := by decide +kernel
theorem dX3_values_18 : decode cX3_values 18 = .ok (.if_icmp .ge 50, 3) := by decide +kernel
theorem dX3_values_21 : decode cX3_values 21 = .ok (.aload_n 0, 1) := by decide +kernel
theorem dX3_values_22 : decode cX3_values 22 = .ok (.iload_n 3, 1) := by decide +kernel
theorem dX3_values_23 : decode cX3_values 23 = .ok (.invokevirtual 19, 3) := by decide +kernel
theorem dX3_values_26 : decode cX3_values 26 = .ok (.istore 4, 2) := by decide +kernel
theorem dX3_values_28 : decode cX3_values 28 = .ok (.iload 4, 2) := by decide +kernel
theorem dX3_values_30 : decode cX3_values 30 = .ok (.bipush 44, 2) := by decide +kernel
theorem dX3_values_32 : decode cX3_values 32 = .ok (.if_icmp .ne 9, 3) := by decide +kernel
theorem dX3_values_35 : decode cX3_values 35 = .ok (.iinc 2 1, 3) := by decide +kernel
theorem dX3_values_38 : decode cX3_values 38 = .ok (.goto 24, 3) := by decide +kernel
theorem dX3_values_41 : decode cX3_values 41 = .ok (.iload_n 2, 1) := by decide +kernel
theorem dX3_values_42 : decode cX3_values 42 = .ok (.aload_n 1, 1) := by decide +kernel
theorem dX3_values_43 : decode cX3_values 43 = .ok (.arraylength, 1) := by decide +kernel
theorem dX3_values_44 : decode cX3_values 44 = .ok (.if_icmp .ge 18, 3) := by decide +kernel
theorem dX3_values_47 : decode cX3_values 47 = .ok (.aload_n 1, 1) := by decide +kernel
theorem dX3_values_48 : decode cX3_values 48 = .ok (.iload_n 2, 1) := by decide +kernel
theorem dX3_values_49 : decode cX3_values 49 = .ok (.aload_n 1, 1) := by decide +kernel
theorem dX3_values_50 : decode cX3_values 50 = .ok (.iload_n 2, 1) := by decide +kernel
theorem dX3_values_51 : decode cX3_values 51 = .ok (.iaload, 1) := by decide +kernel
theorem dX3_values_52 : decode cX3_values 52 = .ok (.bipush 10, 2) := by decide +kernel
theorem dX3_values_54 : decode cX3_values 54 = .ok (.imul, 1) := by decide +kernel
theorem dX3_values_55 : decode cX3_values 55 = .ok (.iload 4, 2) := by decide +kernel
theorem dX3_values_57 : decode cX3_values 57 = .ok (.bipush 48, 2) := by decide +kernel
theorem dX3_values_59 : decode cX3_values 59 = .ok (.isub, 1) := by decide +kernel
theorem dX3_values_60 : decode cX3_values 60 = .ok (.iadd, 1) := by decide +kernel
theorem dX3_values_61 : decode cX3_values 61 = .ok (.iastore, 1) := by decide +kernel
theorem dX3_values_62 : decode cX3_values 62 = .ok (.iinc 3 1, 3) := by decide +kernel
theorem dX3_values_65 : decode cX3_values 65 = .ok (.goto (-52), 3) := by decide +kernel
theorem dX3_values_68 : decode cX3_values 68 = .ok (.aload_n 1, 1) := by decide +kernel
theorem dX3_values_69 : decode cX3_values 69 = .ok (.areturn, 1) := by decide +kernel
set_option maxRecDepth 20000 in
theorem ggX3_commas_X3_characterAt : GoodIn wsX3_commas wsX3_characterAt := goodIn_r _ [6, 7, 8, 9] (by decide +kernel) (by decide +kernel)
set_option maxRecDepth 20000 in
theorem gX3_commas_X3_characterAt : GoodIn wsX3_commas (wsV RX3 19 RX3 yX3_characterAt wsX3_characterAt) := goodIn_app (goodIn_of _ (by decide +kernel)) ggX3_commas_X3_characterAt
theorem dX3_commas_0 : decode cX3_commas 0 = .ok (.iconst 0, 1) := by decide +kernel
theorem dX3_commas_1 : decode cX3_commas 1 = .ok (.istore_n 1, 1) := by decide +kernel
theorem dX3_commas_2 : decode cX3_commas 2 = .ok (.iconst 0, 1) := by decide +kernel
theorem dX3_commas_3 : decode cX3_commas 3 = .ok (.istore_n 2, 1) := by decide +kernel
theorem dX3_commas_4 : decode cX3_commas 4 = .ok (.iload_n 2, 1) := by decide +kernel
theorem dX3_commas_5 : decode cX3_commas 5 = .ok (.aload_n 0, 1) := by decide +kernel
theorem dX3_commas_6 : decode cX3_commas 6 = .ok (.getfield 15, 3) := by decide +kernel
theorem dX3_commas_9 : decode cX3_commas 9 = .ok (.if_icmp .ge 22, 3) := by decide +kernel
theorem dX3_commas_12 : decode cX3_commas 12 = .ok (.aload_n 0, 1) := by decide +kernel
theorem dX3_commas_13 : decode cX3_commas 13 = .ok (.iload_n 2, 1) := by decide +kernel
theorem dX3_commas_14 : decode cX3_commas 14 = .ok (.invokevirtual 19, 3) := by decide +kernel
theorem dX3_commas_17 : decode cX3_commas 17 = .ok (.bipush 44, 2) := by decide +kernel
theorem dX3_commas_19 : decode cX3_commas 19 = .ok (.if_icmp .ne 6, 3) := by decide +kernel
theorem dX3_commas_22 : decode cX3_commas 22 = .ok (.iinc 1 1, 3) := by decide +kernel
theorem dX3_commas_25 : decode cX3_commas 25 = .ok (.iinc 2 1, 3) := by decide +kernel
theorem dX3_commas_28 : decode cX3_commas 28 = .ok (.goto (-24), 3) := by decide +kernel
theorem dX3_commas_31 : decode cX3_commas 31 = .ok (.iload_n 1, 1) := by decide +kernel
theorem dX3_commas_32 : decode cX3_commas 32 = .ok (.ireturn, 1) := by decide +kernel
theorem dX4_init_0 : decode cX4_init 0 = .ok (.aload_n 0, 1) := by decide +kernel
theorem dX4_init_1 : decode cX4_init 1 = .ok (.invokespecial 3, 3) := by decide +kernel
theorem dX4_init_4 : decode cX4_init 4 = .ok (.aload_n 0, 1) := by decide +kernel
theorem dX4_init_5 : decode cX4_init 5 = .ok (.aload_n 1, 1) := by decide +kernel
theorem dX4_init_6 : decode cX4_init 6 = .ok (.putfield 9, 3) := by decide +kernel
theorem dX4_init_9 : decode cX4_init 9 = .ok (.aload_n 0, 1) := by decide +kernel
theorem dX4_init_10 : decode cX4_init 10 = .ok (.iload_n 2, 1) := by decide +kernel
theorem dX4_init_11 : decode cX4_init 11 = .ok (.putfield 15, 3) := by decide +kernel
theorem dX4_init_14 : decode cX4_init 14 = .ok (.aload_n 0, 1) := by decide +kernel
theorem dX4_init_15 : decode cX4_init 15 = .ok (.iload_n 3, 1) := by decide +kernel
theorem dX4_init_16 : decode cX4_init 16 = .ok (.putfield 19, 3) := by decide +kernel
theorem dX4_init_19 : decode cX4_init 19 = .ok (.aload_n 0, 1) := by decide +kernel
theorem dX4_init_20 : decode cX4_init 20 = .ok (.iload 4, 2) := by decide +kernel
theorem dX4_init_22 : decode cX4_init 22 = .ok (.putfield 23, 3) := by decide +kernel
theorem dX4_init_25 : decode cX4_init 25 = .ok (.return_, 1) := by decide +kernel
theorem dX4_end_0 : decode cX4_end 0 = .ok (.aload_n 0, 1) := by decide +kernel
theorem dX4_end_1 : decode cX4_end 1 = .ok (.getfield 19, 3) := by decide +kernel
theorem dX4_end_4 : decode cX4_end 4 = .ok (.aload_n 0, 1) := by decide +kernel
theorem dX4_end_5 : decode cX4_end 5 = .ok (.getfield 23, 3) := by decide +kernel
theorem dX4_end_8 : decode cX4_end 8 = .ok (.iadd, 1) := by decide +kernel
theorem dX4_end_9 : decode cX4_end 9 = .ok (.ireturn, 1) := by decide +kernel
theorem dX4_shows_0 : decode cX4_shows 0 = .ok (.iload_n 1, 1) := by decide +kernel
theorem dX4_shows_1 : decode cX4_shows 1 = .ok (.ifCond .lt 15, 3) := by decide +kernel
theorem dX4_shows_4 : decode cX4_shows 4 = .ok (.iload_n 1, 1) := by decide +kernel
theorem dX4_shows_5 : decode cX4_shows 5 = .ok (.aload_n 0, 1) := by decide +kernel
theorem dX4_shows_6 : decode cX4_shows 6 = .ok (.getfield 23, 3) := by decide +kernel
theorem dX4_shows_9 : decode cX4_shows 9 = .ok (.if_icmp .ge 7, 3) := by decide +kernel
theorem dX4_shows_12 : decode cX4_shows 12 = .ok (.iconst 1, 1) := by decide +kernel
theorem dX4_shows_13 : decode cX4_shows 13 = .ok (.goto 4, 3) := by decide +kernel
theorem dX4_shows_16 : decode cX4_shows 16 = .ok (.iconst 0, 1) := by decide +kernel
theorem dX4_shows_17 : decode cX4_shows 17 = .ok (.ireturn, 1) := by decide +kernel
theorem dX4_valueAt_0 : decode cX4_valueAt 0 = .ok (.aload_n 0, 1) := by decide +kernel
theorem dX4_valueAt_1 : decode cX4_valueAt 1 = .ok (.getfield 19, 3) := by decide +kernel
theorem dX4_valueAt_4 : decode cX4_valueAt 4 = .ok (.iload_n 1, 1) := by decide +kernel
theorem dX4_valueAt_5 : decode cX4_valueAt 5 = .ok (.iadd, 1) := by decide +kernel
theorem dX4_valueAt_6 : decode cX4_valueAt 6 = .ok (.istore_n 2, 1) := by decide +kernel
theorem dX4_valueAt_7 : decode cX4_valueAt 7 = .ok (.iload_n 2, 1) := by decide +kernel
theorem dX4_valueAt_8 : decode cX4_valueAt 8 = .ok (.ifCond .lt 27, 3) := by decide +kernel
theorem dX4_valueAt_11 : decode cX4_valueAt 11 = .ok (.iload_n 2, 1) := by decide +kernel
theorem dX4_valueAt_12 : decode cX4_valueAt 12 = .ok (.aload_n 0, 1) := by decide +kernel
theorem dX4_valueAt_13 : decode cX4_valueAt 13 = .ok (.getfield 9, 3) := by decide +kernel
theorem dX4_valueAt_16 : decode cX4_valueAt 16 = .ok (.getfield 26, 3) := by decide +kernel
theorem dX4_valueAt_19 : decode cX4_valueAt 19 = .ok (.arraylength, 1) := by decide +kernel
theorem dX4_valueAt_20 : decode cX4_valueAt 20 = .ok (.if_icmp .ge 15, 3) := by decide +kernel
theorem dX4_valueAt_23 : decode cX4_valueAt 23 = .ok (.aload_n 0, 1) := by decide +kernel
theorem dX4_valueAt_24 : decode cX4_valueAt 24 = .ok (.getfield 9, 3) := by decide +kernel
theorem dX4_valueAt_27 : decode cX4_valueAt 27 = .ok (.getfield 26, 3) := by decide +kernel
theorem dX4_valueAt_30 : decode cX4_valueAt 30 = .ok (.iload_n 2, 1) := by decide +kernel
theorem dX4_valueAt_31 : decode cX4_valueAt 31 = .ok (.iaload, 1) := by decide +kernel
theorem dX4_valueAt_32 : decode cX4_valueAt 32 = .ok (.goto 5, 3) := by decide +kernel
theorem dX4_valueAt_35 : decode cX4_valueAt 35 = .ok (.bipush (-5), 2) := by decide +kernel
theorem dX4_valueAt_37 : decode cX4_valueAt 37 = .ok (.ireturn, 1) := by decide +kernel
set_option maxRecDepth 20000 in
theorem ggX4_sum_X4_valueAt : GoodIn wsX4_sum wsX4_valueAt := goodIn_r _ [6, 7, 8, 9, 10, 11, 12, 13, 14, 15, 16] (by decide +kernel) (by decide +kernel)
set_option maxRecDepth 20000 in
theorem gX4_sum_X4_valueAt : GoodIn wsX4_sum (wsV RX4 32 RX4 yX4_valueAt wsX4_valueAt) := goodIn_app (goodIn_of _ (by decide +kernel)) ggX4_sum_X4_valueAt
theorem dX4_sum_0 : decode cX4_sum 0 = .ok (.iconst 0, 1) := by decide +kernel
theorem dX4_sum_1 : decode cX4_sum 1 = .ok (.istore_n 1, 1) := by decide +kernel
theorem dX4_sum_2 : decode cX4_sum 2 = .ok (.iconst 0, 1) := by decide +kernel
theorem dX4_sum_3 : decode cX4_sum 3 = .ok (.istore_n 2, 1) := by decide +kernel
theorem dX4_sum_4 : decode cX4_sum 4 = .ok (.iload_n 2, 1) := by decide +kernel
theorem dX4_sum_5 : decode cX4_sum 5 = .ok (.aload_n 0, 1) := by decide +kernel
theorem dX4_sum_6 : decode cX4_sum 6 = .ok (.getfield 23, 3) := by decide +kernel
theorem dX4_sum_9 : decode cX4_sum 9 = .ok (.if_icmp .ge 17, 3) := by decide +kernel
theorem dX4_sum_12 : decode cX4_sum 12 = .ok (.iload_n 1, 1) := by decide +kernel
theorem dX4_sum_13 : decode cX4_sum 13 = .ok (.aload_n 0, 1) := by decide +kernel
theorem dX4_sum_14 : decode cX4_sum 14 = .ok (.iload_n 2, 1) := by decide +kernel
theorem dX4_sum_15 : decode cX4_sum 15 = .ok (.invokevirtual 32, 3) := by decide +kernel
theorem dX4_sum_18 : decode cX4_sum 18 = .ok (.iadd, 1) := by decide +kernel
theorem dX4_sum_19 : decode cX4_sum 19 = .ok (.istore_n 1, 1) := by decide +kernel
theorem dX4_sum_20 : decode cX4_sum 20 = .ok (.iinc 2 1, 3) := by decide +kernel
theorem dX4_sum_23 : decode cX4_sum 23 = .ok (.goto (-19), 3) := by decide +kernel
theorem dX4_sum_26 : decode cX4_sum 26 = .ok (.iload_n 1, 1) := by decide +kernel
theorem dX4_sum_27 : decode cX4_sum 27 = .ok (.ireturn, 1) := by decide +kernel
set_option maxRecDepth 20000 in
theorem ggX4_greatest_X4_valueAt : GoodIn wsX4_greatest wsX4_valueAt := goodIn_r _ [10, 11, 12, 13, 14, 15, 16, 17, 18, 19, 20] (by decide +kernel) (by decide +kernel)
set_option maxRecDepth 20000 in
theorem gX4_greatest_X4_valueAt : GoodIn wsX4_greatest (wsV RX4 32 RX4 yX4_valueAt wsX4_valueAt) := goodIn_app (goodIn_of _ (by decide +kernel)) ggX4_greatest_X4_valueAt
theorem dX4_greatest_0 : decode cX4_greatest 0 = .ok (.bipush (-5), 2) := by decide +kernel
theorem dX4_greatest_2 : decode cX4_greatest 2 = .ok (.istore_n 1, 1) := by decide +kernel
theorem dX4_greatest_3 : decode cX4_greatest 3 = .ok (.iconst 0, 1) := by decide +kernel
theorem dX4_greatest_4 : decode cX4_greatest 4 = .ok (.istore_n 2, 1) := by decide +kernel
theorem dX4_greatest_5 : decode cX4_greatest 5 = .ok (.iload_n 2, 1) := by decide +kernel
theorem dX4_greatest_6 : decode cX4_greatest 6 = .ok (.aload_n 0, 1) := by decide +kernel
theorem dX4_greatest_7 : decode cX4_greatest 7 = .ok (.getfield 23, 3) := by decide +kernel
theorem dX4_greatest_10 : decode cX4_greatest 10 = .ok (.if_icmp .ge 19, 3) := by decide +kernel
theorem dX4_greatest_13 : decode cX4_greatest 13 = .ok (.iload_n 1, 1) := by decide +kernel
theorem dX4_greatest_14 : decode cX4_greatest 14 = .ok (.aload_n 0, 1) := by decide +kernel
theorem dX4_greatest_15 : decode cX4_greatest 15 = .ok (.iload_n 2, 1) := by decide +kernel
theorem dX4_greatest_16 : decode cX4_greatest 16 = .ok (.invokevirtual 32, 3) := by decide +kernel
theorem dX4_greatest_19 : decode cX4_greatest 19 = .ok (.invokestatic 36, 3) := by decide +kernel
theorem dX4_greatest_22 : decode cX4_greatest 22 = .ok (.istore_n 1, 1) := by decide +kernel
theorem dX4_greatest_23 : decode cX4_greatest 23 = .ok (.iinc 2 1, 3) := by decide +kernel
theorem dX4_greatest_26 : decode cX4_greatest 26 = .ok (.goto (-21), 3) := by decide +kernel
theorem dX4_greatest_29 : decode cX4_greatest 29 = .ok (.iload_n 1, 1) := by decide +kernel
theorem dX4_greatest_30 : decode cX4_greatest 30 = .ok (.ireturn, 1) := by decide +kernel
set_option maxRecDepth 20000 in
theorem ggX4_firstDifference_X4_valueAt : GoodIn wsX4_firstDifference wsX4_valueAt := goodIn_r _ [10, 11, 12, 13, 14, 15, 16, 17, 18, 19, 20] (by decide +kernel) (by decide +kernel)
set_option maxRecDepth 20000 in
theorem gX4_firstDifference_X4_valueAt : GoodIn wsX4_firstDifference (wsV RX4 32 RX4 yX4_valueAt wsX4_valueAt) := goodIn_app (goodIn_of _ (by decide +kernel)) ggX4_firstDifference_X4_valueAt
theorem dX4_firstDifference_0 : decode cX4_firstDifference 0 = .ok (.aload_n 0, 1) := by decide +kernel
theorem dX4_firstDifference_1 : decode cX4_firstDifference 1 = .ok (.getfield 23, 3) := by decide +kernel
theorem dX4_firstDifference_4 : decode cX4_firstDifference 4 = .ok (.aload_n 1, 1) := by decide +kernel
theorem dX4_firstDifference_5 : decode cX4_firstDifference 5 = .ok (.getfield 23, 3) := by decide +kernel
theorem dX4_firstDifference_8 : decode cX4_firstDifference 8 = .ok (.invokestatic 42, 3) := by decide +kernel
theorem dX4_firstDifference_11 : decode cX4_firstDifference 11 = .ok (.istore_n 2, 1) := by decide +kernel
theorem dX4_firstDifference_12 : decode cX4_firstDifference 12 = .ok (.iconst 0, 1) := by decide +kernel
theorem dX4_firstDifference_13 : decode cX4_firstDifference 13 = .ok (.istore_n 3, 1) := by decide +kernel
theorem dX4_firstDifference_14 : decode cX4_firstDifference 14 = .ok (.iload_n 3, 1) := by decide +kernel
theorem dX4_firstDifference_15 : decode cX4_firstDifference 15 = .ok (.iload_n 2, 1) := by decide +kernel
theorem dX4_firstDifference_16 : decode cX4_firstDifference 16 = .ok (.if_icmp .ge 24, 3) := by decide +kernel
theorem dX4_firstDifference_19 : decode cX4_firstDifference 19 = .ok (.aload_n 0, 1) := by decide +kernel
theorem dX4_firstDifference_20 : decode cX4_firstDifference 20 = .ok (.iload_n 3, 1) := by decide +kernel
theorem dX4_firstDifference_21 : decode cX4_firstDifference 21 = .ok (.invokevirtual 32, 3) := by decide +kernel
theorem dX4_firstDifference_24 : decode cX4_firstDifference 24 = .ok (.aload_n 1, 1) := by decide +kernel
theorem dX4_firstDifference_25 : decode cX4_firstDifference 25 = .ok (.iload_n 3, 1) := by decide +kernel
theorem dX4_firstDifference_26 : decode cX4_firstDifference 26 = .ok (.invokevirtual 32, 3) := by decide +kernel
theorem dX4_firstDifference_29 : decode cX4_firstDifference 29 = .ok (.if_icmp .eq 5, 3) := by decide +kernel
theorem dX4_firstDifference_32 : decode cX4_firstDifference 32 = .ok (.iload_n 3, 1) := by decide +kernel
theorem dX4_firstDifference_33 : decode cX4_firstDifference 33 = .ok (.ireturn, 1) := by decide +kernel
theorem dX4_firstDifference_34 : decode cX4_firstDifference 34 = .ok (.iinc 3 1, 3) := by decide +kernel
theorem dX4_firstDifference_37 : decode cX4_firstDifference 37 = .ok (.goto (-23), 3) := by decide +kernel
theorem dX4_firstDifference_40 : decode cX4_firstDifference 40 = .ok (.aload_n 0, 1) := by decide +kernel
theorem dX4_firstDifference_41 : decode cX4_firstDifference 41 = .ok (.getfield 23, 3) := by decide +kernel
theorem dX4_firstDifference_44 : decode cX4_firstDifference 44 = .ok (.aload_n 1, 1) := by decide +kernel
theorem dX4_firstDifference_45 : decode cX4_firstDifference 45 = .ok (.getfield 23, 3) := by decide +kernel
theorem dX4_firstDifference_48 : decode cX4_firstDifference 48 = .ok (.if_icmp .ne 8, 3) := by decide +kernel
theorem dX4_firstDifference_51 : decode cX4_firstDifference 51 = .ok (.bipush (-5), 2) := by decide +kernel
theorem dX4_firstDifference_53 : decode cX4_firstDifference 53 = .ok (.goto 4, 3) := by decide +kernel
theorem dX4_firstDifference_56 : decode cX4_firstDifference 56 = .ok (.iload_n 2, 1) := by decide +kernel
theorem dX4_firstDifference_57 : decode cX4_firstDifference 57 = .ok (.ireturn, 1) := by decide +kernel
set_option maxRecDepth 20000 in
theorem ggX4_placeOf_X4_valueAt : GoodIn wsX4_placeOf wsX4_valueAt := goodIn_r _ [6, 7, 8, 9, 10, 11, 12, 13, 14, 15, 16] (by decide +kernel) (by decide +kernel)
set_option maxRecDepth 20000 in
theorem gX4_placeOf_X4_valueAt : GoodIn wsX4_placeOf (wsV RX4 32 RX4 yX4_valueAt wsX4_valueAt) := goodIn_app (goodIn_of _ (by decide +kernel)) ggX4_placeOf_X4_valueAt
theorem dX4_placeOf_0 : decode cX4_placeOf 0 = .ok (.iload_n 2, 1) := by decide +kernel
theorem dX4_placeOf_1 : decode cX4_placeOf 1 = .ok (.istore_n 3, 1) := by decide +kernel
theorem dX4_placeOf_2 : decode cX4_placeOf 2 = .ok (.iload_n 3, 1) := by decide +kernel
theorem dX4_placeOf_3 : decode cX4_placeOf 3 = .ok (.aload_n 0, 1) := by decide +kernel
theorem dX4_placeOf_4 : decode cX4_placeOf 4 = .ok (.getfield 23, 3) := by decide +kernel
theorem dX4_placeOf_7 : decode cX4_placeOf 7 = .ok (.if_icmp .ge 20, 3) := by decide +kernel
theorem dX4_placeOf_10 : decode cX4_placeOf 10 = .ok (.aload_n 0, 1) := by decide +kernel
theorem dX4_placeOf_11 : decode cX4_placeOf 11 = .ok (.iload_n 3, 1) := by decide +kernel
theorem dX4_placeOf_12 : decode cX4_placeOf 12 = .ok (.invokevirtual 32, 3) := by decide +kernel
theorem dX4_placeOf_15 : decode cX4_placeOf 15 = .ok (.iload_n 1, 1) := by decide +kernel
theorem dX4_placeOf_16 : decode cX4_placeOf 16 = .ok (.if_icmp .ne 5, 3) := by decide +kernel
theorem dX4_placeOf_19 : decode cX4_placeOf 19 = .ok (.iload_n 3, 1) := by decide +kernel
theorem dX4_placeOf_20 : decode cX4_placeOf 20 = .ok (.ireturn, 1) := by decide +kernel
theorem dX4_placeOf_21 : decode cX4_placeOf 21 = .ok (.iinc 3 1, 3) := by decide +kernel
theorem dX4_placeOf_24 : decode cX4_placeOf 24 = .ok (.goto (-22), 3) := by decide +kernel
theorem dX4_placeOf_27 : decode cX4_placeOf 27 = .ok (.bipush (-5), 2) := by decide +kernel
theorem dX4_placeOf_29 : decode cX4_placeOf 29 = .ok (.ireturn, 1) := by decide +kernel
theorem dJ9_max_7cf53_0 : decode cJ9_max_7cf53 0 = .ok (.iload_n 0, 1) := by decide +kernel
theorem dJ9_max_7cf53_1 : decode cJ9_max_7cf53 1 = .ok (.iload_n 1, 1) := by decide +kernel
theorem dJ9_max_7cf53_2 : decode cJ9_max_7cf53 2 = .ok (.if_icmp .lt 7, 3) := by decide +kernel
theorem dJ9_max_7cf53_5 : decode cJ9_max_7cf53 5 = .ok (.iload_n 0, 1) := by decide +kernel
theorem dJ9_max_7cf53_6 : decode cJ9_max_7cf53 6 = .ok (.goto 4, 3) := by decide +kernel
theorem dJ9_max_7cf53_9 : decode cJ9_max_7cf53 9 = .ok (.iload_n 1, 1) := by decide +kernel
theorem dJ9_max_7cf53_10 : decode cJ9_max_7cf53 10 = .ok (.ireturn, 1) := by decide +kernel
theorem dJ9_min_7cf53_0 : decode cJ9_min_7cf53 0 = .ok (.iload_n 0, 1) := by decide +kernel
theorem dJ9_min_7cf53_1 : decode cJ9_min_7cf53 1 = .ok (.iload_n 1, 1) := by decide +kernel
theorem dJ9_min_7cf53_2 : decode cJ9_min_7cf53 2 = .ok (.if_icmp .gt 7, 3) := by decide +kernel
theorem dJ9_min_7cf53_5 : decode cJ9_min_7cf53 5 = .ok (.iload_n 0, 1) := by decide +kernel
theorem dJ9_min_7cf53_6 : decode cJ9_min_7cf53 6 = .ok (.goto 4, 3) := by decide +kernel
theorem dJ9_min_7cf53_9 : decode cJ9_min_7cf53 9 = .ok (.iload_n 1, 1) := by decide +kernel
theorem dJ9_min_7cf53_10 : decode cJ9_min_7cf53 10 = .ok (.ireturn, 1) := by decide +kernel
theorem dJ7_fill_53178_0 : decode cJ7_fill_53178 0 = .ok (.iconst 0, 1) := by decide +kernel
theorem dJ7_fill_53178_1 : decode cJ7_fill_53178 1 = .ok (.istore_n 2, 1) := by decide +kernel
theorem dJ7_fill_53178_2 : decode cJ7_fill_53178 2 = .ok (.aload_n 0, 1) := by decide +kernel
theorem dJ7_fill_53178_3 : decode cJ7_fill_53178 3 = .ok (.arraylength, 1) := by decide +kernel
theorem dJ7_fill_53178_4 : decode cJ7_fill_53178 4 = .ok (.istore_n 3, 1) := by decide +kernel
theorem dJ7_fill_53178_5 : decode cJ7_fill_53178 5 = .ok (.iload_n 2, 1) := by decide +kernel
theorem dJ7_fill_53178_6 : decode cJ7_fill_53178 6 = .ok (.iload_n 3, 1) := by decide +kernel
theorem dJ7_fill_53178_7 : decode cJ7_fill_53178 7 = .ok (.if_icmp .ge 13, 3) := by decide +kernel
theorem dJ7_fill_53178_10 : decode cJ7_fill_53178 10 = .ok (.aload_n 0, 1) := by decide +kernel
theorem dJ7_fill_53178_11 : decode cJ7_fill_53178 11 = .ok (.iload_n 2, 1) := by decide +kernel
theorem dJ7_fill_53178_12 : decode cJ7_fill_53178 12 = .ok (.iload_n 1, 1) := by decide +kernel
theorem dJ7_fill_53178_13 : decode cJ7_fill_53178 13 = .ok (.iastore, 1) := by decide +kernel
theorem dJ7_fill_53178_14 : decode cJ7_fill_53178 14 = .ok (.iinc 2 1, 3) := by decide +kernel
theorem dJ7_fill_53178_17 : decode cJ7_fill_53178 17 = .ok (.goto (-12), 3) := by decide +kernel
theorem dJ7_fill_53178_20 : decode cJ7_fill_53178 20 = .ok (.return_, 1) := by decide +kernel
end
section
set_option maxRecDepth 20000 in
theorem ggX5_init_X2_init : GoodIn wsX5_init wsX2_init := goodIn_r _ [26, 27, 2, 3, 28, 29, 30, 31, 32, 33, 34, 81, 82, 83, 84, 85] (by decide +kernel) (by decide +kernel)
set_option maxRecDepth 20000 in
theorem gX5_init_X2_init : GoodIn wsX5_init (wsX2_init) := ggX5_init_X2_init
set_option maxRecDepth 20000 in
theorem ggX5_init_X0_init : GoodIn wsX5_init wsX0_init := goodIn_r _ [37, 38, 2, 3, 39, 40, 5, 6, 41, 42, 25, 26, 27, 28, 29, 30, 31, 32, 33, 34, 91, 92, 81, 82, 83, 84, 85] (by decide +kernel) (by decide +kernel)
set_option maxRecDepth 20000 in
theorem gX5_init_X0_init : GoodIn wsX5_init (wsX0_init) := ggX5_init_X0_init
set_option maxRecDepth 20000 in
theorem ggX5_init_X3_init : GoodIn wsX5_init wsX3_init := goodIn_r _ [45, 46, 2, 3, 47, 48, 49, 93, 94] (by decide +kernel) (by decide +kernel)
set_option maxRecDepth 20000 in
theorem gX5_init_X3_init : GoodIn wsX5_init (wsX3_init) := ggX5_init_X3_init
set_option maxRecDepth 20000 in
theorem ggX5_init_X1_init : GoodIn wsX5_init wsX1_init := goodIn_r _ [52, 53, 2, 3, 54, 55, 56, 57, 58, 59, 60, 61, 62, 63, 64, 65, 66, 67, 68, 99, 100, 101] (by decide +kernel) (by decide +kernel)
set_option maxRecDepth 20000 in
theorem gX5_init_X1_init : GoodIn wsX5_init (wsX1_init) := ggX5_init_X1_init
set_option maxRecDepth 20000 in
theorem ggX5_init_X4_init : GoodIn wsX5_init wsX4_init := goodIn_r _ [71, 72, 2, 3, 73, 74, 75, 76, 95, 96, 97, 98] (by decide +kernel) (by decide +kernel)
set_option maxRecDepth 20000 in
theorem gX5_init_X4_init : GoodIn wsX5_init (wsX4_init) := ggX5_init_X4_init
set_option maxRecDepth 20000 in
theorem ggX5_init_X2_addView : GoodIn wsX5_init wsX2_addView := goodIn_r _ [80, 30, 29, 81, 82, 83, 84, 85] (by decide +kernel) (by decide +kernel)
set_option maxRecDepth 20000 in
theorem gX5_init_X2_addView : GoodIn wsX5_init (wsV RX5 47 RX2 yX2_addView wsX2_addView) := goodIn_app (goodIn_of _ (by decide +kernel)) ggX5_init_X2_addView
theorem dX5_init_0 : decode cX5_init 0 = .ok (.aload_n 0, 1) := by decide +kernel
theorem dX5_init_1 : decode cX5_init 1 = .ok (.invokespecial 1, 3) := by decide +kernel
theorem dX5_init_4 : decode cX5_init 4 = .ok (.aload_n 0, 1) := by decide +kernel
theorem dX5_init_5 : decode cX5_init 5 = .ok (.new 7, 3) := by decide +kernel
theorem dX5_init_8 : decode cX5_init 8 = .ok (.dup, 1) := by decide +kernel
theorem dX5_init_9 : decode cX5_init 9 = .ok (.invokespecial 9, 3) := by decide +kernel
theorem dX5_init_12 : decode cX5_init 12 = .ok (.putfield 10, 3) := by decide +kernel
theorem dX5_init_15 : decode cX5_init 15 = .ok (.aload_n 0, 1) := by decide +kernel
theorem dX5_init_16 : decode cX5_init 16 = .ok (.new 7, 3) := by decide +kernel
theorem dX5_init_19 : decode cX5_init 19 = .ok (.dup, 1) := by decide +kernel
theorem dX5_init_20 : decode cX5_init 20 = .ok (.invokespecial 9, 3) := by decide +kernel
theorem dX5_init_23 : decode cX5_init 23 = .ok (.putfield 16, 3) := by decide +kernel
theorem dX5_init_26 : decode cX5_init 26 = .ok (.aload_n 0, 1) := by decide +kernel
theorem dX5_init_27 : decode cX5_init 27 = .ok (.iconst 0, 1) := by decide +kernel
theorem dX5_init_28 : decode cX5_init 28 = .ok (.putfield 19, 3) := by decide +kernel
theorem dX5_init_31 : decode cX5_init 31 = .ok (.aload_n 0, 1) := by decide +kernel
theorem dX5_init_32 : decode cX5_init 32 = .ok (.new 23, 3) := by decide +kernel
theorem dX5_init_35 : decode cX5_init 35 = .ok (.dup, 1) := by decide +kernel
theorem dX5_init_36 : decode cX5_init 36 = .ok (.invokespecial 25, 3) := by decide +kernel
theorem dX5_init_39 : decode cX5_init 39 = .ok (.putfield 26, 3) := by decide +kernel
theorem dX5_init_42 : decode cX5_init 42 = .ok (.aload_n 0, 1) := by decide +kernel
theorem dX5_init_43 : decode cX5_init 43 = .ok (.new 30, 3) := by decide +kernel
theorem dX5_init_46 : decode cX5_init 46 = .ok (.dup, 1) := by decide +kernel
theorem dX5_init_47 : decode cX5_init 47 = .ok (.invokespecial 32, 3) := by decide +kernel
theorem dX5_init_50 : decode cX5_init 50 = .ok (.putfield 33, 3) := by decide +kernel
theorem dX5_init_53 : decode cX5_init 53 = .ok (.aload_n 0, 1) := by decide +kernel
theorem dX5_init_54 : decode cX5_init 54 = .ok (.getfield 10, 3) := by decide +kernel
theorem dX5_init_57 : decode cX5_init 57 = .ok (.new 37, 3) := by decide +kernel
theorem dX5_init_60 : decode cX5_init 60 = .ok (.dup, 1) := by decide +kernel
theorem dX5_init_61 : decode cX5_init 61 = .ok (.new 39, 3) := by decide +kernel
theorem dX5_init_64 : decode cX5_init 64 = .ok (.dup, 1) := by decide +kernel
theorem dX5_init_65 : decode cX5_init 65 = .ok (.iconst 0, 1) := by decide +kernel
theorem dX5_init_66 : decode cX5_init 66 = .ok (.invokespecial 41, 3) := by decide +kernel
theorem dX5_init_69 : decode cX5_init 69 = .ok (.iconst 0, 1) := by decide +kernel
theorem dX5_init_70 : decode cX5_init 70 = .ok (.iconst 0, 1) := by decide +kernel
theorem dX5_init_71 : decode cX5_init 71 = .ok (.iconst 0, 1) := by decide +kernel
theorem dX5_init_72 : decode cX5_init 72 = .ok (.invokespecial 44, 3) := by decide +kernel
theorem dX5_init_75 : decode cX5_init 75 = .ok (.invokevirtual 47, 3) := by decide +kernel
theorem dX5_init_78 : decode cX5_init 78 = .ok (.pop, 1) := by decide +kernel
theorem dX5_init_79 : decode cX5_init 79 = .ok (.return_, 1) := by decide +kernel
set_option maxRecDepth 20000 in
theorem ggX5_push_X2_viewOf : GoodIn wsX5_push wsX2_viewOf := goodIn_r _ [14, 15, 134, 135, 136, 137, 138] (by decide +kernel) (by decide +kernel)
set_option maxRecDepth 20000 in
theorem gX5_push_X2_viewOf : GoodIn wsX5_push (wsV RX5 51 RX2 yX2_viewOf wsX2_viewOf) := goodIn_app (goodIn_of _ (by decide +kernel)) ggX5_push_X2_viewOf
set_option maxRecDepth 20000 in
theorem ggX5_push_X5_isValue : GoodIn wsX5_push wsX5_isValue := goodIn_r _ [19] (by decide +kernel) (by decide +kernel)
set_option maxRecDepth 20000 in
theorem gX5_push_X5_isValue : GoodIn wsX5_push (va_wsS RX5 55 yX5_isValue wsX5_isValue) := goodIn_app (goodIn_of _ (by decide +kernel)) ggX5_push_X5_isValue
set_option maxRecDepth 20000 in
theorem ggX5_push_X2_isFull : GoodIn wsX5_push wsX2_isFull := goodIn_r _ [23, 24, 134, 135, 136, 137, 138] (by decide +kernel) (by decide +kernel)
set_option maxRecDepth 20000 in
theorem gX5_push_X2_isFull : GoodIn wsX5_push (wsV RX5 59 RX2 yX2_isFull wsX2_isFull) := goodIn_app (goodIn_of _ (by decide +kernel)) ggX5_push_X2_isFull
set_option maxRecDepth 20000 in
theorem ggX5_push_X4_end : GoodIn wsX5_push wsX4_end := goodIn_r _ [28, 29, 30, 130, 131, 132, 133] (by decide +kernel) (by decide +kernel)
set_option maxRecDepth 20000 in
theorem gX5_push_X4_end : GoodIn wsX5_push (wsV RX5 63 RX4 yX4_end wsX4_end) := goodIn_app (goodIn_of _ (by decide +kernel)) ggX5_push_X4_end
set_option maxRecDepth 20000 in
theorem ggX5_push_X0_remember : GoodIn wsX5_push wsX0_remember := goodIn_r _ [35, 36, 37, 38, 39, 34, 40, 41, 42, 43, 44, 45, 46, 47, 48, 13, 49, 15, 24, 50, 51, 52, 139, 140, 134, 135, 136, 137, 138] (by decide +kernel) (by decide +kernel)
set_option maxRecDepth 20000 in
theorem gX5_push_X0_remember : GoodIn wsX5_push (wsV RX5 67 RX0 yX0_remember wsX0_remember) := goodIn_app (goodIn_of _ (by decide +kernel)) ggX5_push_X0_remember
set_option maxRecDepth 20000 in
theorem ggX5_push_X2_rowWith : GoodIn wsX5_push wsX2_rowWith := goodIn_r _ [56, 50, 57, 58, 59, 60, 61, 62, 63, 64, 65, 66, 67, 68, 69, 70, 71, 72, 73, 74, 75, 76, 77, 78, 79, 80, 81, 82, 83, 84, 85, 86, 87, 88, 89, 90, 91, 92, 93, 94, 95, 96, 97, 98, 99, 100, 101, 102, 18, 103, 104, 105, 106, 107, 108, 109, 110, 111, 112, 113, 114, 134, 135, 136, 137, 138, 141, 142, 143] (by decide +kernel) (by decide +kernel)
set_option maxRecDepth 20000 in
theorem gX5_push_X2_rowWith : GoodIn wsX5_push (wsV RX5 75 RX2 yX2_rowWith wsX2_rowWith) := goodIn_app (goodIn_of _ (by decide +kernel)) ggX5_push_X2_rowWith
set_option maxRecDepth 20000 in
theorem ggX5_push_X4_init : GoodIn wsX5_push wsX4_init := goodIn_r _ [117, 118, 76, 77, 119, 120, 29, 30, 130, 131, 132, 133] (by decide +kernel) (by decide +kernel)
set_option maxRecDepth 20000 in
theorem gX5_push_X4_init : GoodIn wsX5_push (wsX4_init) := ggX5_push_X4_init
set_option maxRecDepth 20000 in
theorem ggX5_push_X2_addView : GoodIn wsX5_push wsX2_addView := goodIn_r _ [124, 24, 15, 134, 135, 136, 137, 138] (by decide +kernel) (by decide +kernel)
set_option maxRecDepth 20000 in
theorem gX5_push_X2_addView : GoodIn wsX5_push (wsV RX5 47 RX2 yX2_addView wsX2_addView) := goodIn_app (goodIn_of _ (by decide +kernel)) ggX5_push_X2_addView
theorem dX5_push_0 : decode cX5_push 0 = .ok (.aload_n 0, 1) := by decide +kernel
theorem dX5_push_1 : decode cX5_push 1 = .ok (.getfield 10, 3) := by decide +kernel
theorem dX5_push_4 : decode cX5_push 4 = .ok (.iload_n 1, 1) := by decide +kernel
theorem dX5_push_5 : decode cX5_push 5 = .ok (.invokevirtual 51, 3) := by decide +kernel
theorem dX5_push_8 : decode cX5_push 8 = .ok (.astore_n 3, 1) := by decide +kernel
theorem dX5_push_9 : decode cX5_push 9 = .ok (.aload_n 3, 1) := by decide +kernel
theorem dX5_push_10 : decode cX5_push 10 = .ok (.ifnonnull 5, 3) := by decide +kernel
theorem dX5_push_13 : decode cX5_push 13 = .ok (.iconst (-1), 1) := by decide +kernel
theorem dX5_push_14 : decode cX5_push 14 = .ok (.ireturn, 1) := by decide +kernel
theorem dX5_push_15 : decode cX5_push 15 = .ok (.iload_n 2, 1) := by decide +kernel
theorem dX5_push_16 : decode cX5_push 16 = .ok (.invokestatic 55, 3) := by decide +kernel
theorem dX5_push_19 : decode cX5_push 19 = .ok (.ifCond .ne 6, 3) := by decide +kernel
theorem dX5_push_22 : decode cX5_push 22 = .ok (.bipush (-2), 2) := by decide +kernel
theorem dX5_push_24 : decode cX5_push 24 = .ok (.ireturn, 1) := by decide +kernel
theorem dX5_push_25 : decode cX5_push 25 = .ok (.aload_n 0, 1) := by decide +kernel
theorem dX5_push_26 : decode cX5_push 26 = .ok (.getfield 10, 3) := by decide +kernel
theorem dX5_push_29 : decode cX5_push 29 = .ok (.invokevirtual 59, 3) := by decide +kernel
theorem dX5_push_32 : decode cX5_push 32 = .ok (.ifCond .ne 13, 3) := by decide +kernel
theorem dX5_push_35 : decode cX5_push 35 = .ok (.aload_n 3, 1) := by decide +kernel
theorem dX5_push_36 : decode cX5_push 36 = .ok (.invokevirtual 63, 3) := by decide +kernel
theorem dX5_push_39 : decode cX5_push 39 = .ok (.sipush 300, 3) := by decide +kernel
theorem dX5_push_42 : decode cX5_push 42 = .ok (.if_icmp .lt 6, 3) := by decide +kernel
theorem dX5_push_45 : decode cX5_push 45 = .ok (.bipush (-3), 2) := by decide +kernel
theorem dX5_push_47 : decode cX5_push 47 = .ok (.ireturn, 1) := by decide +kernel
theorem dX5_push_48 : decode cX5_push 48 = .ok (.aload_n 0, 1) := by decide +kernel
theorem dX5_push_49 : decode cX5_push 49 = .ok (.getfield 26, 3) := by decide +kernel
theorem dX5_push_52 : decode cX5_push 52 = .ok (.aload_n 0, 1) := by decide +kernel
theorem dX5_push_53 : decode cX5_push 53 = .ok (.getfield 10, 3) := by decide +kernel
theorem dX5_push_56 : decode cX5_push 56 = .ok (.invokevirtual 67, 3) := by decide +kernel
theorem dX5_push_59 : decode cX5_push 59 = .ok (.aload_n 0, 1) := by decide +kernel
theorem dX5_push_60 : decode cX5_push 60 = .ok (.getfield 10, 3) := by decide +kernel
theorem dX5_push_63 : decode cX5_push 63 = .ok (.aload_n 3, 1) := by decide +kernel
theorem dX5_push_64 : decode cX5_push 64 = .ok (.getfield 71, 3) := by decide +kernel
theorem dX5_push_67 : decode cX5_push 67 = .ok (.aload_n 3, 1) := by decide +kernel
theorem dX5_push_68 : decode cX5_push 68 = .ok (.invokevirtual 63, 3) := by decide +kernel
theorem dX5_push_71 : decode cX5_push 71 = .ok (.iload_n 2, 1) := by decide +kernel
theorem dX5_push_72 : decode cX5_push 72 = .ok (.invokevirtual 75, 3) := by decide +kernel
theorem dX5_push_75 : decode cX5_push 75 = .ok (.astore 4, 2) := by decide +kernel
theorem dX5_push_77 : decode cX5_push 77 = .ok (.aload_n 0, 1) := by decide +kernel
theorem dX5_push_78 : decode cX5_push 78 = .ok (.getfield 10, 3) := by decide +kernel
theorem dX5_push_81 : decode cX5_push 81 = .ok (.new 37, 3) := by decide +kernel
theorem dX5_push_84 : decode cX5_push 84 = .ok (.dup, 1) := by decide +kernel
theorem dX5_push_85 : decode cX5_push 85 = .ok (.aload 4, 2) := by decide +kernel
theorem dX5_push_87 : decode cX5_push 87 = .ok (.aload_n 3, 1) := by decide +kernel
theorem dX5_push_88 : decode cX5_push 88 = .ok (.getfield 79, 3) := by decide +kernel
theorem dX5_push_91 : decode cX5_push 91 = .ok (.aload_n 3, 1) := by decide +kernel
theorem dX5_push_92 : decode cX5_push 92 = .ok (.getfield 82, 3) := by decide +kernel
theorem dX5_push_95 : decode cX5_push 95 = .ok (.aload_n 3, 1) := by decide +kernel
theorem dX5_push_96 : decode cX5_push 96 = .ok (.getfield 86, 3) := by decide +kernel
theorem dX5_push_99 : decode cX5_push 99 = .ok (.iconst 1, 1) := by decide +kernel
theorem dX5_push_100 : decode cX5_push 100 = .ok (.iadd, 1) := by decide +kernel
theorem dX5_push_101 : decode cX5_push 101 = .ok (.invokespecial 44, 3) := by decide +kernel
theorem dX5_push_104 : decode cX5_push 104 = .ok (.invokevirtual 47, 3) := by decide +kernel
theorem dX5_push_107 : decode cX5_push 107 = .ok (.ireturn, 1) := by decide +kernel
set_option maxRecDepth 20000 in
theorem ggX5_set_X2_viewOf : GoodIn wsX5_set wsX2_viewOf := goodIn_r _ [14, 15, 134, 135, 136, 137, 138] (by decide +kernel) (by decide +kernel)
set_option maxRecDepth 20000 in
theorem gX5_set_X2_viewOf : GoodIn wsX5_set (wsV RX5 51 RX2 yX2_viewOf wsX2_viewOf) := goodIn_app (goodIn_of _ (by decide +kernel)) ggX5_set_X2_viewOf
set_option maxRecDepth 20000 in
theorem ggX5_set_X4_shows : GoodIn wsX5_set wsX4_shows := goodIn_r _ [19, 20, 130, 131, 132, 133] (by decide +kernel) (by decide +kernel)
set_option maxRecDepth 20000 in
theorem gX5_set_X4_shows : GoodIn wsX5_set (wsV RX5 89 RX4 yX4_shows wsX4_shows) := goodIn_app (goodIn_of _ (by decide +kernel)) ggX5_set_X4_shows
set_option maxRecDepth 20000 in
theorem ggX5_set_X5_isValue : GoodIn wsX5_set wsX5_isValue := goodIn_r _ [24] (by decide +kernel) (by decide +kernel)
set_option maxRecDepth 20000 in
theorem gX5_set_X5_isValue : GoodIn wsX5_set (va_wsS RX5 55 yX5_isValue wsX5_isValue) := goodIn_app (goodIn_of _ (by decide +kernel)) ggX5_set_X5_isValue
set_option maxRecDepth 20000 in
theorem ggX5_set_X2_isFull : GoodIn wsX5_set wsX2_isFull := goodIn_r _ [28, 29, 134, 135, 136, 137, 138] (by decide +kernel) (by decide +kernel)
set_option maxRecDepth 20000 in
theorem gX5_set_X2_isFull : GoodIn wsX5_set (wsV RX5 59 RX2 yX2_isFull wsX2_isFull) := goodIn_app (goodIn_of _ (by decide +kernel)) ggX5_set_X2_isFull
set_option maxRecDepth 20000 in
theorem ggX5_set_X0_remember : GoodIn wsX5_set wsX0_remember := goodIn_r _ [34, 35, 36, 37, 38, 33, 39, 40, 41, 42, 43, 44, 45, 46, 47, 13, 48, 15, 29, 49, 50, 51, 139, 140, 134, 135, 136, 137, 138] (by decide +kernel) (by decide +kernel)
set_option maxRecDepth 20000 in
theorem gX5_set_X0_remember : GoodIn wsX5_set (wsV RX5 67 RX0 yX0_remember wsX0_remember) := goodIn_app (goodIn_of _ (by decide +kernel)) ggX5_set_X0_remember
set_option maxRecDepth 20000 in
theorem ggX5_set_X2_rowWith : GoodIn wsX5_set wsX2_rowWith := goodIn_r _ [55, 49, 56, 57, 58, 59, 60, 61, 62, 63, 64, 65, 66, 67, 68, 69, 70, 71, 72, 73, 74, 75, 76, 77, 78, 79, 80, 81, 82, 83, 84, 85, 86, 87, 88, 89, 90, 91, 92, 93, 94, 95, 96, 97, 98, 99, 100, 101, 23, 102, 103, 104, 105, 106, 107, 108, 109, 110, 111, 112, 113, 134, 135, 136, 137, 138, 141, 142, 143] (by decide +kernel) (by decide +kernel)
set_option maxRecDepth 20000 in
theorem gX5_set_X2_rowWith : GoodIn wsX5_set (wsV RX5 75 RX2 yX2_rowWith wsX2_rowWith) := goodIn_app (goodIn_of _ (by decide +kernel)) ggX5_set_X2_rowWith
set_option maxRecDepth 20000 in
theorem ggX5_set_X4_init : GoodIn wsX5_set wsX4_init := goodIn_r _ [116, 117, 75, 76, 118, 119, 120, 20, 130, 131, 132, 133] (by decide +kernel) (by decide +kernel)
set_option maxRecDepth 20000 in
theorem gX5_set_X4_init : GoodIn wsX5_set (wsX4_init) := ggX5_set_X4_init
set_option maxRecDepth 20000 in
theorem ggX5_set_X2_addView : GoodIn wsX5_set wsX2_addView := goodIn_r _ [124, 29, 15, 134, 135, 136, 137, 138] (by decide +kernel) (by decide +kernel)
set_option maxRecDepth 20000 in
theorem gX5_set_X2_addView : GoodIn wsX5_set (wsV RX5 47 RX2 yX2_addView wsX2_addView) := goodIn_app (goodIn_of _ (by decide +kernel)) ggX5_set_X2_addView
theorem dX5_set_0 : decode cX5_set 0 = .ok (.aload_n 0, 1) := by decide +kernel
theorem dX5_set_1 : decode cX5_set 1 = .ok (.getfield 10, 3) := by decide +kernel
theorem dX5_set_4 : decode cX5_set 4 = .ok (.iload_n 1, 1) := by decide +kernel
theorem dX5_set_5 : decode cX5_set 5 = .ok (.invokevirtual 51, 3) := by decide +kernel
theorem dX5_set_8 : decode cX5_set 8 = .ok (.astore 4, 2) := by decide +kernel
theorem dX5_set_10 : decode cX5_set 10 = .ok (.aload 4, 2) := by decide +kernel
theorem dX5_set_12 : decode cX5_set 12 = .ok (.ifnull 12, 3) := by decide +kernel
theorem dX5_set_15 : decode cX5_set 15 = .ok (.aload 4, 2) := by decide +kernel
theorem dX5_set_17 : decode cX5_set 17 = .ok (.iload_n 2, 1) := by decide +kernel
theorem dX5_set_18 : decode cX5_set 18 = .ok (.invokevirtual 89, 3) := by decide +kernel
theorem dX5_set_21 : decode cX5_set 21 = .ok (.ifCond .ne 5, 3) := by decide +kernel
theorem dX5_set_24 : decode cX5_set 24 = .ok (.iconst (-1), 1) := by decide +kernel
theorem dX5_set_25 : decode cX5_set 25 = .ok (.ireturn, 1) := by decide +kernel
theorem dX5_set_26 : decode cX5_set 26 = .ok (.iload_n 3, 1) := by decide +kernel
theorem dX5_set_27 : decode cX5_set 27 = .ok (.invokestatic 55, 3) := by decide +kernel
theorem dX5_set_30 : decode cX5_set 30 = .ok (.ifCond .ne 6, 3) := by decide +kernel
theorem dX5_set_33 : decode cX5_set 33 = .ok (.bipush (-2), 2) := by decide +kernel
theorem dX5_set_35 : decode cX5_set 35 = .ok (.ireturn, 1) := by decide +kernel
theorem dX5_set_36 : decode cX5_set 36 = .ok (.aload_n 0, 1) := by decide +kernel
theorem dX5_set_37 : decode cX5_set 37 = .ok (.getfield 10, 3) := by decide +kernel
theorem dX5_set_40 : decode cX5_set 40 = .ok (.invokevirtual 59, 3) := by decide +kernel
theorem dX5_set_43 : decode cX5_set 43 = .ok (.ifCond .eq 6, 3) := by decide +kernel
theorem dX5_set_46 : decode cX5_set 46 = .ok (.bipush (-3), 2) := by decide +kernel
theorem dX5_set_48 : decode cX5_set 48 = .ok (.ireturn, 1) := by decide +kernel
theorem dX5_set_49 : decode cX5_set 49 = .ok (.aload_n 0, 1) := by decide +kernel
theorem dX5_set_50 : decode cX5_set 50 = .ok (.getfield 26, 3) := by decide +kernel
theorem dX5_set_53 : decode cX5_set 53 = .ok (.aload_n 0, 1) := by decide +kernel
theorem dX5_set_54 : decode cX5_set 54 = .ok (.getfield 10, 3) := by decide +kernel
theorem dX5_set_57 : decode cX5_set 57 = .ok (.invokevirtual 67, 3) := by decide +kernel
theorem dX5_set_60 : decode cX5_set 60 = .ok (.aload_n 0, 1) := by decide +kernel
theorem dX5_set_61 : decode cX5_set 61 = .ok (.getfield 10, 3) := by decide +kernel
theorem dX5_set_64 : decode cX5_set 64 = .ok (.aload 4, 2) := by decide +kernel
theorem dX5_set_66 : decode cX5_set 66 = .ok (.getfield 71, 3) := by decide +kernel
theorem dX5_set_69 : decode cX5_set 69 = .ok (.aload 4, 2) := by decide +kernel
theorem dX5_set_71 : decode cX5_set 71 = .ok (.getfield 82, 3) := by decide +kernel
theorem dX5_set_74 : decode cX5_set 74 = .ok (.iload_n 2, 1) := by decide +kernel
theorem dX5_set_75 : decode cX5_set 75 = .ok (.iadd, 1) := by decide +kernel
theorem dX5_set_76 : decode cX5_set 76 = .ok (.iload_n 3, 1) := by decide +kernel
theorem dX5_set_77 : decode cX5_set 77 = .ok (.invokevirtual 75, 3) := by decide +kernel
theorem dX5_set_80 : decode cX5_set 80 = .ok (.astore 5, 2) := by decide +kernel
theorem dX5_set_82 : decode cX5_set 82 = .ok (.aload_n 0, 1) := by decide +kernel
theorem dX5_set_83 : decode cX5_set 83 = .ok (.getfield 10, 3) := by decide +kernel
theorem dX5_set_86 : decode cX5_set 86 = .ok (.new 37, 3) := by decide +kernel
theorem dX5_set_89 : decode cX5_set 89 = .ok (.dup, 1) := by decide +kernel
theorem dX5_set_90 : decode cX5_set 90 = .ok (.aload 5, 2) := by decide +kernel
theorem dX5_set_92 : decode cX5_set 92 = .ok (.aload 4, 2) := by decide +kernel
theorem dX5_set_94 : decode cX5_set 94 = .ok (.getfield 79, 3) := by decide +kernel
theorem dX5_set_97 : decode cX5_set 97 = .ok (.aload 4, 2) := by decide +kernel
theorem dX5_set_99 : decode cX5_set 99 = .ok (.getfield 82, 3) := by decide +kernel
theorem dX5_set_102 : decode cX5_set 102 = .ok (.aload 4, 2) := by decide +kernel
theorem dX5_set_104 : decode cX5_set 104 = .ok (.getfield 86, 3) := by decide +kernel
theorem dX5_set_107 : decode cX5_set 107 = .ok (.invokespecial 44, 3) := by decide +kernel
theorem dX5_set_110 : decode cX5_set 110 = .ok (.invokevirtual 47, 3) := by decide +kernel
theorem dX5_set_113 : decode cX5_set 113 = .ok (.ireturn, 1) := by decide +kernel
set_option maxRecDepth 20000 in
theorem ggX5_pop_X2_viewOf : GoodIn wsX5_pop wsX2_viewOf := goodIn_r _ [14, 15, 130, 131, 132, 133, 134] (by decide +kernel) (by decide +kernel)
set_option maxRecDepth 20000 in
theorem gX5_pop_X2_viewOf : GoodIn wsX5_pop (wsV RX5 51 RX2 yX2_viewOf wsX2_viewOf) := goodIn_app (goodIn_of _ (by decide +kernel)) ggX5_pop_X2_viewOf
set_option maxRecDepth 20000 in
theorem ggX5_pop_X2_isFull : GoodIn wsX5_pop wsX2_isFull := goodIn_r _ [19, 20, 130, 131, 132, 133, 134] (by decide +kernel) (by decide +kernel)
set_option maxRecDepth 20000 in
theorem gX5_pop_X2_isFull : GoodIn wsX5_pop (wsV RX5 59 RX2 yX2_isFull wsX2_isFull) := goodIn_app (goodIn_of _ (by decide +kernel)) ggX5_pop_X2_isFull
set_option maxRecDepth 20000 in
theorem ggX5_pop_X0_remember : GoodIn wsX5_pop wsX0_remember := goodIn_r _ [25, 26, 27, 28, 29, 24, 30, 31, 32, 33, 34, 35, 36, 37, 38, 13, 39, 15, 20, 40, 41, 42, 135, 136, 130, 131, 132, 133, 134] (by decide +kernel) (by decide +kernel)
set_option maxRecDepth 20000 in
theorem gX5_pop_X0_remember : GoodIn wsX5_pop (wsV RX5 67 RX0 yX0_remember wsX0_remember) := goodIn_app (goodIn_of _ (by decide +kernel)) ggX5_pop_X0_remember
set_option maxRecDepth 20000 in
theorem ggX5_pop_X2_rowWithoutLast : GoodIn wsX5_pop wsX2_rowWithoutLast := goodIn_r _ [46, 40, 47, 48, 49, 50, 51, 52, 53, 54, 55, 56, 57, 58, 59, 60, 61, 62, 63, 64, 65, 66, 67, 68, 69, 70, 71, 72, 73, 74, 75, 76, 77, 78, 79, 80, 81, 82, 83, 84, 85, 86, 87, 88, 89, 90, 91, 92, 93, 94, 95, 96, 97, 98, 99, 100, 101, 102, 103, 104, 105, 106, 107, 108, 130, 131, 132, 133, 134, 137, 138, 139] (by decide +kernel) (by decide +kernel)
set_option maxRecDepth 20000 in
theorem gX5_pop_X2_rowWithoutLast : GoodIn wsX5_pop (wsV RX5 92 RX2 yX2_rowWithoutLast wsX2_rowWithoutLast) := goodIn_app (goodIn_of _ (by decide +kernel)) ggX5_pop_X2_rowWithoutLast
set_option maxRecDepth 20000 in
theorem ggX5_pop_X4_init : GoodIn wsX5_pop wsX4_init := goodIn_r _ [111, 112, 66, 67, 113, 114, 115, 116, 126, 127, 128, 129] (by decide +kernel) (by decide +kernel)
set_option maxRecDepth 20000 in
theorem gX5_pop_X4_init : GoodIn wsX5_pop (wsX4_init) := ggX5_pop_X4_init
set_option maxRecDepth 20000 in
theorem ggX5_pop_X2_addView : GoodIn wsX5_pop wsX2_addView := goodIn_r _ [120, 20, 15, 130, 131, 132, 133, 134] (by decide +kernel) (by decide +kernel)
set_option maxRecDepth 20000 in
theorem gX5_pop_X2_addView : GoodIn wsX5_pop (wsV RX5 47 RX2 yX2_addView wsX2_addView) := goodIn_app (goodIn_of _ (by decide +kernel)) ggX5_pop_X2_addView
theorem dX5_pop_0 : decode cX5_pop 0 = .ok (.aload_n 0, 1) := by decide +kernel
theorem dX5_pop_1 : decode cX5_pop 1 = .ok (.getfield 10, 3) := by decide +kernel
theorem dX5_pop_4 : decode cX5_pop 4 = .ok (.iload_n 1, 1) := by decide +kernel
theorem dX5_pop_5 : decode cX5_pop 5 = .ok (.invokevirtual 51, 3) := by decide +kernel
theorem dX5_pop_8 : decode cX5_pop 8 = .ok (.astore_n 2, 1) := by decide +kernel
theorem dX5_pop_9 : decode cX5_pop 9 = .ok (.aload_n 2, 1) := by decide +kernel
theorem dX5_pop_10 : decode cX5_pop 10 = .ok (.ifnonnull 5, 3) := by decide +kernel
theorem dX5_pop_13 : decode cX5_pop 13 = .ok (.iconst (-1), 1) := by decide +kernel
theorem dX5_pop_14 : decode cX5_pop 14 = .ok (.ireturn, 1) := by decide +kernel
theorem dX5_pop_15 : decode cX5_pop 15 = .ok (.aload_n 2, 1) := by decide +kernel
theorem dX5_pop_16 : decode cX5_pop 16 = .ok (.getfield 86, 3) := by decide +kernel
theorem dX5_pop_19 : decode cX5_pop 19 = .ok (.ifCond .ne 6, 3) := by decide +kernel
theorem dX5_pop_22 : decode cX5_pop 22 = .ok (.bipush (-4), 2) := by decide +kernel
theorem dX5_pop_24 : decode cX5_pop 24 = .ok (.ireturn, 1) := by decide +kernel
theorem dX5_pop_25 : decode cX5_pop 25 = .ok (.aload_n 0, 1) := by decide +kernel
theorem dX5_pop_26 : decode cX5_pop 26 = .ok (.getfield 10, 3) := by decide +kernel
theorem dX5_pop_29 : decode cX5_pop 29 = .ok (.invokevirtual 59, 3) := by decide +kernel
theorem dX5_pop_32 : decode cX5_pop 32 = .ok (.ifCond .eq 6, 3) := by decide +kernel
theorem dX5_pop_35 : decode cX5_pop 35 = .ok (.bipush (-3), 2) := by decide +kernel
theorem dX5_pop_37 : decode cX5_pop 37 = .ok (.ireturn, 1) := by decide +kernel
theorem dX5_pop_38 : decode cX5_pop 38 = .ok (.aload_n 0, 1) := by decide +kernel
theorem dX5_pop_39 : decode cX5_pop 39 = .ok (.getfield 26, 3) := by decide +kernel
theorem dX5_pop_42 : decode cX5_pop 42 = .ok (.aload_n 0, 1) := by decide +kernel
theorem dX5_pop_43 : decode cX5_pop 43 = .ok (.getfield 10, 3) := by decide +kernel
theorem dX5_pop_46 : decode cX5_pop 46 = .ok (.invokevirtual 67, 3) := by decide +kernel
theorem dX5_pop_49 : decode cX5_pop 49 = .ok (.aload_n 2, 1) := by decide +kernel
theorem dX5_pop_50 : decode cX5_pop 50 = .ok (.getfield 79, 3) := by decide +kernel
theorem dX5_pop_53 : decode cX5_pop 53 = .ok (.ifCond .eq 10, 3) := by decide +kernel
theorem dX5_pop_56 : decode cX5_pop 56 = .ok (.aload_n 2, 1) := by decide +kernel
theorem dX5_pop_57 : decode cX5_pop 57 = .ok (.getfield 71, 3) := by decide +kernel
theorem dX5_pop_60 : decode cX5_pop 60 = .ok (.goto 14, 3) := by decide +kernel
theorem dX5_pop_63 : decode cX5_pop 63 = .ok (.aload_n 0, 1) := by decide +kernel
theorem dX5_pop_64 : decode cX5_pop 64 = .ok (.getfield 10, 3) := by decide +kernel
theorem dX5_pop_67 : decode cX5_pop 67 = .ok (.aload_n 2, 1) := by decide +kernel
theorem dX5_pop_68 : decode cX5_pop 68 = .ok (.getfield 71, 3) := by decide +kernel
theorem dX5_pop_71 : decode cX5_pop 71 = .ok (.invokevirtual 92, 3) := by decide +kernel
theorem dX5_pop_74 : decode cX5_pop 74 = .ok (.astore_n 3, 1) := by decide +kernel
theorem dX5_pop_75 : decode cX5_pop 75 = .ok (.aload_n 0, 1) := by decide +kernel
theorem dX5_pop_76 : decode cX5_pop 76 = .ok (.getfield 10, 3) := by decide +kernel
theorem dX5_pop_79 : decode cX5_pop 79 = .ok (.new 37, 3) := by decide +kernel
theorem dX5_pop_82 : decode cX5_pop 82 = .ok (.dup, 1) := by decide +kernel
theorem dX5_pop_83 : decode cX5_pop 83 = .ok (.aload_n 3, 1) := by decide +kernel
theorem dX5_pop_84 : decode cX5_pop 84 = .ok (.aload_n 2, 1) := by decide +kernel
theorem dX5_pop_85 : decode cX5_pop 85 = .ok (.getfield 79, 3) := by decide +kernel
theorem dX5_pop_88 : decode cX5_pop 88 = .ok (.aload_n 2, 1) := by decide +kernel
theorem dX5_pop_89 : decode cX5_pop 89 = .ok (.getfield 82, 3) := by decide +kernel
theorem dX5_pop_92 : decode cX5_pop 92 = .ok (.aload_n 2, 1) := by decide +kernel
theorem dX5_pop_93 : decode cX5_pop 93 = .ok (.getfield 86, 3) := by decide +kernel
theorem dX5_pop_96 : decode cX5_pop 96 = .ok (.iconst 1, 1) := by decide +kernel
theorem dX5_pop_97 : decode cX5_pop 97 = .ok (.isub, 1) := by decide +kernel
theorem dX5_pop_98 : decode cX5_pop 98 = .ok (.invokespecial 44, 3) := by decide +kernel
theorem dX5_pop_101 : decode cX5_pop 101 = .ok (.invokevirtual 47, 3) := by decide +kernel
theorem dX5_pop_104 : decode cX5_pop 104 = .ok (.ireturn, 1) := by decide +kernel
set_option maxRecDepth 20000 in
theorem ggX5_window_X2_viewOf : GoodIn wsX5_window wsX2_viewOf := goodIn_r _ [13, 14, 65, 66, 67, 68, 69] (by decide +kernel) (by decide +kernel)
set_option maxRecDepth 20000 in
theorem gX5_window_X2_viewOf : GoodIn wsX5_window (wsV RX5 51 RX2 yX2_viewOf wsX2_viewOf) := goodIn_app (goodIn_of _ (by decide +kernel)) ggX5_window_X2_viewOf
set_option maxRecDepth 20000 in
theorem ggX5_window_X2_isFull : GoodIn wsX5_window wsX2_isFull := goodIn_r _ [18, 19, 65, 66, 67, 68, 69] (by decide +kernel) (by decide +kernel)
set_option maxRecDepth 20000 in
theorem gX5_window_X2_isFull : GoodIn wsX5_window (wsV RX5 59 RX2 yX2_isFull wsX2_isFull) := goodIn_app (goodIn_of _ (by decide +kernel)) ggX5_window_X2_isFull
set_option maxRecDepth 20000 in
theorem ggX5_window_X0_remember : GoodIn wsX5_window wsX0_remember := goodIn_r _ [24, 25, 26, 27, 28, 23, 29, 30, 31, 32, 33, 34, 35, 36, 37, 12, 38, 14, 19, 39, 40, 41, 70, 71, 65, 66, 67, 68, 69] (by decide +kernel) (by decide +kernel)
set_option maxRecDepth 20000 in
theorem gX5_window_X0_remember : GoodIn wsX5_window (wsV RX5 67 RX0 yX0_remember wsX0_remember) := goodIn_app (goodIn_of _ (by decide +kernel)) ggX5_window_X0_remember
set_option maxRecDepth 20000 in
theorem ggX5_window_X4_init : GoodIn wsX5_window wsX4_init := goodIn_r _ [44, 45, 46, 47, 48, 49, 50, 51, 61, 62, 63, 64] (by decide +kernel) (by decide +kernel)
set_option maxRecDepth 20000 in
theorem gX5_window_X4_init : GoodIn wsX5_window (wsX4_init) := ggX5_window_X4_init
set_option maxRecDepth 20000 in
theorem ggX5_window_X2_addView : GoodIn wsX5_window wsX2_addView := goodIn_r _ [55, 19, 14, 65, 66, 67, 68, 69] (by decide +kernel) (by decide +kernel)
set_option maxRecDepth 20000 in
theorem gX5_window_X2_addView : GoodIn wsX5_window (wsV RX5 47 RX2 yX2_addView wsX2_addView) := goodIn_app (goodIn_of _ (by decide +kernel)) ggX5_window_X2_addView
theorem dX5_window_0 : decode cX5_window 0 = .ok (.aload_n 0, 1) := by decide +kernel
theorem dX5_window_1 : decode cX5_window 1 = .ok (.getfield 10, 3) := by decide +kernel
theorem dX5_window_4 : decode cX5_window 4 = .ok (.iload_n 1, 1) := by decide +kernel
theorem dX5_window_5 : decode cX5_window 5 = .ok (.invokevirtual 51, 3) := by decide +kernel
theorem dX5_window_8 : decode cX5_window 8 = .ok (.astore 4, 2) := by decide +kernel
theorem dX5_window_10 : decode cX5_window 10 = .ok (.aload 4, 2) := by decide +kernel
theorem dX5_window_12 : decode cX5_window 12 = .ok (.ifnonnull 5, 3) := by decide +kernel
theorem dX5_window_15 : decode cX5_window 15 = .ok (.iconst (-1), 1) := by decide +kernel
theorem dX5_window_16 : decode cX5_window 16 = .ok (.ireturn, 1) := by decide +kernel
theorem dX5_window_17 : decode cX5_window 17 = .ok (.iload_n 2, 1) := by decide +kernel
theorem dX5_window_18 : decode cX5_window 18 = .ok (.ifCond .lt 27, 3) := by decide +kernel
theorem dX5_window_21 : decode cX5_window 21 = .ok (.iload_n 2, 1) := by decide +kernel
theorem dX5_window_22 : decode cX5_window 22 = .ok (.aload 4, 2) := by decide +kernel
theorem dX5_window_24 : decode cX5_window 24 = .ok (.getfield 86, 3) := by decide +kernel
theorem dX5_window_27 : decode cX5_window 27 = .ok (.if_icmp .gt 18, 3) := by decide +kernel
theorem dX5_window_30 : decode cX5_window 30 = .ok (.iload_n 3, 1) := by decide +kernel
theorem dX5_window_31 : decode cX5_window 31 = .ok (.ifCond .lt 14, 3) := by decide +kernel
theorem dX5_window_34 : decode cX5_window 34 = .ok (.iload_n 3, 1) := by decide +kernel
theorem dX5_window_35 : decode cX5_window 35 = .ok (.aload 4, 2) := by decide +kernel
theorem dX5_window_37 : decode cX5_window 37 = .ok (.getfield 86, 3) := by decide +kernel
theorem dX5_window_40 : decode cX5_window 40 = .ok (.iload_n 2, 1) := by decide +kernel
theorem dX5_window_41 : decode cX5_window 41 = .ok (.isub, 1) := by decide +kernel
theorem dX5_window_42 : decode cX5_window 42 = .ok (.if_icmp .le 6, 3) := by decide +kernel
theorem dX5_window_45 : decode cX5_window 45 = .ok (.bipush (-2), 2) := by decide +kernel
theorem dX5_window_47 : decode cX5_window 47 = .ok (.ireturn, 1) := by decide +kernel
theorem dX5_window_48 : decode cX5_window 48 = .ok (.aload_n 0, 1) := by decide +kernel
theorem dX5_window_49 : decode cX5_window 49 = .ok (.getfield 10, 3) := by decide +kernel
theorem dX5_window_52 : decode cX5_window 52 = .ok (.invokevirtual 59, 3) := by decide +kernel
theorem dX5_window_55 : decode cX5_window 55 = .ok (.ifCond .eq 6, 3) := by decide +kernel
theorem dX5_window_58 : decode cX5_window 58 = .ok (.bipush (-3), 2) := by decide +kernel
theorem dX5_window_60 : decode cX5_window 60 = .ok (.ireturn, 1) := by decide +kernel
theorem dX5_window_61 : decode cX5_window 61 = .ok (.aload_n 0, 1) := by decide +kernel
theorem dX5_window_62 : decode cX5_window 62 = .ok (.getfield 26, 3) := by decide +kernel
theorem dX5_window_65 : decode cX5_window 65 = .ok (.aload_n 0, 1) := by decide +kernel
theorem dX5_window_66 : decode cX5_window 66 = .ok (.getfield 10, 3) := by decide +kernel
theorem dX5_window_69 : decode cX5_window 69 = .ok (.invokevirtual 67, 3) := by decide +kernel
theorem dX5_window_72 : decode cX5_window 72 = .ok (.aload_n 0, 1) := by decide +kernel
theorem dX5_window_73 : decode cX5_window 73 = .ok (.getfield 10, 3) := by decide +kernel
theorem dX5_window_76 : decode cX5_window 76 = .ok (.new 37, 3) := by decide +kernel
theorem dX5_window_79 : decode cX5_window 79 = .ok (.dup, 1) := by decide +kernel
theorem dX5_window_80 : decode cX5_window 80 = .ok (.aload 4, 2) := by decide +kernel
theorem dX5_window_82 : decode cX5_window 82 = .ok (.getfield 71, 3) := by decide +kernel
theorem dX5_window_85 : decode cX5_window 85 = .ok (.iconst 1, 1) := by decide +kernel
theorem dX5_window_86 : decode cX5_window 86 = .ok (.aload 4, 2) := by decide +kernel
theorem dX5_window_88 : decode cX5_window 88 = .ok (.getfield 82, 3) := by decide +kernel
theorem dX5_window_91 : decode cX5_window 91 = .ok (.iload_n 2, 1) := by decide +kernel
theorem dX5_window_92 : decode cX5_window 92 = .ok (.iadd, 1) := by decide +kernel
theorem dX5_window_93 : decode cX5_window 93 = .ok (.iload_n 3, 1) := by decide +kernel
theorem dX5_window_94 : decode cX5_window 94 = .ok (.invokespecial 44, 3) := by decide +kernel
theorem dX5_window_97 : decode cX5_window 97 = .ok (.invokevirtual 47, 3) := by decide +kernel
theorem dX5_window_100 : decode cX5_window 100 = .ok (.ireturn, 1) := by decide +kernel
set_option maxRecDepth 20000 in
theorem ggX5_drop_X2_viewOf : GoodIn wsX5_drop wsX2_viewOf := goodIn_r _ [7, 8, 45, 46, 47, 48, 49] (by decide +kernel) (by decide +kernel)
set_option maxRecDepth 20000 in
theorem gX5_drop_X2_viewOf : GoodIn wsX5_drop (wsV RX5 51 RX2 yX2_viewOf wsX2_viewOf) := goodIn_app (goodIn_of _ (by decide +kernel)) ggX5_drop_X2_viewOf
set_option maxRecDepth 20000 in
theorem ggX5_drop_X0_remember : GoodIn wsX5_drop wsX0_remember := goodIn_r _ [13, 14, 15, 16, 17, 12, 18, 19, 20, 21, 22, 23, 24, 25, 26, 6, 27, 8, 28, 29, 30, 31, 50, 51, 45, 46, 47, 48, 49] (by decide +kernel) (by decide +kernel)
set_option maxRecDepth 20000 in
theorem gX5_drop_X0_remember : GoodIn wsX5_drop (wsV RX5 67 RX0 yX0_remember wsX0_remember) := goodIn_app (goodIn_of _ (by decide +kernel)) ggX5_drop_X0_remember
set_option maxRecDepth 20000 in
theorem ggX5_drop_X2_removeView : GoodIn wsX5_drop wsX2_removeView := goodIn_r _ [35, 8, 45, 46, 47, 48, 49] (by decide +kernel) (by decide +kernel)
set_option maxRecDepth 20000 in
theorem gX5_drop_X2_removeView : GoodIn wsX5_drop (wsV RX5 96 RX2 yX2_removeView wsX2_removeView) := goodIn_app (goodIn_of _ (by decide +kernel)) ggX5_drop_X2_removeView
set_option maxRecDepth 20000 in
theorem ggX5_drop_X2_viewsLeft : GoodIn wsX5_drop wsX2_viewsLeft := goodIn_r _ [39, 8, 45, 46, 47, 48, 49] (by decide +kernel) (by decide +kernel)
set_option maxRecDepth 20000 in
theorem gX5_drop_X2_viewsLeft : GoodIn wsX5_drop (wsV RX5 99 RX2 yX2_viewsLeft wsX2_viewsLeft) := goodIn_app (goodIn_of _ (by decide +kernel)) ggX5_drop_X2_viewsLeft
theorem dX5_drop_0 : decode cX5_drop 0 = .ok (.aload_n 0, 1) := by decide +kernel
theorem dX5_drop_1 : decode cX5_drop 1 = .ok (.getfield 10, 3) := by decide +kernel
theorem dX5_drop_4 : decode cX5_drop 4 = .ok (.iload_n 1, 1) := by decide +kernel
theorem dX5_drop_5 : decode cX5_drop 5 = .ok (.invokevirtual 51, 3) := by decide +kernel
theorem dX5_drop_8 : decode cX5_drop 8 = .ok (.ifnonnull 5, 3) := by decide +kernel
theorem dX5_drop_11 : decode cX5_drop 11 = .ok (.iconst (-1), 1) := by decide +kernel
theorem dX5_drop_12 : decode cX5_drop 12 = .ok (.ireturn, 1) := by decide +kernel
theorem dX5_drop_13 : decode cX5_drop 13 = .ok (.aload_n 0, 1) := by decide +kernel
theorem dX5_drop_14 : decode cX5_drop 14 = .ok (.getfield 26, 3) := by decide +kernel
theorem dX5_drop_17 : decode cX5_drop 17 = .ok (.aload_n 0, 1) := by decide +kernel
theorem dX5_drop_18 : decode cX5_drop 18 = .ok (.getfield 10, 3) := by decide +kernel
theorem dX5_drop_21 : decode cX5_drop 21 = .ok (.invokevirtual 67, 3) := by decide +kernel
theorem dX5_drop_24 : decode cX5_drop 24 = .ok (.aload_n 0, 1) := by decide +kernel
theorem dX5_drop_25 : decode cX5_drop 25 = .ok (.getfield 10, 3) := by decide +kernel
theorem dX5_drop_28 : decode cX5_drop 28 = .ok (.iload_n 1, 1) := by decide +kernel
theorem dX5_drop_29 : decode cX5_drop 29 = .ok (.invokevirtual 96, 3) := by decide +kernel
theorem dX5_drop_32 : decode cX5_drop 32 = .ok (.aload_n 0, 1) := by decide +kernel
theorem dX5_drop_33 : decode cX5_drop 33 = .ok (.getfield 10, 3) := by decide +kernel
theorem dX5_drop_36 : decode cX5_drop 36 = .ok (.invokevirtual 99, 3) := by decide +kernel
theorem dX5_drop_39 : decode cX5_drop 39 = .ok (.ireturn, 1) := by decide +kernel
set_option maxRecDepth 20000 in
theorem ggX5_begin_X2_viewOf : GoodIn wsX5_begin wsX2_viewOf := goodIn_r _ [11, 12, 45, 46, 47, 48, 49] (by decide +kernel) (by decide +kernel)
set_option maxRecDepth 20000 in
theorem gX5_begin_X2_viewOf : GoodIn wsX5_begin (wsV RX5 51 RX2 yX2_viewOf wsX2_viewOf) := goodIn_app (goodIn_of _ (by decide +kernel)) ggX5_begin_X2_viewOf
set_option maxRecDepth 20000 in
theorem ggX5_begin_X0_remember : GoodIn wsX5_begin wsX0_remember := goodIn_r _ [17, 18, 19, 20, 21, 16, 22, 23, 24, 25, 26, 27, 28, 29, 30, 10, 31, 12, 32, 33, 34, 35, 57, 58, 45, 46, 47, 48, 49] (by decide +kernel) (by decide +kernel)
set_option maxRecDepth 20000 in
theorem gX5_begin_X0_remember : GoodIn wsX5_begin (wsV RX5 67 RX0 yX0_remember wsX0_remember) := goodIn_app (goodIn_of _ (by decide +kernel)) ggX5_begin_X0_remember
set_option maxRecDepth 20000 in
theorem ggX5_begin_X2_beginEdit : GoodIn wsX5_begin wsX2_beginEdit := goodIn_r _ [39, 34, 33, 35, 45, 46, 47, 48, 49] (by decide +kernel) (by decide +kernel)
set_option maxRecDepth 20000 in
theorem gX5_begin_X2_beginEdit : GoodIn wsX5_begin (wsV RX5 105 RX2 yX2_beginEdit wsX2_beginEdit) := goodIn_app (goodIn_of _ (by decide +kernel)) ggX5_begin_X2_beginEdit
theorem dX5_begin_0 : decode cX5_begin 0 = .ok (.aload_n 0, 1) := by decide +kernel
theorem dX5_begin_1 : decode cX5_begin 1 = .ok (.getfield 10, 3) := by decide +kernel
theorem dX5_begin_4 : decode cX5_begin 4 = .ok (.iload_n 1, 1) := by decide +kernel
theorem dX5_begin_5 : decode cX5_begin 5 = .ok (.invokevirtual 51, 3) := by decide +kernel
theorem dX5_begin_8 : decode cX5_begin 8 = .ok (.astore_n 2, 1) := by decide +kernel
theorem dX5_begin_9 : decode cX5_begin 9 = .ok (.aload_n 2, 1) := by decide +kernel
theorem dX5_begin_10 : decode cX5_begin 10 = .ok (.ifnonnull 5, 3) := by decide +kernel
theorem dX5_begin_13 : decode cX5_begin 13 = .ok (.iconst (-1), 1) := by decide +kernel
theorem dX5_begin_14 : decode cX5_begin 14 = .ok (.ireturn, 1) := by decide +kernel
theorem dX5_begin_15 : decode cX5_begin 15 = .ok (.aload_n 0, 1) := by decide +kernel
theorem dX5_begin_16 : decode cX5_begin 16 = .ok (.getfield 10, 3) := by decide +kernel
theorem dX5_begin_19 : decode cX5_begin 19 = .ok (.getfield 102, 3) := by decide +kernel
theorem dX5_begin_22 : decode cX5_begin 22 = .ok (.ifnonnull 10, 3) := by decide +kernel
theorem dX5_begin_25 : decode cX5_begin 25 = .ok (.aload_n 2, 1) := by decide +kernel
theorem dX5_begin_26 : decode cX5_begin 26 = .ok (.getfield 79, 3) := by decide +kernel
theorem dX5_begin_29 : decode cX5_begin 29 = .ok (.ifCond .eq 6, 3) := by decide +kernel
theorem dX5_begin_32 : decode cX5_begin 32 = .ok (.bipush (-4), 2) := by decide +kernel
theorem dX5_begin_34 : decode cX5_begin 34 = .ok (.ireturn, 1) := by decide +kernel
theorem dX5_begin_35 : decode cX5_begin 35 = .ok (.aload_n 0, 1) := by decide +kernel
theorem dX5_begin_36 : decode cX5_begin 36 = .ok (.getfield 26, 3) := by decide +kernel
theorem dX5_begin_39 : decode cX5_begin 39 = .ok (.aload_n 0, 1) := by decide +kernel
theorem dX5_begin_40 : decode cX5_begin 40 = .ok (.getfield 10, 3) := by decide +kernel
theorem dX5_begin_43 : decode cX5_begin 43 = .ok (.invokevirtual 67, 3) := by decide +kernel
theorem dX5_begin_46 : decode cX5_begin 46 = .ok (.aload_n 0, 1) := by decide +kernel
theorem dX5_begin_47 : decode cX5_begin 47 = .ok (.getfield 10, 3) := by decide +kernel
theorem dX5_begin_50 : decode cX5_begin 50 = .ok (.aload_n 2, 1) := by decide +kernel
theorem dX5_begin_51 : decode cX5_begin 51 = .ok (.getfield 71, 3) := by decide +kernel
theorem dX5_begin_54 : decode cX5_begin 54 = .ok (.invokevirtual 105, 3) := by decide +kernel
theorem dX5_begin_57 : decode cX5_begin 57 = .ok (.aload_n 2, 1) := by decide +kernel
theorem dX5_begin_58 : decode cX5_begin 58 = .ok (.getfield 71, 3) := by decide +kernel
theorem dX5_begin_61 : decode cX5_begin 61 = .ok (.getfield 109, 3) := by decide +kernel
theorem dX5_begin_64 : decode cX5_begin 64 = .ok (.ireturn, 1) := by decide +kernel
set_option maxRecDepth 20000 in
theorem ggX5_editPush_X5_isValue : GoodIn wsX5_editPush wsX5_isValue := goodIn_r _ [8] (by decide +kernel) (by decide +kernel)
set_option maxRecDepth 20000 in
theorem gX5_editPush_X5_isValue : GoodIn wsX5_editPush (va_wsS RX5 55 yX5_isValue wsX5_isValue) := goodIn_app (goodIn_of _ (by decide +kernel)) ggX5_editPush_X5_isValue
set_option maxRecDepth 20000 in
theorem ggX5_editPush_X0_remember : GoodIn wsX5_editPush wsX0_remember := goodIn_r _ [13, 14, 15, 16, 17, 12, 18, 19, 20, 21, 22, 23, 24, 25, 26, 27, 28, 29, 30, 31, 32, 33, 112, 113, 104, 105, 106, 107, 108] (by decide +kernel) (by decide +kernel)
set_option maxRecDepth 20000 in
theorem gX5_editPush_X0_remember : GoodIn wsX5_editPush (wsV RX5 67 RX0 yX0_remember wsX0_remember) := goodIn_app (goodIn_of _ (by decide +kernel)) ggX5_editPush_X0_remember
set_option maxRecDepth 20000 in
theorem ggX5_editPush_X2_editWrite : GoodIn wsX5_editPush wsX2_editWrite := goodIn_r _ [37, 31, 33, 38, 39, 40, 41, 42, 43, 44, 45, 46, 47, 48, 49, 50, 51, 52, 53, 54, 55, 56, 57, 58, 59, 60, 61, 62, 63, 64, 65, 66, 67, 68, 69, 70, 71, 72, 73, 74, 75, 76, 77, 78, 79, 80, 81, 82, 7, 83, 84, 85, 86, 87, 88, 89, 90, 91, 92, 93, 94, 95, 96, 97, 27, 98, 32, 104, 105, 106, 107, 108, 109, 110, 111] (by decide +kernel) (by decide +kernel)
set_option maxRecDepth 20000 in
theorem gX5_editPush_X2_editWrite : GoodIn wsX5_editPush (wsV RX5 112 RX2 yX2_editWrite wsX2_editWrite) := goodIn_app (goodIn_of _ (by decide +kernel)) ggX5_editPush_X2_editWrite
theorem dX5_editPush_0 : decode cX5_editPush 0 = .ok (.aload_n 0, 1) := by decide +kernel
theorem dX5_editPush_1 : decode cX5_editPush 1 = .ok (.getfield 10, 3) := by decide +kernel
theorem dX5_editPush_4 : decode cX5_editPush 4 = .ok (.getfield 102, 3) := by decide +kernel
theorem dX5_editPush_7 : decode cX5_editPush 7 = .ok (.astore_n 2, 1) := by decide +kernel
theorem dX5_editPush_8 : decode cX5_editPush 8 = .ok (.aload_n 2, 1) := by decide +kernel
theorem dX5_editPush_9 : decode cX5_editPush 9 = .ok (.ifnonnull 6, 3) := by decide +kernel
theorem dX5_editPush_12 : decode cX5_editPush 12 = .ok (.bipush (-4), 2) := by decide +kernel
theorem dX5_editPush_14 : decode cX5_editPush 14 = .ok (.ireturn, 1) := by decide +kernel
theorem dX5_editPush_15 : decode cX5_editPush 15 = .ok (.iload_n 1, 1) := by decide +kernel
theorem dX5_editPush_16 : decode cX5_editPush 16 = .ok (.invokestatic 55, 3) := by decide +kernel
theorem dX5_editPush_19 : decode cX5_editPush 19 = .ok (.ifCond .ne 6, 3) := by decide +kernel
theorem dX5_editPush_22 : decode cX5_editPush 22 = .ok (.bipush (-2), 2) := by decide +kernel
theorem dX5_editPush_24 : decode cX5_editPush 24 = .ok (.ireturn, 1) := by decide +kernel
theorem dX5_editPush_25 : decode cX5_editPush 25 = .ok (.aload_n 2, 1) := by decide +kernel
theorem dX5_editPush_26 : decode cX5_editPush 26 = .ok (.getfield 109, 3) := by decide +kernel
theorem dX5_editPush_29 : decode cX5_editPush 29 = .ok (.sipush 300, 3) := by decide +kernel
theorem dX5_editPush_32 : decode cX5_editPush 32 = .ok (.if_icmp .lt 6, 3) := by decide +kernel
theorem dX5_editPush_35 : decode cX5_editPush 35 = .ok (.bipush (-3), 2) := by decide +kernel
theorem dX5_editPush_37 : decode cX5_editPush 37 = .ok (.ireturn, 1) := by decide +kernel
theorem dX5_editPush_38 : decode cX5_editPush 38 = .ok (.aload_n 0, 1) := by decide +kernel
theorem dX5_editPush_39 : decode cX5_editPush 39 = .ok (.getfield 26, 3) := by decide +kernel
theorem dX5_editPush_42 : decode cX5_editPush 42 = .ok (.aload_n 0, 1) := by decide +kernel
theorem dX5_editPush_43 : decode cX5_editPush 43 = .ok (.getfield 10, 3) := by decide +kernel
theorem dX5_editPush_46 : decode cX5_editPush 46 = .ok (.invokevirtual 67, 3) := by decide +kernel
theorem dX5_editPush_49 : decode cX5_editPush 49 = .ok (.aload_n 0, 1) := by decide +kernel
theorem dX5_editPush_50 : decode cX5_editPush 50 = .ok (.getfield 10, 3) := by decide +kernel
theorem dX5_editPush_53 : decode cX5_editPush 53 = .ok (.aload_n 2, 1) := by decide +kernel
theorem dX5_editPush_54 : decode cX5_editPush 54 = .ok (.aload_n 2, 1) := by decide +kernel
theorem dX5_editPush_55 : decode cX5_editPush 55 = .ok (.getfield 109, 3) := by decide +kernel
theorem dX5_editPush_58 : decode cX5_editPush 58 = .ok (.iload_n 1, 1) := by decide +kernel
theorem dX5_editPush_59 : decode cX5_editPush 59 = .ok (.invokevirtual 112, 3) := by decide +kernel
theorem dX5_editPush_62 : decode cX5_editPush 62 = .ok (.ireturn, 1) := by decide +kernel
set_option maxRecDepth 20000 in
theorem ggX5_editSet_X5_isValue : GoodIn wsX5_editSet wsX5_isValue := goodIn_r _ [8] (by decide +kernel) (by decide +kernel)
set_option maxRecDepth 20000 in
theorem gX5_editSet_X5_isValue : GoodIn wsX5_editSet (va_wsS RX5 55 yX5_isValue wsX5_isValue) := goodIn_app (goodIn_of _ (by decide +kernel)) ggX5_editSet_X5_isValue
set_option maxRecDepth 20000 in
theorem ggX5_editSet_X0_remember : GoodIn wsX5_editSet wsX0_remember := goodIn_r _ [13, 14, 15, 16, 17, 12, 18, 19, 20, 21, 22, 23, 24, 25, 26, 27, 28, 29, 30, 31, 32, 33, 112, 113, 104, 105, 106, 107, 108] (by decide +kernel) (by decide +kernel)
set_option maxRecDepth 20000 in
theorem gX5_editSet_X0_remember : GoodIn wsX5_editSet (wsV RX5 67 RX0 yX0_remember wsX0_remember) := goodIn_app (goodIn_of _ (by decide +kernel)) ggX5_editSet_X0_remember
set_option maxRecDepth 20000 in
theorem ggX5_editSet_X2_editWrite : GoodIn wsX5_editSet wsX2_editWrite := goodIn_r _ [37, 31, 33, 38, 39, 40, 41, 42, 43, 44, 45, 46, 47, 48, 49, 50, 51, 52, 53, 54, 55, 56, 57, 58, 59, 60, 61, 62, 63, 64, 65, 66, 67, 68, 69, 70, 71, 72, 73, 74, 75, 76, 77, 78, 79, 80, 81, 82, 7, 83, 84, 85, 86, 87, 88, 89, 90, 91, 92, 93, 94, 95, 96, 97, 27, 98, 32, 104, 105, 106, 107, 108, 109, 110, 111] (by decide +kernel) (by decide +kernel)
set_option maxRecDepth 20000 in
theorem gX5_editSet_X2_editWrite : GoodIn wsX5_editSet (wsV RX5 112 RX2 yX2_editWrite wsX2_editWrite) := goodIn_app (goodIn_of _ (by decide +kernel)) ggX5_editSet_X2_editWrite
theorem dX5_editSet_0 : decode cX5_editSet 0 = .ok (.aload_n 0, 1) := by decide +kernel
theorem dX5_editSet_1 : decode cX5_editSet 1 = .ok (.getfield 10, 3) := by decide +kernel
theorem dX5_editSet_4 : decode cX5_editSet 4 = .ok (.getfield 102, 3) := by decide +kernel
theorem dX5_editSet_7 : decode cX5_editSet 7 = .ok (.astore_n 3, 1) := by decide +kernel
theorem dX5_editSet_8 : decode cX5_editSet 8 = .ok (.aload_n 3, 1) := by decide +kernel
theorem dX5_editSet_9 : decode cX5_editSet 9 = .ok (.ifnonnull 6, 3) := by decide +kernel
theorem dX5_editSet_12 : decode cX5_editSet 12 = .ok (.bipush (-4), 2) := by decide +kernel
theorem dX5_editSet_14 : decode cX5_editSet 14 = .ok (.ireturn, 1) := by decide +kernel
theorem dX5_editSet_15 : decode cX5_editSet 15 = .ok (.iload_n 1, 1) := by decide +kernel
theorem dX5_editSet_16 : decode cX5_editSet 16 = .ok (.ifCond .lt 11, 3) := by decide +kernel
theorem dX5_editSet_19 : decode cX5_editSet 19 = .ok (.iload_n 1, 1) := by decide +kernel
theorem dX5_editSet_20 : decode cX5_editSet 20 = .ok (.aload_n 3, 1) := by decide +kernel
theorem dX5_editSet_21 : decode cX5_editSet 21 = .ok (.getfield 109, 3) := by decide +kernel
theorem dX5_editSet_24 : decode cX5_editSet 24 = .ok (.if_icmp .lt 5, 3) := by decide +kernel
theorem dX5_editSet_27 : decode cX5_editSet 27 = .ok (.iconst (-1), 1) := by decide +kernel
theorem dX5_editSet_28 : decode cX5_editSet 28 = .ok (.ireturn, 1) := by decide +kernel
theorem dX5_editSet_29 : decode cX5_editSet 29 = .ok (.iload_n 2, 1) := by decide +kernel
theorem dX5_editSet_30 : decode cX5_editSet 30 = .ok (.invokestatic 55, 3) := by decide +kernel
theorem dX5_editSet_33 : decode cX5_editSet 33 = .ok (.ifCond .ne 6, 3) := by decide +kernel
theorem dX5_editSet_36 : decode cX5_editSet 36 = .ok (.bipush (-2), 2) := by decide +kernel
theorem dX5_editSet_38 : decode cX5_editSet 38 = .ok (.ireturn, 1) := by decide +kernel
theorem dX5_editSet_39 : decode cX5_editSet 39 = .ok (.aload_n 0, 1) := by decide +kernel
theorem dX5_editSet_40 : decode cX5_editSet 40 = .ok (.getfield 26, 3) := by decide +kernel
theorem dX5_editSet_43 : decode cX5_editSet 43 = .ok (.aload_n 0, 1) := by decide +kernel
theorem dX5_editSet_44 : decode cX5_editSet 44 = .ok (.getfield 10, 3) := by decide +kernel
theorem dX5_editSet_47 : decode cX5_editSet 47 = .ok (.invokevirtual 67, 3) := by decide +kernel
theorem dX5_editSet_50 : decode cX5_editSet 50 = .ok (.aload_n 0, 1) := by decide +kernel
theorem dX5_editSet_51 : decode cX5_editSet 51 = .ok (.getfield 10, 3) := by decide +kernel
theorem dX5_editSet_54 : decode cX5_editSet 54 = .ok (.aload_n 3, 1) := by decide +kernel
theorem dX5_editSet_55 : decode cX5_editSet 55 = .ok (.iload_n 1, 1) := by decide +kernel
theorem dX5_editSet_56 : decode cX5_editSet 56 = .ok (.iload_n 2, 1) := by decide +kernel
theorem dX5_editSet_57 : decode cX5_editSet 57 = .ok (.invokevirtual 112, 3) := by decide +kernel
theorem dX5_editSet_60 : decode cX5_editSet 60 = .ok (.ireturn, 1) := by decide +kernel
set_option maxRecDepth 20000 in
theorem ggX5_editPop_X0_remember : GoodIn wsX5_editPop wsX0_remember := goodIn_r _ [9, 10, 11, 12, 13, 8, 14, 15, 16, 17, 18, 19, 20, 21, 22, 23, 24, 25, 26, 27, 28, 29, 112, 113, 104, 105, 106, 107, 108] (by decide +kernel) (by decide +kernel)
set_option maxRecDepth 20000 in
theorem gX5_editPop_X0_remember : GoodIn wsX5_editPop (wsV RX5 67 RX0 yX0_remember wsX0_remember) := goodIn_app (goodIn_of _ (by decide +kernel)) ggX5_editPop_X0_remember
set_option maxRecDepth 20000 in
theorem ggX5_editPop_X2_editRemoveLast : GoodIn wsX5_editPop wsX2_editRemoveLast := goodIn_r _ [33, 27, 29, 34, 35, 36, 37, 38, 39, 40, 41, 42, 43, 44, 45, 46, 47, 48, 49, 50, 51, 52, 53, 54, 55, 56, 57, 58, 59, 60, 61, 62, 63, 64, 65, 66, 67, 68, 69, 70, 71, 72, 73, 74, 75, 76, 77, 78, 79, 80, 81, 82, 83, 84, 85, 86, 87, 88, 89, 90, 91, 92, 93, 94, 95, 96, 97, 23, 98, 28, 104, 105, 106, 107, 108, 109, 110, 111] (by decide +kernel) (by decide +kernel)
set_option maxRecDepth 20000 in
theorem gX5_editPop_X2_editRemoveLast : GoodIn wsX5_editPop (wsV RX5 116 RX2 yX2_editRemoveLast wsX2_editRemoveLast) := goodIn_app (goodIn_of _ (by decide +kernel)) ggX5_editPop_X2_editRemoveLast
theorem dX5_editPop_0 : decode cX5_editPop 0 = .ok (.aload_n 0, 1) := by decide +kernel
theorem dX5_editPop_1 : decode cX5_editPop 1 = .ok (.getfield 10, 3) := by decide +kernel
theorem dX5_editPop_4 : decode cX5_editPop 4 = .ok (.getfield 102, 3) := by decide +kernel
theorem dX5_editPop_7 : decode cX5_editPop 7 = .ok (.astore_n 1, 1) := by decide +kernel
theorem dX5_editPop_8 : decode cX5_editPop 8 = .ok (.aload_n 1, 1) := by decide +kernel
theorem dX5_editPop_9 : decode cX5_editPop 9 = .ok (.ifnull 10, 3) := by decide +kernel
theorem dX5_editPop_12 : decode cX5_editPop 12 = .ok (.aload_n 1, 1) := by decide +kernel
theorem dX5_editPop_13 : decode cX5_editPop 13 = .ok (.getfield 109, 3) := by decide +kernel
theorem dX5_editPop_16 : decode cX5_editPop 16 = .ok (.ifCond .ne 6, 3) := by decide +kernel
theorem dX5_editPop_19 : decode cX5_editPop 19 = .ok (.bipush (-4), 2) := by decide +kernel
theorem dX5_editPop_21 : decode cX5_editPop 21 = .ok (.ireturn, 1) := by decide +kernel
theorem dX5_editPop_22 : decode cX5_editPop 22 = .ok (.aload_n 0, 1) := by decide +kernel
theorem dX5_editPop_23 : decode cX5_editPop 23 = .ok (.getfield 26, 3) := by decide +kernel
theorem dX5_editPop_26 : decode cX5_editPop 26 = .ok (.aload_n 0, 1) := by decide +kernel
theorem dX5_editPop_27 : decode cX5_editPop 27 = .ok (.getfield 10, 3) := by decide +kernel
theorem dX5_editPop_30 : decode cX5_editPop 30 = .ok (.invokevirtual 67, 3) := by decide +kernel
theorem dX5_editPop_33 : decode cX5_editPop 33 = .ok (.aload_n 0, 1) := by decide +kernel
theorem dX5_editPop_34 : decode cX5_editPop 34 = .ok (.getfield 10, 3) := by decide +kernel
theorem dX5_editPop_37 : decode cX5_editPop 37 = .ok (.aload_n 1, 1) := by decide +kernel
theorem dX5_editPop_38 : decode cX5_editPop 38 = .ok (.invokevirtual 116, 3) := by decide +kernel
theorem dX5_editPop_41 : decode cX5_editPop 41 = .ok (.ireturn, 1) := by decide +kernel
set_option maxRecDepth 20000 in
theorem ggX5_editRead_X3_fault : GoodIn wsX5_editRead wsX3_fault := goodIn_r _ [10, 11, 12, 13, 14, 9, 15, 16, 17, 18, 19, 133, 134] (by decide +kernel) (by decide +kernel)
set_option maxRecDepth 20000 in
theorem gX5_editRead_X3_fault : GoodIn wsX5_editRead (wsV RX5 120 RX3 yX3_fault wsX3_fault) := goodIn_app (goodIn_of _ (by decide +kernel)) ggX5_editRead_X3_fault
set_option maxRecDepth 20000 in
theorem ggX5_editRead_X3_values : GoodIn wsX5_editRead wsX3_values := goodIn_r _ [23, 24, 11, 25, 26, 27, 9, 28, 12, 13, 14, 15, 16, 133, 134] (by decide +kernel) (by decide +kernel)
set_option maxRecDepth 20000 in
theorem gX5_editRead_X3_values : GoodIn wsX5_editRead (wsV RX5 123 RX3 yX3_values wsX3_values) := goodIn_app (goodIn_of _ (by decide +kernel)) ggX5_editRead_X3_values
set_option maxRecDepth 20000 in
theorem ggX5_editRead_X0_remember : GoodIn wsX5_editRead wsX0_remember := goodIn_r _ [33, 34, 35, 36, 37, 32, 38, 39, 40, 41, 42, 43, 44, 45, 46, 47, 48, 49, 50, 51, 52, 53, 135, 136, 125, 126, 127, 128, 129] (by decide +kernel) (by decide +kernel)
set_option maxRecDepth 20000 in
theorem gX5_editRead_X0_remember : GoodIn wsX5_editRead (wsV RX5 67 RX0 yX0_remember wsX0_remember) := goodIn_app (goodIn_of _ (by decide +kernel)) ggX5_editRead_X0_remember
set_option maxRecDepth 20000 in
theorem ggX5_editRead_X2_editAppendAll : GoodIn wsX5_editRead wsX2_editAppendAll := goodIn_r _ [57, 58, 51, 53, 59, 60, 61, 62, 63, 64, 65, 66, 67, 68, 69, 70, 71, 72, 73, 74, 75, 76, 77, 78, 79, 80, 81, 24, 82, 83, 84, 85, 86, 87, 88, 89, 90, 91, 92, 93, 94, 95, 96, 97, 98, 99, 100, 101, 102, 103, 104, 105, 106, 107, 108, 109, 110, 111, 112, 113, 114, 115, 116, 117, 118, 47, 119, 52, 130, 131, 132, 125, 126, 127, 128, 129] (by decide +kernel) (by decide +kernel)
set_option maxRecDepth 20000 in
theorem gX5_editRead_X2_editAppendAll : GoodIn wsX5_editRead (wsV RX5 127 RX2 yX2_editAppendAll wsX2_editAppendAll) := goodIn_app (goodIn_of _ (by decide +kernel)) ggX5_editRead_X2_editAppendAll
theorem dX5_editRead_0 : decode cX5_editRead 0 = .ok (.aload_n 0, 1) := by decide +kernel
theorem dX5_editRead_1 : decode cX5_editRead 1 = .ok (.getfield 10, 3) := by decide +kernel
theorem dX5_editRead_4 : decode cX5_editRead 4 = .ok (.getfield 102, 3) := by decide +kernel
theorem dX5_editRead_7 : decode cX5_editRead 7 = .ok (.astore_n 1, 1) := by decide +kernel
theorem dX5_editRead_8 : decode cX5_editRead 8 = .ok (.aload_n 1, 1) := by decide +kernel
theorem dX5_editRead_9 : decode cX5_editRead 9 = .ok (.ifnonnull 6, 3) := by decide +kernel
theorem dX5_editRead_12 : decode cX5_editRead 12 = .ok (.bipush (-4), 2) := by decide +kernel
theorem dX5_editRead_14 : decode cX5_editRead 14 = .ok (.ireturn, 1) := by decide +kernel
theorem dX5_editRead_15 : decode cX5_editRead 15 = .ok (.aload_n 0, 1) := by decide +kernel
theorem dX5_editRead_16 : decode cX5_editRead 16 = .ok (.getfield 33, 3) := by decide +kernel
theorem dX5_editRead_19 : decode cX5_editRead 19 = .ok (.invokevirtual 120, 3) := by decide +kernel
theorem dX5_editRead_22 : decode cX5_editRead 22 = .ok (.istore_n 2, 1) := by decide +kernel
theorem dX5_editRead_23 : decode cX5_editRead 23 = .ok (.iload_n 2, 1) := by decide +kernel
theorem dX5_editRead_24 : decode cX5_editRead 24 = .ok (.iconst (-1), 1) := by decide +kernel
theorem dX5_editRead_25 : decode cX5_editRead 25 = .ok (.if_icmp .eq 8, 3) := by decide +kernel
theorem dX5_editRead_28 : decode cX5_editRead 28 = .ok (.bipush (-100), 2) := by decide +kernel
theorem dX5_editRead_30 : decode cX5_editRead 30 = .ok (.iload_n 2, 1) := by decide +kernel
theorem dX5_editRead_31 : decode cX5_editRead 31 = .ok (.isub, 1) := by decide +kernel
theorem dX5_editRead_32 : decode cX5_editRead 32 = .ok (.ireturn, 1) := by decide +kernel
theorem dX5_editRead_33 : decode cX5_editRead 33 = .ok (.aload_n 0, 1) := by decide +kernel
theorem dX5_editRead_34 : decode cX5_editRead 34 = .ok (.getfield 33, 3) := by decide +kernel
theorem dX5_editRead_37 : decode cX5_editRead 37 = .ok (.invokevirtual 123, 3) := by decide +kernel
theorem dX5_editRead_40 : decode cX5_editRead 40 = .ok (.astore_n 3, 1) := by decide +kernel
theorem dX5_editRead_41 : decode cX5_editRead 41 = .ok (.aload_n 1, 1) := by decide +kernel
theorem dX5_editRead_42 : decode cX5_editRead 42 = .ok (.getfield 109, 3) := by decide +kernel
theorem dX5_editRead_45 : decode cX5_editRead 45 = .ok (.aload_n 3, 1) := by decide +kernel
theorem dX5_editRead_46 : decode cX5_editRead 46 = .ok (.arraylength, 1) := by decide +kernel
theorem dX5_editRead_47 : decode cX5_editRead 47 = .ok (.iadd, 1) := by decide +kernel
theorem dX5_editRead_48 : decode cX5_editRead 48 = .ok (.sipush 300, 3) := by decide +kernel
theorem dX5_editRead_51 : decode cX5_editRead 51 = .ok (.if_icmp .le 6, 3) := by decide +kernel
theorem dX5_editRead_54 : decode cX5_editRead 54 = .ok (.bipush (-3), 2) := by decide +kernel
theorem dX5_editRead_56 : decode cX5_editRead 56 = .ok (.ireturn, 1) := by decide +kernel
theorem dX5_editRead_57 : decode cX5_editRead 57 = .ok (.aload_n 0, 1) := by decide +kernel
theorem dX5_editRead_58 : decode cX5_editRead 58 = .ok (.getfield 26, 3) := by decide +kernel
theorem dX5_editRead_61 : decode cX5_editRead 61 = .ok (.aload_n 0, 1) := by decide +kernel
theorem dX5_editRead_62 : decode cX5_editRead 62 = .ok (.getfield 10, 3) := by decide +kernel
theorem dX5_editRead_65 : decode cX5_editRead 65 = .ok (.invokevirtual 67, 3) := by decide +kernel
theorem dX5_editRead_68 : decode cX5_editRead 68 = .ok (.aload_n 0, 1) := by decide +kernel
theorem dX5_editRead_69 : decode cX5_editRead 69 = .ok (.getfield 10, 3) := by decide +kernel
theorem dX5_editRead_72 : decode cX5_editRead 72 = .ok (.aload_n 1, 1) := by decide +kernel
theorem dX5_editRead_73 : decode cX5_editRead 73 = .ok (.aload_n 3, 1) := by decide +kernel
theorem dX5_editRead_74 : decode cX5_editRead 74 = .ok (.invokevirtual 127, 3) := by decide +kernel
theorem dX5_editRead_77 : decode cX5_editRead 77 = .ok (.ireturn, 1) := by decide +kernel
set_option maxRecDepth 20000 in
theorem ggX5_finish_X2_isFull : GoodIn wsX5_finish wsX2_isFull := goodIn_r _ [12, 13, 61, 62, 63, 64, 65] (by decide +kernel) (by decide +kernel)
set_option maxRecDepth 20000 in
theorem gX5_finish_X2_isFull : GoodIn wsX5_finish (wsV RX5 59 RX2 yX2_isFull wsX2_isFull) := goodIn_app (goodIn_of _ (by decide +kernel)) ggX5_finish_X2_isFull
set_option maxRecDepth 20000 in
theorem ggX5_finish_X0_remember : GoodIn wsX5_finish wsX0_remember := goodIn_r _ [18, 19, 20, 21, 22, 17, 23, 24, 25, 26, 27, 28, 29, 30, 31, 11, 32, 33, 13, 34, 35, 36, 73, 74, 61, 62, 63, 64, 65] (by decide +kernel) (by decide +kernel)
set_option maxRecDepth 20000 in
theorem gX5_finish_X0_remember : GoodIn wsX5_finish (wsV RX5 67 RX0 yX0_remember wsX0_remember) := goodIn_app (goodIn_of _ (by decide +kernel)) ggX5_finish_X0_remember
set_option maxRecDepth 20000 in
theorem ggX5_finish_X2_endEdit : GoodIn wsX5_finish wsX2_endEdit := goodIn_r _ [40, 35, 41, 36, 61, 62, 63, 64, 65] (by decide +kernel) (by decide +kernel)
set_option maxRecDepth 20000 in
theorem gX5_finish_X2_endEdit : GoodIn wsX5_finish (wsV RX5 131 RX2 yX2_endEdit wsX2_endEdit) := goodIn_app (goodIn_of _ (by decide +kernel)) ggX5_finish_X2_endEdit
set_option maxRecDepth 20000 in
theorem ggX5_finish_X4_init : GoodIn wsX5_finish wsX4_init := goodIn_r _ [44, 45, 46, 47, 48, 49, 50, 51, 66, 67, 68, 69] (by decide +kernel) (by decide +kernel)
set_option maxRecDepth 20000 in
theorem gX5_finish_X4_init : GoodIn wsX5_finish (wsX4_init) := ggX5_finish_X4_init
set_option maxRecDepth 20000 in
theorem ggX5_finish_X2_addView : GoodIn wsX5_finish wsX2_addView := goodIn_r _ [55, 13, 33, 61, 62, 63, 64, 65] (by decide +kernel) (by decide +kernel)
set_option maxRecDepth 20000 in
theorem gX5_finish_X2_addView : GoodIn wsX5_finish (wsV RX5 47 RX2 yX2_addView wsX2_addView) := goodIn_app (goodIn_of _ (by decide +kernel)) ggX5_finish_X2_addView
theorem dX5_finish_0 : decode cX5_finish 0 = .ok (.aload_n 0, 1) := by decide +kernel
theorem dX5_finish_1 : decode cX5_finish 1 = .ok (.getfield 10, 3) := by decide +kernel
theorem dX5_finish_4 : decode cX5_finish 4 = .ok (.getfield 102, 3) := by decide +kernel
theorem dX5_finish_7 : decode cX5_finish 7 = .ok (.astore_n 1, 1) := by decide +kernel
theorem dX5_finish_8 : decode cX5_finish 8 = .ok (.aload_n 1, 1) := by decide +kernel
theorem dX5_finish_9 : decode cX5_finish 9 = .ok (.ifnonnull 6, 3) := by decide +kernel
theorem dX5_finish_12 : decode cX5_finish 12 = .ok (.bipush (-4), 2) := by decide +kernel
theorem dX5_finish_14 : decode cX5_finish 14 = .ok (.ireturn, 1) := by decide +kernel
theorem dX5_finish_15 : decode cX5_finish 15 = .ok (.aload_n 0, 1) := by decide +kernel
theorem dX5_finish_16 : decode cX5_finish 16 = .ok (.getfield 10, 3) := by decide +kernel
theorem dX5_finish_19 : decode cX5_finish 19 = .ok (.invokevirtual 59, 3) := by decide +kernel
theorem dX5_finish_22 : decode cX5_finish 22 = .ok (.ifCond .eq 6, 3) := by decide +kernel
theorem dX5_finish_25 : decode cX5_finish 25 = .ok (.bipush (-3), 2) := by decide +kernel
theorem dX5_finish_27 : decode cX5_finish 27 = .ok (.ireturn, 1) := by decide +kernel
theorem dX5_finish_28 : decode cX5_finish 28 = .ok (.aload_n 0, 1) := by decide +kernel
theorem dX5_finish_29 : decode cX5_finish 29 = .ok (.getfield 26, 3) := by decide +kernel
theorem dX5_finish_32 : decode cX5_finish 32 = .ok (.aload_n 0, 1) := by decide +kernel
theorem dX5_finish_33 : decode cX5_finish 33 = .ok (.getfield 10, 3) := by decide +kernel
theorem dX5_finish_36 : decode cX5_finish 36 = .ok (.invokevirtual 67, 3) := by decide +kernel
theorem dX5_finish_39 : decode cX5_finish 39 = .ok (.aload_n 0, 1) := by decide +kernel
theorem dX5_finish_40 : decode cX5_finish 40 = .ok (.getfield 10, 3) := by decide +kernel
theorem dX5_finish_43 : decode cX5_finish 43 = .ok (.invokevirtual 131, 3) := by decide +kernel
theorem dX5_finish_46 : decode cX5_finish 46 = .ok (.aload_n 0, 1) := by decide +kernel
theorem dX5_finish_47 : decode cX5_finish 47 = .ok (.getfield 10, 3) := by decide +kernel
theorem dX5_finish_50 : decode cX5_finish 50 = .ok (.new 37, 3) := by decide +kernel
theorem dX5_finish_53 : decode cX5_finish 53 = .ok (.dup, 1) := by decide +kernel
theorem dX5_finish_54 : decode cX5_finish 54 = .ok (.aload_n 1, 1) := by decide +kernel
theorem dX5_finish_55 : decode cX5_finish 55 = .ok (.iconst 0, 1) := by decide +kernel
theorem dX5_finish_56 : decode cX5_finish 56 = .ok (.iconst 0, 1) := by decide +kernel
theorem dX5_finish_57 : decode cX5_finish 57 = .ok (.aload_n 1, 1) := by decide +kernel
theorem dX5_finish_58 : decode cX5_finish 58 = .ok (.getfield 109, 3) := by decide +kernel
theorem dX5_finish_61 : decode cX5_finish 61 = .ok (.invokespecial 44, 3) := by decide +kernel
theorem dX5_finish_64 : decode cX5_finish 64 = .ok (.invokevirtual 47, 3) := by decide +kernel
theorem dX5_finish_67 : decode cX5_finish 67 = .ok (.ireturn, 1) := by decide +kernel
set_option maxRecDepth 20000 in
theorem ggX5_abandon_X0_remember : GoodIn wsX5_abandon wsX0_remember := goodIn_r _ [9, 10, 11, 12, 13, 8, 14, 15, 16, 17, 18, 19, 20, 21, 22, 23, 24, 25, 26, 27, 28, 29, 48, 49, 40, 41, 42, 43, 44] (by decide +kernel) (by decide +kernel)
set_option maxRecDepth 20000 in
theorem gX5_abandon_X0_remember : GoodIn wsX5_abandon (wsV RX5 67 RX0 yX0_remember wsX0_remember) := goodIn_app (goodIn_of _ (by decide +kernel)) ggX5_abandon_X0_remember
set_option maxRecDepth 20000 in
theorem ggX5_abandon_X2_endEdit : GoodIn wsX5_abandon wsX2_endEdit := goodIn_r _ [33, 28, 34, 29, 40, 41, 42, 43, 44] (by decide +kernel) (by decide +kernel)
set_option maxRecDepth 20000 in
theorem gX5_abandon_X2_endEdit : GoodIn wsX5_abandon (wsV RX5 131 RX2 yX2_endEdit wsX2_endEdit) := goodIn_app (goodIn_of _ (by decide +kernel)) ggX5_abandon_X2_endEdit
theorem dX5_abandon_0 : decode cX5_abandon 0 = .ok (.aload_n 0, 1) := by decide +kernel
theorem dX5_abandon_1 : decode cX5_abandon 1 = .ok (.getfield 10, 3) := by decide +kernel
theorem dX5_abandon_4 : decode cX5_abandon 4 = .ok (.getfield 102, 3) := by decide +kernel
theorem dX5_abandon_7 : decode cX5_abandon 7 = .ok (.astore_n 1, 1) := by decide +kernel
theorem dX5_abandon_8 : decode cX5_abandon 8 = .ok (.aload_n 1, 1) := by decide +kernel
theorem dX5_abandon_9 : decode cX5_abandon 9 = .ok (.ifnonnull 6, 3) := by decide +kernel
theorem dX5_abandon_12 : decode cX5_abandon 12 = .ok (.bipush (-4), 2) := by decide +kernel
theorem dX5_abandon_14 : decode cX5_abandon 14 = .ok (.ireturn, 1) := by decide +kernel
theorem dX5_abandon_15 : decode cX5_abandon 15 = .ok (.aload_n 0, 1) := by decide +kernel
theorem dX5_abandon_16 : decode cX5_abandon 16 = .ok (.getfield 26, 3) := by decide +kernel
theorem dX5_abandon_19 : decode cX5_abandon 19 = .ok (.aload_n 0, 1) := by decide +kernel
theorem dX5_abandon_20 : decode cX5_abandon 20 = .ok (.getfield 10, 3) := by decide +kernel
theorem dX5_abandon_23 : decode cX5_abandon 23 = .ok (.invokevirtual 67, 3) := by decide +kernel
theorem dX5_abandon_26 : decode cX5_abandon 26 = .ok (.aload_n 0, 1) := by decide +kernel
theorem dX5_abandon_27 : decode cX5_abandon 27 = .ok (.getfield 10, 3) := by decide +kernel
theorem dX5_abandon_30 : decode cX5_abandon 30 = .ok (.invokevirtual 131, 3) := by decide +kernel
theorem dX5_abandon_33 : decode cX5_abandon 33 = .ok (.aload_n 1, 1) := by decide +kernel
theorem dX5_abandon_34 : decode cX5_abandon 34 = .ok (.getfield 109, 3) := by decide +kernel
theorem dX5_abandon_37 : decode cX5_abandon 37 = .ok (.ireturn, 1) := by decide +kernel
set_option maxRecDepth 20000 in
theorem ggX5_type_X3_add : GoodIn wsX5_type wsX3_add := goodIn_r _ [7, 8, 9, 15, 16] (by decide +kernel) (by decide +kernel)
set_option maxRecDepth 20000 in
theorem gX5_type_X3_add : GoodIn wsX5_type (wsV RX5 134 RX3 yX3_add wsX3_add) := goodIn_app (goodIn_of _ (by decide +kernel)) ggX5_type_X3_add
theorem dX5_type_0 : decode cX5_type 0 = .ok (.aload_n 0, 1) := by decide +kernel
theorem dX5_type_1 : decode cX5_type 1 = .ok (.getfield 33, 3) := by decide +kernel
theorem dX5_type_4 : decode cX5_type 4 = .ok (.iload_n 1, 1) := by decide +kernel
theorem dX5_type_5 : decode cX5_type 5 = .ok (.invokevirtual 134, 3) := by decide +kernel
theorem dX5_type_8 : decode cX5_type 8 = .ok (.ifCond .eq 13, 3) := by decide +kernel
theorem dX5_type_11 : decode cX5_type 11 = .ok (.aload_n 0, 1) := by decide +kernel
theorem dX5_type_12 : decode cX5_type 12 = .ok (.getfield 33, 3) := by decide +kernel
theorem dX5_type_15 : decode cX5_type 15 = .ok (.getfield 138, 3) := by decide +kernel
theorem dX5_type_18 : decode cX5_type 18 = .ok (.goto 5, 3) := by decide +kernel
theorem dX5_type_21 : decode cX5_type 21 = .ok (.bipush (-3), 2) := by decide +kernel
theorem dX5_type_23 : decode cX5_type 23 = .ok (.ireturn, 1) := by decide +kernel
set_option maxRecDepth 20000 in
theorem ggX5_clearText_X3_empty : GoodIn wsX5_clearText wsX3_empty := goodIn_r _ [7, 8, 14, 15] (by decide +kernel) (by decide +kernel)
set_option maxRecDepth 20000 in
theorem gX5_clearText_X3_empty : GoodIn wsX5_clearText (wsV RX5 139 RX3 yX3_empty wsX3_empty) := goodIn_app (goodIn_of _ (by decide +kernel)) ggX5_clearText_X3_empty
theorem dX5_clearText_0 : decode cX5_clearText 0 = .ok (.aload_n 0, 1) := by decide +kernel
theorem dX5_clearText_1 : decode cX5_clearText 1 = .ok (.getfield 33, 3) := by decide +kernel
theorem dX5_clearText_4 : decode cX5_clearText 4 = .ok (.getfield 138, 3) := by decide +kernel
theorem dX5_clearText_7 : decode cX5_clearText 7 = .ok (.istore_n 1, 1) := by decide +kernel
theorem dX5_clearText_8 : decode cX5_clearText 8 = .ok (.aload_n 0, 1) := by decide +kernel
theorem dX5_clearText_9 : decode cX5_clearText 9 = .ok (.getfield 33, 3) := by decide +kernel
theorem dX5_clearText_12 : decode cX5_clearText 12 = .ok (.invokevirtual 139, 3) := by decide +kernel
theorem dX5_clearText_15 : decode cX5_clearText 15 = .ok (.iload_n 1, 1) := by decide +kernel
theorem dX5_clearText_16 : decode cX5_clearText 16 = .ok (.ireturn, 1) := by decide +kernel
set_option maxRecDepth 20000 in
theorem ggX5_undo_X0_takeBack : GoodIn wsX5_undo wsX0_takeBack := goodIn_r _ [8, 9, 10, 11, 12, 7, 13, 14, 15, 16, 17, 18, 19, 20, 21, 22, 23, 24, 30, 31, 32, 33, 34, 35, 36] (by decide +kernel) (by decide +kernel)
set_option maxRecDepth 20000 in
theorem gX5_undo_X0_takeBack : GoodIn wsX5_undo (wsV RX5 143 RX0 yX0_takeBack wsX0_takeBack) := goodIn_app (goodIn_of _ (by decide +kernel)) ggX5_undo_X0_takeBack
theorem dX5_undo_0 : decode cX5_undo 0 = .ok (.aload_n 0, 1) := by decide +kernel
theorem dX5_undo_1 : decode cX5_undo 1 = .ok (.getfield 26, 3) := by decide +kernel
theorem dX5_undo_4 : decode cX5_undo 4 = .ok (.getfield 142, 3) := by decide +kernel
theorem dX5_undo_7 : decode cX5_undo 7 = .ok (.ifCond .ne 6, 3) := by decide +kernel
theorem dX5_undo_10 : decode cX5_undo 10 = .ok (.bipush (-5), 2) := by decide +kernel
theorem dX5_undo_12 : decode cX5_undo 12 = .ok (.ireturn, 1) := by decide +kernel
theorem dX5_undo_13 : decode cX5_undo 13 = .ok (.aload_n 0, 1) := by decide +kernel
theorem dX5_undo_14 : decode cX5_undo 14 = .ok (.getfield 26, 3) := by decide +kernel
theorem dX5_undo_17 : decode cX5_undo 17 = .ok (.aload_n 0, 1) := by decide +kernel
theorem dX5_undo_18 : decode cX5_undo 18 = .ok (.getfield 10, 3) := by decide +kernel
theorem dX5_undo_21 : decode cX5_undo 21 = .ok (.invokevirtual 143, 3) := by decide +kernel
theorem dX5_undo_24 : decode cX5_undo 24 = .ok (.aload_n 0, 1) := by decide +kernel
theorem dX5_undo_25 : decode cX5_undo 25 = .ok (.getfield 26, 3) := by decide +kernel
theorem dX5_undo_28 : decode cX5_undo 28 = .ok (.getfield 142, 3) := by decide +kernel
theorem dX5_undo_31 : decode cX5_undo 31 = .ok (.ireturn, 1) := by decide +kernel
set_option maxRecDepth 20000 in
theorem ggX5_keep_X2_copyFrom : GoodIn wsX5_keep wsX2_copyFrom := goodIn_r _ [9, 10, 11, 12, 13, 14, 20, 21, 22, 23, 24] (by decide +kernel) (by decide +kernel)
set_option maxRecDepth 20000 in
theorem gX5_keep_X2_copyFrom : GoodIn wsX5_keep (wsV RX5 146 RX2 yX2_copyFrom wsX2_copyFrom) := goodIn_app (goodIn_of _ (by decide +kernel)) ggX5_keep_X2_copyFrom
theorem dX5_keep_0 : decode cX5_keep 0 = .ok (.aload_n 0, 1) := by decide +kernel
theorem dX5_keep_1 : decode cX5_keep 1 = .ok (.getfield 16, 3) := by decide +kernel
theorem dX5_keep_4 : decode cX5_keep 4 = .ok (.aload_n 0, 1) := by decide +kernel
theorem dX5_keep_5 : decode cX5_keep 5 = .ok (.getfield 10, 3) := by decide +kernel
theorem dX5_keep_8 : decode cX5_keep 8 = .ok (.invokevirtual 146, 3) := by decide +kernel
theorem dX5_keep_11 : decode cX5_keep 11 = .ok (.aload_n 0, 1) := by decide +kernel
theorem dX5_keep_12 : decode cX5_keep 12 = .ok (.iconst 1, 1) := by decide +kernel
theorem dX5_keep_13 : decode cX5_keep 13 = .ok (.putfield 19, 3) := by decide +kernel
theorem dX5_keep_16 : decode cX5_keep 16 = .ok (.aload_n 0, 1) := by decide +kernel
theorem dX5_keep_17 : decode cX5_keep 17 = .ok (.getfield 10, 3) := by decide +kernel
theorem dX5_keep_20 : decode cX5_keep 20 = .ok (.getfield 149, 3) := by decide +kernel
theorem dX5_keep_23 : decode cX5_keep 23 = .ok (.ireturn, 1) := by decide +kernel
set_option maxRecDepth 20000 in
theorem ggX5_restore_X0_remember : GoodIn wsX5_restore wsX0_remember := goodIn_r _ [10, 11, 12, 13, 14, 9, 15, 16, 17, 18, 19, 20, 21, 22, 23, 24, 25, 26, 27, 28, 29, 30, 42, 43, 37, 38, 39, 40, 41] (by decide +kernel) (by decide +kernel)
set_option maxRecDepth 20000 in
theorem gX5_restore_X0_remember : GoodIn wsX5_restore (wsV RX5 67 RX0 yX0_remember wsX0_remember) := goodIn_app (goodIn_of _ (by decide +kernel)) ggX5_restore_X0_remember
set_option maxRecDepth 20000 in
theorem ggX5_restore_X2_copyFrom : GoodIn wsX5_restore wsX2_copyFrom := goodIn_r _ [25, 26, 27, 28, 29, 30, 37, 38, 39, 40, 41] (by decide +kernel) (by decide +kernel)
set_option maxRecDepth 20000 in
theorem gX5_restore_X2_copyFrom : GoodIn wsX5_restore (wsV RX5 146 RX2 yX2_copyFrom wsX2_copyFrom) := goodIn_app (goodIn_of _ (by decide +kernel)) ggX5_restore_X2_copyFrom
theorem dX5_restore_0 : decode cX5_restore 0 = .ok (.aload_n 0, 1) := by decide +kernel
theorem dX5_restore_1 : decode cX5_restore 1 = .ok (.getfield 19, 3) := by decide +kernel
theorem dX5_restore_4 : decode cX5_restore 4 = .ok (.ifCond .ne 6, 3) := by decide +kernel
theorem dX5_restore_7 : decode cX5_restore 7 = .ok (.bipush (-5), 2) := by decide +kernel
theorem dX5_restore_9 : decode cX5_restore 9 = .ok (.ireturn, 1) := by decide +kernel
theorem dX5_restore_10 : decode cX5_restore 10 = .ok (.aload_n 0, 1) := by decide +kernel
theorem dX5_restore_11 : decode cX5_restore 11 = .ok (.getfield 26, 3) := by decide +kernel
theorem dX5_restore_14 : decode cX5_restore 14 = .ok (.aload_n 0, 1) := by decide +kernel
theorem dX5_restore_15 : decode cX5_restore 15 = .ok (.getfield 10, 3) := by decide +kernel
theorem dX5_restore_18 : decode cX5_restore 18 = .ok (.invokevirtual 67, 3) := by decide +kernel
theorem dX5_restore_21 : decode cX5_restore 21 = .ok (.aload_n 0, 1) := by decide +kernel
theorem dX5_restore_22 : decode cX5_restore 22 = .ok (.getfield 10, 3) := by decide +kernel
theorem dX5_restore_25 : decode cX5_restore 25 = .ok (.aload_n 0, 1) := by decide +kernel
theorem dX5_restore_26 : decode cX5_restore 26 = .ok (.getfield 16, 3) := by decide +kernel
theorem dX5_restore_29 : decode cX5_restore 29 = .ok (.invokevirtual 146, 3) := by decide +kernel
theorem dX5_restore_32 : decode cX5_restore 32 = .ok (.aload_n 0, 1) := by decide +kernel
theorem dX5_restore_33 : decode cX5_restore 33 = .ok (.getfield 10, 3) := by decide +kernel
theorem dX5_restore_36 : decode cX5_restore 36 = .ok (.getfield 149, 3) := by decide +kernel
theorem dX5_restore_39 : decode cX5_restore 39 = .ok (.ireturn, 1) := by decide +kernel
set_option maxRecDepth 20000 in
theorem ggX5_get_X2_viewOf : GoodIn wsX5_get wsX2_viewOf := goodIn_r _ [6, 7, 26, 27, 28, 29, 30] (by decide +kernel) (by decide +kernel)
set_option maxRecDepth 20000 in
theorem gX5_get_X2_viewOf : GoodIn wsX5_get (wsV RX5 51 RX2 yX2_viewOf wsX2_viewOf) := goodIn_app (goodIn_of _ (by decide +kernel)) ggX5_get_X2_viewOf
set_option maxRecDepth 20000 in
theorem ggX5_get_X4_shows : GoodIn wsX5_get wsX4_shows := goodIn_r _ [12, 13, 31, 32, 33, 34] (by decide +kernel) (by decide +kernel)
set_option maxRecDepth 20000 in
theorem gX5_get_X4_shows : GoodIn wsX5_get (wsV RX5 89 RX4 yX4_shows wsX4_shows) := goodIn_app (goodIn_of _ (by decide +kernel)) ggX5_get_X4_shows
set_option maxRecDepth 20000 in
theorem ggX5_get_X4_valueAt : GoodIn wsX5_get wsX4_valueAt := goodIn_r _ [17, 18, 19, 20, 31, 32, 33, 34, 35, 36, 37] (by decide +kernel) (by decide +kernel)
set_option maxRecDepth 20000 in
theorem gX5_get_X4_valueAt : GoodIn wsX5_get (wsV RX5 152 RX4 yX4_valueAt wsX4_valueAt) := goodIn_app (goodIn_of _ (by decide +kernel)) ggX5_get_X4_valueAt
theorem dX5_get_0 : decode cX5_get 0 = .ok (.aload_n 0, 1) := by decide +kernel
theorem dX5_get_1 : decode cX5_get 1 = .ok (.getfield 10, 3) := by decide +kernel
theorem dX5_get_4 : decode cX5_get 4 = .ok (.iload_n 1, 1) := by decide +kernel
theorem dX5_get_5 : decode cX5_get 5 = .ok (.invokevirtual 51, 3) := by decide +kernel
theorem dX5_get_8 : decode cX5_get 8 = .ok (.astore_n 3, 1) := by decide +kernel
theorem dX5_get_9 : decode cX5_get 9 = .ok (.aload_n 3, 1) := by decide +kernel
theorem dX5_get_10 : decode cX5_get 10 = .ok (.ifnull 11, 3) := by decide +kernel
theorem dX5_get_13 : decode cX5_get 13 = .ok (.aload_n 3, 1) := by decide +kernel
theorem dX5_get_14 : decode cX5_get 14 = .ok (.iload_n 2, 1) := by decide +kernel
theorem dX5_get_15 : decode cX5_get 15 = .ok (.invokevirtual 89, 3) := by decide +kernel
theorem dX5_get_18 : decode cX5_get 18 = .ok (.ifCond .ne 5, 3) := by decide +kernel
theorem dX5_get_21 : decode cX5_get 21 = .ok (.iconst (-1), 1) := by decide +kernel
theorem dX5_get_22 : decode cX5_get 22 = .ok (.ireturn, 1) := by decide +kernel
theorem dX5_get_23 : decode cX5_get 23 = .ok (.aload_n 3, 1) := by decide +kernel
theorem dX5_get_24 : decode cX5_get 24 = .ok (.iload_n 2, 1) := by decide +kernel
theorem dX5_get_25 : decode cX5_get 25 = .ok (.invokevirtual 152, 3) := by decide +kernel
theorem dX5_get_28 : decode cX5_get 28 = .ok (.ireturn, 1) := by decide +kernel
set_option maxRecDepth 20000 in
theorem ggX5_vector_X2_viewOf : GoodIn wsX5_vector wsX2_viewOf := goodIn_r _ [11, 12, 70, 71, 72, 73, 74] (by decide +kernel) (by decide +kernel)
set_option maxRecDepth 20000 in
theorem gX5_vector_X2_viewOf : GoodIn wsX5_vector (wsV RX5 51 RX2 yX2_viewOf wsX2_viewOf) := goodIn_app (goodIn_of _ (by decide +kernel)) ggX5_vector_X2_viewOf
set_option maxRecDepth 20000 in
theorem ggX5_vector_X1_leaves : GoodIn wsX5_vector wsX1_leaves := goodIn_r _ [17, 18, 67, 68, 69] (by decide +kernel) (by decide +kernel)
set_option maxRecDepth 20000 in
theorem gX5_vector_X1_leaves : GoodIn wsX5_vector (wsV RX5 156 RX1 yX1_leaves wsX1_leaves) := goodIn_app (goodIn_of _ (by decide +kernel)) ggX5_vector_X1_leaves
set_option maxRecDepth 20000 in
theorem ggX5_vector_X1_blocks : GoodIn wsX5_vector wsX1_blocks := goodIn_r _ [22, 23, 24, 25, 16, 26, 27, 67, 68, 69] (by decide +kernel) (by decide +kernel)
set_option maxRecDepth 20000 in
theorem gX5_vector_X1_blocks : GoodIn wsX5_vector (wsV RX5 159 RX1 yX1_blocks wsX1_blocks) := goodIn_app (goodIn_of _ (by decide +kernel)) ggX5_vector_X1_blocks
set_option maxRecDepth 20000 in
theorem ggX5_vector_X5_rootLevel : GoodIn wsX5_vector wsX5_rootLevel := goodIn_r _ [31] (by decide +kernel) (by decide +kernel)
set_option maxRecDepth 20000 in
theorem gX5_vector_X5_rootLevel : GoodIn wsX5_vector (va_wsS RX5 162 yX5_rootLevel wsX5_rootLevel) := goodIn_app (goodIn_of _ (by decide +kernel)) ggX5_vector_X5_rootLevel
set_option maxRecDepth 20000 in
theorem ggX5_vector_X1_tail : GoodIn wsX5_vector wsX1_tail := goodIn_r _ [35, 18, 36, 14, 15, 16, 17, 67, 68, 69] (by decide +kernel) (by decide +kernel)
set_option maxRecDepth 20000 in
theorem gX5_vector_X1_tail : GoodIn wsX5_vector (wsV RX5 165 RX1 yX1_tail wsX1_tail) := goodIn_app (goodIn_of _ (by decide +kernel)) ggX5_vector_X1_tail
set_option maxRecDepth 20000 in
theorem ggX5_vector_X4_sum : GoodIn wsX5_vector wsX4_sum := goodIn_r _ [41, 42, 43, 44, 45, 40, 46, 47, 48, 49, 63, 64, 65, 66, 67, 68, 69] (by decide +kernel) (by decide +kernel)
set_option maxRecDepth 20000 in
theorem gX5_vector_X4_sum : GoodIn wsX5_vector (wsV RX5 168 RX4 yX4_sum wsX4_sum) := goodIn_app (goodIn_of _ (by decide +kernel)) ggX5_vector_X4_sum
set_option maxRecDepth 20000 in
theorem ggX5_vector_X4_greatest : GoodIn wsX5_vector wsX4_greatest := goodIn_r _ [53, 42, 54, 55, 56, 57, 43, 44, 45, 40, 46, 47, 48, 49, 63, 64, 65, 66, 67, 68, 69] (by decide +kernel) (by decide +kernel)
set_option maxRecDepth 20000 in
theorem gX5_vector_X4_greatest : GoodIn wsX5_vector (wsV RX5 171 RX4 yX4_greatest wsX4_greatest) := goodIn_app (goodIn_of _ (by decide +kernel)) ggX5_vector_X4_greatest
theorem dX5_vector_0 : decode cX5_vector 0 = .ok (.aload_n 0, 1) := by decide +kernel
theorem dX5_vector_1 : decode cX5_vector 1 = .ok (.getfield 10, 3) := by decide +kernel
theorem dX5_vector_4 : decode cX5_vector 4 = .ok (.iload_n 1, 1) := by decide +kernel
theorem dX5_vector_5 : decode cX5_vector 5 = .ok (.invokevirtual 51, 3) := by decide +kernel
theorem dX5_vector_8 : decode cX5_vector 8 = .ok (.astore_n 3, 1) := by decide +kernel
theorem dX5_vector_9 : decode cX5_vector 9 = .ok (.aload_n 3, 1) := by decide +kernel
theorem dX5_vector_10 : decode cX5_vector 10 = .ok (.ifnonnull 5, 3) := by decide +kernel
theorem dX5_vector_13 : decode cX5_vector 13 = .ok (.iconst (-1), 1) := by decide +kernel
theorem dX5_vector_14 : decode cX5_vector 14 = .ok (.ireturn, 1) := by decide +kernel
theorem dX5_vector_15 : decode cX5_vector 15 = .ok (.iload_n 2, 1) := by decide +kernel
theorem dX5_vector_16 : decode cX5_vector 16 = .ok (.tableswitch 132 0 9 #[56, 61, 74, 79, 87, 95, 103, 114, 122, 127], 56) := by decide +kernel
theorem dX5_vector_72 : decode cX5_vector 72 = .ok (.aload_n 3, 1) := by decide +kernel
theorem dX5_vector_73 : decode cX5_vector 73 = .ok (.getfield 86, 3) := by decide +kernel
theorem dX5_vector_76 : decode cX5_vector 76 = .ok (.ireturn, 1) := by decide +kernel
theorem dX5_vector_77 : decode cX5_vector 77 = .ok (.aload_n 3, 1) := by decide +kernel
theorem dX5_vector_78 : decode cX5_vector 78 = .ok (.getfield 79, 3) := by decide +kernel
theorem dX5_vector_81 : decode cX5_vector 81 = .ok (.ifCond .eq 7, 3) := by decide +kernel
theorem dX5_vector_84 : decode cX5_vector 84 = .ok (.iconst 1, 1) := by decide +kernel
theorem dX5_vector_85 : decode cX5_vector 85 = .ok (.goto 4, 3) := by decide +kernel
theorem dX5_vector_88 : decode cX5_vector 88 = .ok (.iconst 0, 1) := by decide +kernel
theorem dX5_vector_89 : decode cX5_vector 89 = .ok (.ireturn, 1) := by decide +kernel
theorem dX5_vector_90 : decode cX5_vector 90 = .ok (.aload_n 3, 1) := by decide +kernel
theorem dX5_vector_91 : decode cX5_vector 91 = .ok (.getfield 82, 3) := by decide +kernel
theorem dX5_vector_94 : decode cX5_vector 94 = .ok (.ireturn, 1) := by decide +kernel
theorem dX5_vector_95 : decode cX5_vector 95 = .ok (.aload_n 3, 1) := by decide +kernel
theorem dX5_vector_96 : decode cX5_vector 96 = .ok (.getfield 71, 3) := by decide +kernel
theorem dX5_vector_99 : decode cX5_vector 99 = .ok (.getfield 109, 3) := by decide +kernel
theorem dX5_vector_102 : decode cX5_vector 102 = .ok (.ireturn, 1) := by decide +kernel
theorem dX5_vector_103 : decode cX5_vector 103 = .ok (.aload_n 3, 1) := by decide +kernel
theorem dX5_vector_104 : decode cX5_vector 104 = .ok (.getfield 71, 3) := by decide +kernel
theorem dX5_vector_107 : decode cX5_vector 107 = .ok (.invokevirtual 156, 3) := by decide +kernel
theorem dX5_vector_110 : decode cX5_vector 110 = .ok (.ireturn, 1) := by decide +kernel
theorem dX5_vector_111 : decode cX5_vector 111 = .ok (.aload_n 3, 1) := by decide +kernel
theorem dX5_vector_112 : decode cX5_vector 112 = .ok (.getfield 71, 3) := by decide +kernel
theorem dX5_vector_115 : decode cX5_vector 115 = .ok (.invokevirtual 159, 3) := by decide +kernel
theorem dX5_vector_118 : decode cX5_vector 118 = .ok (.ireturn, 1) := by decide +kernel
theorem dX5_vector_119 : decode cX5_vector 119 = .ok (.aload_n 3, 1) := by decide +kernel
theorem dX5_vector_120 : decode cX5_vector 120 = .ok (.getfield 71, 3) := by decide +kernel
theorem dX5_vector_123 : decode cX5_vector 123 = .ok (.invokevirtual 156, 3) := by decide +kernel
theorem dX5_vector_126 : decode cX5_vector 126 = .ok (.invokestatic 162, 3) := by decide +kernel
theorem dX5_vector_129 : decode cX5_vector 129 = .ok (.ireturn, 1) := by decide +kernel
theorem dX5_vector_130 : decode cX5_vector 130 = .ok (.aload_n 3, 1) := by decide +kernel
theorem dX5_vector_131 : decode cX5_vector 131 = .ok (.getfield 71, 3) := by decide +kernel
theorem dX5_vector_134 : decode cX5_vector 134 = .ok (.invokevirtual 165, 3) := by decide +kernel
theorem dX5_vector_137 : decode cX5_vector 137 = .ok (.ireturn, 1) := by decide +kernel
theorem dX5_vector_138 : decode cX5_vector 138 = .ok (.aload_n 3, 1) := by decide +kernel
theorem dX5_vector_139 : decode cX5_vector 139 = .ok (.invokevirtual 168, 3) := by decide +kernel
theorem dX5_vector_142 : decode cX5_vector 142 = .ok (.ireturn, 1) := by decide +kernel
theorem dX5_vector_143 : decode cX5_vector 143 = .ok (.aload_n 3, 1) := by decide +kernel
theorem dX5_vector_144 : decode cX5_vector 144 = .ok (.invokevirtual 171, 3) := by decide +kernel
theorem dX5_vector_147 : decode cX5_vector 147 = .ok (.ireturn, 1) := by decide +kernel
theorem dX5_vector_148 : decode cX5_vector 148 = .ok (.bipush (-2), 2) := by decide +kernel
theorem dX5_vector_150 : decode cX5_vector 150 = .ok (.ireturn, 1) := by decide +kernel
set_option maxRecDepth 20000 in
theorem ggX5_block_X2_viewOf : GoodIn wsX5_block wsX2_viewOf := goodIn_r _ [7, 8, 27, 28, 29, 30, 31] (by decide +kernel) (by decide +kernel)
set_option maxRecDepth 20000 in
theorem gX5_block_X2_viewOf : GoodIn wsX5_block (wsV RX5 51 RX2 yX2_viewOf wsX2_viewOf) := goodIn_app (goodIn_of _ (by decide +kernel)) ggX5_block_X2_viewOf
set_option maxRecDepth 20000 in
theorem ggX5_block_X1_numberAt : GoodIn wsX5_block wsX1_numberAt := goodIn_r _ [13, 14, 15, 16, 12, 17, 32, 33, 34] (by decide +kernel) (by decide +kernel)
set_option maxRecDepth 20000 in
theorem gX5_block_X1_numberAt : GoodIn wsX5_block (wsV RX5 174 RX1 yX1_numberAt wsX1_numberAt) := goodIn_app (goodIn_of _ (by decide +kernel)) ggX5_block_X1_numberAt
theorem dX5_block_0 : decode cX5_block 0 = .ok (.aload_n 0, 1) := by decide +kernel
theorem dX5_block_1 : decode cX5_block 1 = .ok (.getfield 10, 3) := by decide +kernel
theorem dX5_block_4 : decode cX5_block 4 = .ok (.iload_n 1, 1) := by decide +kernel
theorem dX5_block_5 : decode cX5_block 5 = .ok (.invokevirtual 51, 3) := by decide +kernel
theorem dX5_block_8 : decode cX5_block 8 = .ok (.astore 4, 2) := by decide +kernel
theorem dX5_block_10 : decode cX5_block 10 = .ok (.aload 4, 2) := by decide +kernel
theorem dX5_block_12 : decode cX5_block 12 = .ok (.ifnonnull 5, 3) := by decide +kernel
theorem dX5_block_15 : decode cX5_block 15 = .ok (.iconst (-1), 1) := by decide +kernel
theorem dX5_block_16 : decode cX5_block 16 = .ok (.ireturn, 1) := by decide +kernel
theorem dX5_block_17 : decode cX5_block 17 = .ok (.iload_n 2, 1) := by decide +kernel
theorem dX5_block_18 : decode cX5_block 18 = .ok (.ifCond .lt 7, 3) := by decide +kernel
theorem dX5_block_21 : decode cX5_block 21 = .ok (.iload_n 3, 1) := by decide +kernel
theorem dX5_block_22 : decode cX5_block 22 = .ok (.ifCond .ge 6, 3) := by decide +kernel
theorem dX5_block_25 : decode cX5_block 25 = .ok (.bipush (-2), 2) := by decide +kernel
theorem dX5_block_27 : decode cX5_block 27 = .ok (.ireturn, 1) := by decide +kernel
theorem dX5_block_28 : decode cX5_block 28 = .ok (.aload 4, 2) := by decide +kernel
theorem dX5_block_30 : decode cX5_block 30 = .ok (.getfield 71, 3) := by decide +kernel
theorem dX5_block_33 : decode cX5_block 33 = .ok (.iload_n 2, 1) := by decide +kernel
theorem dX5_block_34 : decode cX5_block 34 = .ok (.iload_n 3, 1) := by decide +kernel
theorem dX5_block_35 : decode cX5_block 35 = .ok (.invokevirtual 174, 3) := by decide +kernel
theorem dX5_block_38 : decode cX5_block 38 = .ok (.ireturn, 1) := by decide +kernel
set_option maxRecDepth 20000 in
theorem ggX5_shared_X2_viewOf : GoodIn wsX5_shared wsX2_viewOf := goodIn_r _ [7, 8, 28, 29, 30, 31, 32] (by decide +kernel) (by decide +kernel)
set_option maxRecDepth 20000 in
theorem gX5_shared_X2_viewOf : GoodIn wsX5_shared (wsV RX5 51 RX2 yX2_viewOf wsX2_viewOf) := goodIn_app (goodIn_of _ (by decide +kernel)) ggX5_shared_X2_viewOf
set_option maxRecDepth 20000 in
theorem ggX5_shared_X1_sharedWith : GoodIn wsX5_shared wsX1_sharedWith := goodIn_r _ [13, 14, 15, 16, 17, 12, 18, 33, 34, 35] (by decide +kernel) (by decide +kernel)
set_option maxRecDepth 20000 in
theorem gX5_shared_X1_sharedWith : GoodIn wsX5_shared (wsV RX5 178 RX1 yX1_sharedWith wsX1_sharedWith) := goodIn_app (goodIn_of _ (by decide +kernel)) ggX5_shared_X1_sharedWith
theorem dX5_shared_0 : decode cX5_shared 0 = .ok (.aload_n 0, 1) := by decide +kernel
theorem dX5_shared_1 : decode cX5_shared 1 = .ok (.getfield 10, 3) := by decide +kernel
theorem dX5_shared_4 : decode cX5_shared 4 = .ok (.iload_n 1, 1) := by decide +kernel
theorem dX5_shared_5 : decode cX5_shared 5 = .ok (.invokevirtual 51, 3) := by decide +kernel
theorem dX5_shared_8 : decode cX5_shared 8 = .ok (.astore_n 3, 1) := by decide +kernel
theorem dX5_shared_9 : decode cX5_shared 9 = .ok (.aload_n 0, 1) := by decide +kernel
theorem dX5_shared_10 : decode cX5_shared 10 = .ok (.getfield 10, 3) := by decide +kernel
theorem dX5_shared_13 : decode cX5_shared 13 = .ok (.iload_n 2, 1) := by decide +kernel
theorem dX5_shared_14 : decode cX5_shared 14 = .ok (.invokevirtual 51, 3) := by decide +kernel
theorem dX5_shared_17 : decode cX5_shared 17 = .ok (.astore 4, 2) := by decide +kernel
theorem dX5_shared_19 : decode cX5_shared 19 = .ok (.aload_n 3, 1) := by decide +kernel
theorem dX5_shared_20 : decode cX5_shared 20 = .ok (.ifnull 8, 3) := by decide +kernel
theorem dX5_shared_23 : decode cX5_shared 23 = .ok (.aload 4, 2) := by decide +kernel
theorem dX5_shared_25 : decode cX5_shared 25 = .ok (.ifnonnull 5, 3) := by decide +kernel
theorem dX5_shared_28 : decode cX5_shared 28 = .ok (.iconst (-1), 1) := by decide +kernel
theorem dX5_shared_29 : decode cX5_shared 29 = .ok (.ireturn, 1) := by decide +kernel
theorem dX5_shared_30 : decode cX5_shared 30 = .ok (.aload_n 3, 1) := by decide +kernel
theorem dX5_shared_31 : decode cX5_shared 31 = .ok (.getfield 71, 3) := by decide +kernel
theorem dX5_shared_34 : decode cX5_shared 34 = .ok (.aload 4, 2) := by decide +kernel
theorem dX5_shared_36 : decode cX5_shared 36 = .ok (.getfield 71, 3) := by decide +kernel
theorem dX5_shared_39 : decode cX5_shared 39 = .ok (.invokevirtual 178, 3) := by decide +kernel
theorem dX5_shared_42 : decode cX5_shared 42 = .ok (.ireturn, 1) := by decide +kernel
set_option maxRecDepth 20000 in
theorem ggX5_differ_X2_viewOf : GoodIn wsX5_differ wsX2_viewOf := goodIn_r _ [6, 7, 30, 31, 32, 33, 34] (by decide +kernel) (by decide +kernel)
set_option maxRecDepth 20000 in
theorem gX5_differ_X2_viewOf : GoodIn wsX5_differ (wsV RX5 51 RX2 yX2_viewOf wsX2_viewOf) := goodIn_app (goodIn_of _ (by decide +kernel)) ggX5_differ_X2_viewOf
set_option maxRecDepth 20000 in
theorem ggX5_differ_X4_firstDifference : GoodIn wsX5_differ wsX4_firstDifference := goodIn_r _ [12, 13, 14, 15, 16, 17, 18, 19, 20, 11, 21, 22, 23, 24, 35, 36, 37, 38, 39, 40, 41] (by decide +kernel) (by decide +kernel)
set_option maxRecDepth 20000 in
theorem gX5_differ_X4_firstDifference : GoodIn wsX5_differ (wsV RX5 181 RX4 yX4_firstDifference wsX4_firstDifference) := goodIn_app (goodIn_of _ (by decide +kernel)) ggX5_differ_X4_firstDifference
theorem dX5_differ_0 : decode cX5_differ 0 = .ok (.aload_n 0, 1) := by decide +kernel
theorem dX5_differ_1 : decode cX5_differ 1 = .ok (.getfield 10, 3) := by decide +kernel
theorem dX5_differ_4 : decode cX5_differ 4 = .ok (.iload_n 1, 1) := by decide +kernel
theorem dX5_differ_5 : decode cX5_differ 5 = .ok (.invokevirtual 51, 3) := by decide +kernel
theorem dX5_differ_8 : decode cX5_differ 8 = .ok (.astore_n 3, 1) := by decide +kernel
theorem dX5_differ_9 : decode cX5_differ 9 = .ok (.aload_n 0, 1) := by decide +kernel
theorem dX5_differ_10 : decode cX5_differ 10 = .ok (.getfield 10, 3) := by decide +kernel
theorem dX5_differ_13 : decode cX5_differ 13 = .ok (.iload_n 2, 1) := by decide +kernel
theorem dX5_differ_14 : decode cX5_differ 14 = .ok (.invokevirtual 51, 3) := by decide +kernel
theorem dX5_differ_17 : decode cX5_differ 17 = .ok (.astore 4, 2) := by decide +kernel
theorem dX5_differ_19 : decode cX5_differ 19 = .ok (.aload_n 3, 1) := by decide +kernel
theorem dX5_differ_20 : decode cX5_differ 20 = .ok (.ifnull 8, 3) := by decide +kernel
theorem dX5_differ_23 : decode cX5_differ 23 = .ok (.aload 4, 2) := by decide +kernel
theorem dX5_differ_25 : decode cX5_differ 25 = .ok (.ifnonnull 5, 3) := by decide +kernel
theorem dX5_differ_28 : decode cX5_differ 28 = .ok (.iconst (-1), 1) := by decide +kernel
theorem dX5_differ_29 : decode cX5_differ 29 = .ok (.ireturn, 1) := by decide +kernel
theorem dX5_differ_30 : decode cX5_differ 30 = .ok (.aload_n 3, 1) := by decide +kernel
theorem dX5_differ_31 : decode cX5_differ 31 = .ok (.aload 4, 2) := by decide +kernel
theorem dX5_differ_33 : decode cX5_differ 33 = .ok (.invokevirtual 181, 3) := by decide +kernel
theorem dX5_differ_36 : decode cX5_differ 36 = .ok (.ireturn, 1) := by decide +kernel
set_option maxRecDepth 20000 in
theorem ggX5_find_X2_viewOf : GoodIn wsX5_find wsX2_viewOf := goodIn_r _ [6, 7, 26, 27, 28, 29, 30] (by decide +kernel) (by decide +kernel)
set_option maxRecDepth 20000 in
theorem gX5_find_X2_viewOf : GoodIn wsX5_find (wsV RX5 51 RX2 yX2_viewOf wsX2_viewOf) := goodIn_app (goodIn_of _ (by decide +kernel)) ggX5_find_X2_viewOf
set_option maxRecDepth 20000 in
theorem ggX5_find_X4_placeOf : GoodIn wsX5_find wsX4_placeOf := goodIn_r _ [12, 13, 14, 15, 16, 11, 17, 18, 19, 20, 31, 32, 33, 34, 35, 36, 37] (by decide +kernel) (by decide +kernel)
set_option maxRecDepth 20000 in
theorem gX5_find_X4_placeOf : GoodIn wsX5_find (wsV RX5 184 RX4 yX4_placeOf wsX4_placeOf) := goodIn_app (goodIn_of _ (by decide +kernel)) ggX5_find_X4_placeOf
theorem dX5_find_0 : decode cX5_find 0 = .ok (.aload_n 0, 1) := by decide +kernel
theorem dX5_find_1 : decode cX5_find 1 = .ok (.getfield 10, 3) := by decide +kernel
theorem dX5_find_4 : decode cX5_find 4 = .ok (.iload_n 1, 1) := by decide +kernel
theorem dX5_find_5 : decode cX5_find 5 = .ok (.invokevirtual 51, 3) := by decide +kernel
theorem dX5_find_8 : decode cX5_find 8 = .ok (.astore 4, 2) := by decide +kernel
theorem dX5_find_10 : decode cX5_find 10 = .ok (.aload 4, 2) := by decide +kernel
theorem dX5_find_12 : decode cX5_find 12 = .ok (.ifnonnull 5, 3) := by decide +kernel
theorem dX5_find_15 : decode cX5_find 15 = .ok (.iconst (-1), 1) := by decide +kernel
theorem dX5_find_16 : decode cX5_find 16 = .ok (.ireturn, 1) := by decide +kernel
theorem dX5_find_17 : decode cX5_find 17 = .ok (.iload_n 3, 1) := by decide +kernel
theorem dX5_find_18 : decode cX5_find 18 = .ok (.ifCond .ge 6, 3) := by decide +kernel
theorem dX5_find_21 : decode cX5_find 21 = .ok (.bipush (-2), 2) := by decide +kernel
theorem dX5_find_23 : decode cX5_find 23 = .ok (.ireturn, 1) := by decide +kernel
theorem dX5_find_24 : decode cX5_find 24 = .ok (.aload 4, 2) := by decide +kernel
theorem dX5_find_26 : decode cX5_find 26 = .ok (.iload_n 2, 1) := by decide +kernel
theorem dX5_find_27 : decode cX5_find 27 = .ok (.iload_n 3, 1) := by decide +kernel
theorem dX5_find_28 : decode cX5_find 28 = .ok (.invokevirtual 184, 3) := by decide +kernel
theorem dX5_find_31 : decode cX5_find 31 = .ok (.ireturn, 1) := by decide +kernel
set_option maxRecDepth 20000 in
theorem ggX5_wouldMake_X2_viewOf : GoodIn wsX5_wouldMake wsX2_viewOf := goodIn_r _ [11, 12, 98, 99, 100, 101, 102] (by decide +kernel) (by decide +kernel)
set_option maxRecDepth 20000 in
theorem gX5_wouldMake_X2_viewOf : GoodIn wsX5_wouldMake (wsV RX5 51 RX2 yX2_viewOf wsX2_viewOf) := goodIn_app (goodIn_of _ (by decide +kernel)) ggX5_wouldMake_X2_viewOf
set_option maxRecDepth 20000 in
theorem ggX5_wouldMake_X1_copy : GoodIn wsX5_wouldMake wsX1_copy := goodIn_r _ [17, 18, 19, 16, 20, 21, 22, 23, 24, 25, 26, 27, 28, 29, 30, 31, 32, 33, 34, 35, 36, 37, 38, 39, 40, 95, 96, 97] (by decide +kernel) (by decide +kernel)
set_option maxRecDepth 20000 in
theorem gX5_wouldMake_X1_copy : GoodIn wsX5_wouldMake (wsV RX5 187 RX1 yX1_copy wsX1_copy) := goodIn_app (goodIn_of _ (by decide +kernel)) ggX5_wouldMake_X1_copy
set_option maxRecDepth 20000 in
theorem ggX5_wouldMake_X1_write : GoodIn wsX5_wouldMake wsX1_write := goodIn_r _ [44, 20, 21, 45, 46, 47, 16, 48, 49, 50, 51, 52, 53, 54, 55, 56, 57, 58, 59, 60, 61, 62, 63, 64, 65, 66, 67, 68, 69, 70, 26, 95, 96, 97] (by decide +kernel) (by decide +kernel)
set_option maxRecDepth 20000 in
theorem gX5_wouldMake_X1_write : GoodIn wsX5_wouldMake (wsV RX5 192 RX1 yX1_write wsX1_write) := goodIn_app (goodIn_of _ (by decide +kernel)) ggX5_wouldMake_X1_write
set_option maxRecDepth 20000 in
theorem ggX5_wouldMake_X1_removeLast : GoodIn wsX5_wouldMake wsX1_removeLast := goodIn_r _ [74, 20, 45, 46, 47, 16, 48, 49, 50, 51, 52, 75, 76, 77, 78, 57, 58, 59, 64, 65, 66, 79, 80, 81, 82, 83, 84, 85, 26, 67, 68, 69, 70, 95, 96, 97] (by decide +kernel) (by decide +kernel)
set_option maxRecDepth 20000 in
theorem gX5_wouldMake_X1_removeLast : GoodIn wsX5_wouldMake (wsV RX5 196 RX1 yX1_removeLast wsX1_removeLast) := goodIn_app (goodIn_of _ (by decide +kernel)) ggX5_wouldMake_X1_removeLast
theorem dX5_wouldMake_0 : decode cX5_wouldMake 0 = .ok (.aload_n 0, 1) := by decide +kernel
theorem dX5_wouldMake_1 : decode cX5_wouldMake 1 = .ok (.getfield 10, 3) := by decide +kernel
theorem dX5_wouldMake_4 : decode cX5_wouldMake 4 = .ok (.iload_n 1, 1) := by decide +kernel
theorem dX5_wouldMake_5 : decode cX5_wouldMake 5 = .ok (.invokevirtual 51, 3) := by decide +kernel
theorem dX5_wouldMake_8 : decode cX5_wouldMake 8 = .ok (.astore_n 3, 1) := by decide +kernel
theorem dX5_wouldMake_9 : decode cX5_wouldMake 9 = .ok (.aload_n 3, 1) := by decide +kernel
theorem dX5_wouldMake_10 : decode cX5_wouldMake 10 = .ok (.ifnonnull 5, 3) := by decide +kernel
theorem dX5_wouldMake_13 : decode cX5_wouldMake 13 = .ok (.iconst (-1), 1) := by decide +kernel
theorem dX5_wouldMake_14 : decode cX5_wouldMake 14 = .ok (.ireturn, 1) := by decide +kernel
theorem dX5_wouldMake_15 : decode cX5_wouldMake 15 = .ok (.iload_n 2, 1) := by decide +kernel
theorem dX5_wouldMake_16 : decode cX5_wouldMake 16 = .ok (.ifCond .lt 8, 3) := by decide +kernel
theorem dX5_wouldMake_19 : decode cX5_wouldMake 19 = .ok (.iload_n 2, 1) := by decide +kernel
theorem dX5_wouldMake_20 : decode cX5_wouldMake 20 = .ok (.iconst 2, 1) := by decide +kernel
theorem dX5_wouldMake_21 : decode cX5_wouldMake 21 = .ok (.if_icmp .le 6, 3) := by decide +kernel
theorem dX5_wouldMake_24 : decode cX5_wouldMake 24 = .ok (.bipush (-2), 2) := by decide +kernel
theorem dX5_wouldMake_26 : decode cX5_wouldMake 26 = .ok (.ireturn, 1) := by decide +kernel
theorem dX5_wouldMake_27 : decode cX5_wouldMake 27 = .ok (.aload_n 3, 1) := by decide +kernel
theorem dX5_wouldMake_28 : decode cX5_wouldMake 28 = .ok (.getfield 71, 3) := by decide +kernel
theorem dX5_wouldMake_31 : decode cX5_wouldMake 31 = .ok (.getfield 109, 3) := by decide +kernel
theorem dX5_wouldMake_34 : decode cX5_wouldMake 34 = .ok (.istore 4, 2) := by decide +kernel
theorem dX5_wouldMake_36 : decode cX5_wouldMake 36 = .ok (.aload_n 3, 1) := by decide +kernel
theorem dX5_wouldMake_37 : decode cX5_wouldMake 37 = .ok (.getfield 79, 3) := by decide +kernel
theorem dX5_wouldMake_40 : decode cX5_wouldMake 40 = .ok (.ifCond .ne 23, 3) := by decide +kernel
theorem dX5_wouldMake_43 : decode cX5_wouldMake 43 = .ok (.iload_n 2, 1) := by decide +kernel
theorem dX5_wouldMake_44 : decode cX5_wouldMake 44 = .ok (.ifCond .ne 14, 3) := by decide +kernel
theorem dX5_wouldMake_47 : decode cX5_wouldMake 47 = .ok (.iload 4, 2) := by decide +kernel
theorem dX5_wouldMake_49 : decode cX5_wouldMake 49 = .ok (.sipush 300, 3) := by decide +kernel
theorem dX5_wouldMake_52 : decode cX5_wouldMake 52 = .ok (.if_icmp .lt 14, 3) := by decide +kernel
theorem dX5_wouldMake_55 : decode cX5_wouldMake 55 = .ok (.goto 8, 3) := by decide +kernel
theorem dX5_wouldMake_58 : decode cX5_wouldMake 58 = .ok (.iload 4, 2) := by decide +kernel
theorem dX5_wouldMake_60 : decode cX5_wouldMake 60 = .ok (.ifCond .ne 6, 3) := by decide +kernel
theorem dX5_wouldMake_63 : decode cX5_wouldMake 63 = .ok (.bipush (-4), 2) := by decide +kernel
theorem dX5_wouldMake_65 : decode cX5_wouldMake 65 = .ok (.ireturn, 1) := by decide +kernel
theorem dX5_wouldMake_66 : decode cX5_wouldMake 66 = .ok (.aload_n 3, 1) := by decide +kernel
theorem dX5_wouldMake_67 : decode cX5_wouldMake 67 = .ok (.getfield 71, 3) := by decide +kernel
theorem dX5_wouldMake_70 : decode cX5_wouldMake 70 = .ok (.iconst 1, 1) := by decide +kernel
theorem dX5_wouldMake_71 : decode cX5_wouldMake 71 = .ok (.invokevirtual 187, 3) := by decide +kernel
theorem dX5_wouldMake_74 : decode cX5_wouldMake 74 = .ok (.astore 5, 2) := by decide +kernel
theorem dX5_wouldMake_76 : decode cX5_wouldMake 76 = .ok (.iload_n 2, 1) := by decide +kernel
theorem dX5_wouldMake_77 : decode cX5_wouldMake 77 = .ok (.lookupswitch 60 #[(0, 27), (1, 45)], 27) := by decide +kernel
theorem dX5_wouldMake_104 : decode cX5_wouldMake 104 = .ok (.aload 5, 2) := by decide +kernel
theorem dX5_wouldMake_106 : decode cX5_wouldMake 106 = .ok (.iload 4, 2) := by decide +kernel
theorem dX5_wouldMake_108 : decode cX5_wouldMake 108 = .ok (.iconst 0, 1) := by decide +kernel
theorem dX5_wouldMake_109 : decode cX5_wouldMake 109 = .ok (.aload_n 0, 1) := by decide +kernel
theorem dX5_wouldMake_110 : decode cX5_wouldMake 110 = .ok (.getfield 10, 3) := by decide +kernel
theorem dX5_wouldMake_113 : decode cX5_wouldMake 113 = .ok (.getfield 149, 3) := by decide +kernel
theorem dX5_wouldMake_116 : decode cX5_wouldMake 116 = .ok (.ldc 191, 2) := by decide +kernel
theorem dX5_wouldMake_118 : decode cX5_wouldMake 118 = .ok (.invokevirtual 192, 3) := by decide +kernel
theorem dX5_wouldMake_121 : decode cX5_wouldMake 121 = .ok (.ireturn, 1) := by decide +kernel
theorem dX5_wouldMake_122 : decode cX5_wouldMake 122 = .ok (.aload 5, 2) := by decide +kernel
theorem dX5_wouldMake_124 : decode cX5_wouldMake 124 = .ok (.aload_n 0, 1) := by decide +kernel
theorem dX5_wouldMake_125 : decode cX5_wouldMake 125 = .ok (.getfield 10, 3) := by decide +kernel
theorem dX5_wouldMake_128 : decode cX5_wouldMake 128 = .ok (.getfield 149, 3) := by decide +kernel
theorem dX5_wouldMake_131 : decode cX5_wouldMake 131 = .ok (.ldc 191, 2) := by decide +kernel
theorem dX5_wouldMake_133 : decode cX5_wouldMake 133 = .ok (.invokevirtual 196, 3) := by decide +kernel
theorem dX5_wouldMake_136 : decode cX5_wouldMake 136 = .ok (.ireturn, 1) := by decide +kernel
theorem dX5_wouldMake_137 : decode cX5_wouldMake 137 = .ok (.aload 5, 2) := by decide +kernel
theorem dX5_wouldMake_139 : decode cX5_wouldMake 139 = .ok (.iconst 0, 1) := by decide +kernel
theorem dX5_wouldMake_140 : decode cX5_wouldMake 140 = .ok (.iconst 0, 1) := by decide +kernel
theorem dX5_wouldMake_141 : decode cX5_wouldMake 141 = .ok (.aload_n 0, 1) := by decide +kernel
theorem dX5_wouldMake_142 : decode cX5_wouldMake 142 = .ok (.getfield 10, 3) := by decide +kernel
theorem dX5_wouldMake_145 : decode cX5_wouldMake 145 = .ok (.getfield 149, 3) := by decide +kernel
theorem dX5_wouldMake_148 : decode cX5_wouldMake 148 = .ok (.ldc 191, 2) := by decide +kernel
theorem dX5_wouldMake_150 : decode cX5_wouldMake 150 = .ok (.invokevirtual 192, 3) := by decide +kernel
theorem dX5_wouldMake_153 : decode cX5_wouldMake 153 = .ok (.ireturn, 1) := by decide +kernel
set_option maxRecDepth 20000 in
theorem ggX5_edit_X1_blocksFrom : GoodIn wsX5_edit wsX1_blocksFrom := goodIn_r _ [9, 10, 67, 68, 69] (by decide +kernel) (by decide +kernel)
set_option maxRecDepth 20000 in
theorem gX5_edit_X1_blocksFrom : GoodIn wsX5_edit (wsV RX5 202 RX1 yX1_blocksFrom wsX1_blocksFrom) := goodIn_app (goodIn_of _ (by decide +kernel)) ggX5_edit_X1_blocksFrom
set_option maxRecDepth 20000 in
theorem ggX5_edit_X1_blocks : GoodIn wsX5_edit wsX1_blocks := goodIn_r _ [14, 15, 6, 7, 8, 9, 10, 67, 68, 69] (by decide +kernel) (by decide +kernel)
set_option maxRecDepth 20000 in
theorem gX5_edit_X1_blocks : GoodIn wsX5_edit (wsV RX5 159 RX1 yX1_blocks wsX1_blocks) := goodIn_app (goodIn_of _ (by decide +kernel)) ggX5_edit_X1_blocks
set_option maxRecDepth 20000 in
theorem ggX5_edit_X2_blocksNotIn : GoodIn wsX5_edit wsX2_blocksNotIn := goodIn_r _ [20, 21, 22, 23, 24, 19, 25, 26, 27, 28, 29, 30, 31, 32, 33, 34, 35, 36, 37, 38, 39, 8, 40, 10, 67, 68, 69, 70, 71, 72, 73, 62, 63, 64, 65, 66] (by decide +kernel) (by decide +kernel)
set_option maxRecDepth 20000 in
theorem gX5_edit_X2_blocksNotIn : GoodIn wsX5_edit (wsV RX5 205 RX2 yX2_blocksNotIn wsX2_blocksNotIn) := goodIn_app (goodIn_of _ (by decide +kernel)) ggX5_edit_X2_blocksNotIn
set_option maxRecDepth 20000 in
theorem ggX5_edit_X1_leaves : GoodIn wsX5_edit wsX1_leaves := goodIn_r _ [44, 45, 67, 68, 69] (by decide +kernel) (by decide +kernel)
set_option maxRecDepth 20000 in
theorem gX5_edit_X1_leaves : GoodIn wsX5_edit (wsV RX5 156 RX1 yX1_leaves wsX1_leaves) := goodIn_app (goodIn_of _ (by decide +kernel)) ggX5_edit_X1_leaves
set_option maxRecDepth 20000 in
theorem ggX5_edit_X5_rootLevel : GoodIn wsX5_edit wsX5_rootLevel := goodIn_r _ [49] (by decide +kernel) (by decide +kernel)
set_option maxRecDepth 20000 in
theorem gX5_edit_X5_rootLevel : GoodIn wsX5_edit (va_wsS RX5 162 yX5_rootLevel wsX5_rootLevel) := goodIn_app (goodIn_of _ (by decide +kernel)) ggX5_edit_X5_rootLevel
set_option maxRecDepth 20000 in
theorem ggX5_edit_X1_numberAt : GoodIn wsX5_edit wsX1_numberAt := goodIn_r _ [53, 10, 54, 55, 8, 56, 67, 68, 69] (by decide +kernel) (by decide +kernel)
set_option maxRecDepth 20000 in
theorem gX5_edit_X1_numberAt : GoodIn wsX5_edit (wsV RX5 174 RX1 yX1_numberAt wsX1_numberAt) := goodIn_app (goodIn_of _ (by decide +kernel)) ggX5_edit_X1_numberAt
theorem dX5_edit_0 : decode cX5_edit 0 = .ok (.iload_n 1, 1) := by decide +kernel
theorem dX5_edit_1 : decode cX5_edit 1 = .ok (.ifCond .lt 8, 3) := by decide +kernel
theorem dX5_edit_4 : decode cX5_edit 4 = .ok (.iload_n 1, 1) := by decide +kernel
theorem dX5_edit_5 : decode cX5_edit 5 = .ok (.iconst 4, 1) := by decide +kernel
theorem dX5_edit_6 : decode cX5_edit 6 = .ok (.if_icmp .le 6, 3) := by decide +kernel
theorem dX5_edit_9 : decode cX5_edit 9 = .ok (.bipush (-2), 2) := by decide +kernel
theorem dX5_edit_11 : decode cX5_edit 11 = .ok (.ireturn, 1) := by decide +kernel
theorem dX5_edit_12 : decode cX5_edit 12 = .ok (.aload_n 0, 1) := by decide +kernel
theorem dX5_edit_13 : decode cX5_edit 13 = .ok (.getfield 10, 3) := by decide +kernel
theorem dX5_edit_16 : decode cX5_edit 16 = .ok (.getfield 102, 3) := by decide +kernel
theorem dX5_edit_19 : decode cX5_edit 19 = .ok (.astore_n 2, 1) := by decide +kernel
theorem dX5_edit_20 : decode cX5_edit 20 = .ok (.aload_n 2, 1) := by decide +kernel
theorem dX5_edit_21 : decode cX5_edit 21 = .ok (.ifnonnull 6, 3) := by decide +kernel
theorem dX5_edit_24 : decode cX5_edit 24 = .ok (.bipush (-4), 2) := by decide +kernel
theorem dX5_edit_26 : decode cX5_edit 26 = .ok (.ireturn, 1) := by decide +kernel
theorem dX5_edit_27 : decode cX5_edit 27 = .ok (.iload_n 1, 1) := by decide +kernel
theorem dX5_edit_28 : decode cX5_edit 28 = .ok (.tableswitch 70 0 3 #[32, 37, 49, 54], 32) := by decide +kernel
theorem dX5_edit_60 : decode cX5_edit 60 = .ok (.aload_n 2, 1) := by decide +kernel
theorem dX5_edit_61 : decode cX5_edit 61 = .ok (.getfield 109, 3) := by decide +kernel
theorem dX5_edit_64 : decode cX5_edit 64 = .ok (.ireturn, 1) := by decide +kernel
theorem dX5_edit_65 : decode cX5_edit 65 = .ok (.aload_n 2, 1) := by decide +kernel
theorem dX5_edit_66 : decode cX5_edit 66 = .ok (.aload_n 0, 1) := by decide +kernel
theorem dX5_edit_67 : decode cX5_edit 67 = .ok (.getfield 10, 3) := by decide +kernel
theorem dX5_edit_70 : decode cX5_edit 70 = .ok (.getfield 199, 3) := by decide +kernel
theorem dX5_edit_73 : decode cX5_edit 73 = .ok (.invokevirtual 202, 3) := by decide +kernel
theorem dX5_edit_76 : decode cX5_edit 76 = .ok (.ireturn, 1) := by decide +kernel
theorem dX5_edit_77 : decode cX5_edit 77 = .ok (.aload_n 2, 1) := by decide +kernel
theorem dX5_edit_78 : decode cX5_edit 78 = .ok (.invokevirtual 159, 3) := by decide +kernel
theorem dX5_edit_81 : decode cX5_edit 81 = .ok (.ireturn, 1) := by decide +kernel
theorem dX5_edit_82 : decode cX5_edit 82 = .ok (.aload_n 2, 1) := by decide +kernel
theorem dX5_edit_83 : decode cX5_edit 83 = .ok (.invokevirtual 159, 3) := by decide +kernel
theorem dX5_edit_86 : decode cX5_edit 86 = .ok (.aload_n 0, 1) := by decide +kernel
theorem dX5_edit_87 : decode cX5_edit 87 = .ok (.getfield 10, 3) := by decide +kernel
theorem dX5_edit_90 : decode cX5_edit 90 = .ok (.bipush 24, 2) := by decide +kernel
theorem dX5_edit_92 : decode cX5_edit 92 = .ok (.aload_n 2, 1) := by decide +kernel
theorem dX5_edit_93 : decode cX5_edit 93 = .ok (.invokevirtual 205, 3) := by decide +kernel
theorem dX5_edit_96 : decode cX5_edit 96 = .ok (.isub, 1) := by decide +kernel
theorem dX5_edit_97 : decode cX5_edit 97 = .ok (.ireturn, 1) := by decide +kernel
theorem dX5_edit_98 : decode cX5_edit 98 = .ok (.aload_n 2, 1) := by decide +kernel
theorem dX5_edit_99 : decode cX5_edit 99 = .ok (.aload_n 2, 1) := by decide +kernel
theorem dX5_edit_100 : decode cX5_edit 100 = .ok (.invokevirtual 156, 3) := by decide +kernel
theorem dX5_edit_103 : decode cX5_edit 103 = .ok (.invokestatic 162, 3) := by decide +kernel
theorem dX5_edit_106 : decode cX5_edit 106 = .ok (.iconst 0, 1) := by decide +kernel
theorem dX5_edit_107 : decode cX5_edit 107 = .ok (.invokevirtual 174, 3) := by decide +kernel
theorem dX5_edit_110 : decode cX5_edit 110 = .ok (.ireturn, 1) := by decide +kernel
set_option maxRecDepth 20000 in
theorem ggX5_count_X2_viewsLeft : GoodIn wsX5_count wsX2_viewsLeft := goodIn_r _ [13, 14, 54, 55, 56, 57, 58] (by decide +kernel) (by decide +kernel)
set_option maxRecDepth 20000 in
theorem gX5_count_X2_viewsLeft : GoodIn wsX5_count (wsV RX5 99 RX2 yX2_viewsLeft wsX2_viewsLeft) := goodIn_app (goodIn_of _ (by decide +kernel)) ggX5_count_X2_viewsLeft
set_option maxRecDepth 20000 in
theorem ggX5_count_X2_blocksInUse : GoodIn wsX5_count wsX2_blocksInUse := goodIn_r _ [18, 19, 20, 21, 12, 22, 23, 24, 25, 26, 27, 28, 14, 29, 30, 31, 32, 33, 34, 35, 36, 37, 38, 39, 40, 41, 42, 43, 63, 64, 65, 66, 54, 55, 56, 57, 58, 67, 68, 69] (by decide +kernel) (by decide +kernel)
set_option maxRecDepth 20000 in
theorem gX5_count_X2_blocksInUse : GoodIn wsX5_count (wsV RX5 212 RX2 yX2_blocksInUse wsX2_blocksInUse) := goodIn_app (goodIn_of _ (by decide +kernel)) ggX5_count_X2_blocksInUse
set_option maxRecDepth 20000 in
theorem ggX5_count_X2_valuesShown : GoodIn wsX5_count wsX2_valuesShown := goodIn_r _ [47, 14, 48, 54, 55, 56, 57, 58, 63, 64, 65, 66] (by decide +kernel) (by decide +kernel)
set_option maxRecDepth 20000 in
theorem gX5_count_X2_valuesShown : GoodIn wsX5_count (wsV RX5 215 RX2 yX2_valuesShown wsX2_valuesShown) := goodIn_app (goodIn_of _ (by decide +kernel)) ggX5_count_X2_valuesShown
theorem dX5_count_0 : decode cX5_count 0 = .ok (.iload_n 1, 1) := by decide +kernel
theorem dX5_count_1 : decode cX5_count 1 = .ok (.tableswitch 139 0 8 #[51, 59, 67, 75, 83, 99, 115, 123, 131], 51) := by decide +kernel
theorem dX5_count_52 : decode cX5_count 52 = .ok (.aload_n 0, 1) := by decide +kernel
theorem dX5_count_53 : decode cX5_count 53 = .ok (.getfield 10, 3) := by decide +kernel
theorem dX5_count_56 : decode cX5_count 56 = .ok (.getfield 209, 3) := by decide +kernel
theorem dX5_count_59 : decode cX5_count 59 = .ok (.ireturn, 1) := by decide +kernel
theorem dX5_count_60 : decode cX5_count 60 = .ok (.aload_n 0, 1) := by decide +kernel
theorem dX5_count_61 : decode cX5_count 61 = .ok (.getfield 10, 3) := by decide +kernel
theorem dX5_count_64 : decode cX5_count 64 = .ok (.invokevirtual 99, 3) := by decide +kernel
theorem dX5_count_67 : decode cX5_count 67 = .ok (.ireturn, 1) := by decide +kernel
theorem dX5_count_68 : decode cX5_count 68 = .ok (.aload_n 0, 1) := by decide +kernel
theorem dX5_count_69 : decode cX5_count 69 = .ok (.getfield 10, 3) := by decide +kernel
theorem dX5_count_72 : decode cX5_count 72 = .ok (.getfield 149, 3) := by decide +kernel
theorem dX5_count_75 : decode cX5_count 75 = .ok (.ireturn, 1) := by decide +kernel
theorem dX5_count_76 : decode cX5_count 76 = .ok (.aload_n 0, 1) := by decide +kernel
theorem dX5_count_77 : decode cX5_count 77 = .ok (.getfield 10, 3) := by decide +kernel
theorem dX5_count_80 : decode cX5_count 80 = .ok (.invokevirtual 212, 3) := by decide +kernel
theorem dX5_count_83 : decode cX5_count 83 = .ok (.ireturn, 1) := by decide +kernel
theorem dX5_count_84 : decode cX5_count 84 = .ok (.aload_n 0, 1) := by decide +kernel
theorem dX5_count_85 : decode cX5_count 85 = .ok (.getfield 10, 3) := by decide +kernel
theorem dX5_count_88 : decode cX5_count 88 = .ok (.getfield 149, 3) := by decide +kernel
theorem dX5_count_91 : decode cX5_count 91 = .ok (.aload_n 0, 1) := by decide +kernel
theorem dX5_count_92 : decode cX5_count 92 = .ok (.getfield 10, 3) := by decide +kernel
theorem dX5_count_95 : decode cX5_count 95 = .ok (.invokevirtual 212, 3) := by decide +kernel
theorem dX5_count_98 : decode cX5_count 98 = .ok (.isub, 1) := by decide +kernel
theorem dX5_count_99 : decode cX5_count 99 = .ok (.ireturn, 1) := by decide +kernel
theorem dX5_count_100 : decode cX5_count 100 = .ok (.aload_n 0, 1) := by decide +kernel
theorem dX5_count_101 : decode cX5_count 101 = .ok (.getfield 10, 3) := by decide +kernel
theorem dX5_count_104 : decode cX5_count 104 = .ok (.getfield 102, 3) := by decide +kernel
theorem dX5_count_107 : decode cX5_count 107 = .ok (.ifnull 7, 3) := by decide +kernel
theorem dX5_count_110 : decode cX5_count 110 = .ok (.iconst 1, 1) := by decide +kernel
theorem dX5_count_111 : decode cX5_count 111 = .ok (.goto 4, 3) := by decide +kernel
theorem dX5_count_114 : decode cX5_count 114 = .ok (.iconst 0, 1) := by decide +kernel
theorem dX5_count_115 : decode cX5_count 115 = .ok (.ireturn, 1) := by decide +kernel
theorem dX5_count_116 : decode cX5_count 116 = .ok (.aload_n 0, 1) := by decide +kernel
theorem dX5_count_117 : decode cX5_count 117 = .ok (.getfield 10, 3) := by decide +kernel
theorem dX5_count_120 : decode cX5_count 120 = .ok (.invokevirtual 215, 3) := by decide +kernel
theorem dX5_count_123 : decode cX5_count 123 = .ok (.ireturn, 1) := by decide +kernel
theorem dX5_count_124 : decode cX5_count 124 = .ok (.aload_n 0, 1) := by decide +kernel
theorem dX5_count_125 : decode cX5_count 125 = .ok (.getfield 26, 3) := by decide +kernel
theorem dX5_count_128 : decode cX5_count 128 = .ok (.getfield 142, 3) := by decide +kernel
theorem dX5_count_131 : decode cX5_count 131 = .ok (.ireturn, 1) := by decide +kernel
theorem dX5_count_132 : decode cX5_count 132 = .ok (.aload_n 0, 1) := by decide +kernel
theorem dX5_count_133 : decode cX5_count 133 = .ok (.getfield 33, 3) := by decide +kernel
theorem dX5_count_136 : decode cX5_count 136 = .ok (.getfield 138, 3) := by decide +kernel
theorem dX5_count_139 : decode cX5_count 139 = .ok (.ireturn, 1) := by decide +kernel
theorem dX5_count_140 : decode cX5_count 140 = .ok (.bipush (-2), 2) := by decide +kernel
theorem dX5_count_142 : decode cX5_count 142 = .ok (.ireturn, 1) := by decide +kernel
theorem dX5_isValue_0 : decode cX5_isValue 0 = .ok (.iload_n 0, 1) := by decide +kernel
theorem dX5_isValue_1 : decode cX5_isValue 1 = .ok (.ifCond .lt 14, 3) := by decide +kernel
theorem dX5_isValue_4 : decode cX5_isValue 4 = .ok (.iload_n 0, 1) := by decide +kernel
theorem dX5_isValue_5 : decode cX5_isValue 5 = .ok (.sipush 999, 3) := by decide +kernel
theorem dX5_isValue_8 : decode cX5_isValue 8 = .ok (.if_icmp .gt 7, 3) := by decide +kernel
theorem dX5_isValue_11 : decode cX5_isValue 11 = .ok (.iconst 1, 1) := by decide +kernel
theorem dX5_isValue_12 : decode cX5_isValue 12 = .ok (.goto 4, 3) := by decide +kernel
theorem dX5_isValue_15 : decode cX5_isValue 15 = .ok (.iconst 0, 1) := by decide +kernel
theorem dX5_isValue_16 : decode cX5_isValue 16 = .ok (.ireturn, 1) := by decide +kernel
theorem dX5_rootLevel_0 : decode cX5_rootLevel 0 = .ok (.iload_n 0, 1) := by decide +kernel
theorem dX5_rootLevel_1 : decode cX5_rootLevel 1 = .ok (.ifCond .gt 6, 3) := by decide +kernel
theorem dX5_rootLevel_4 : decode cX5_rootLevel 4 = .ok (.bipush (-5), 2) := by decide +kernel
theorem dX5_rootLevel_6 : decode cX5_rootLevel 6 = .ok (.ireturn, 1) := by decide +kernel
theorem dX5_rootLevel_7 : decode cX5_rootLevel 7 = .ok (.iconst 1, 1) := by decide +kernel
theorem dX5_rootLevel_8 : decode cX5_rootLevel 8 = .ok (.istore_n 1, 1) := by decide +kernel
theorem dX5_rootLevel_9 : decode cX5_rootLevel 9 = .ok (.iload_n 1, 1) := by decide +kernel
theorem dX5_rootLevel_10 : decode cX5_rootLevel 10 = .ok (.iconst 4, 1) := by decide +kernel
theorem dX5_rootLevel_11 : decode cX5_rootLevel 11 = .ok (.if_icmp .ge 18, 3) := by decide +kernel
theorem dX5_rootLevel_14 : decode cX5_rootLevel 14 = .ok (.iconst 1, 1) := by decide +kernel
theorem dX5_rootLevel_15 : decode cX5_rootLevel 15 = .ok (.iconst 2, 1) := by decide +kernel
theorem dX5_rootLevel_16 : decode cX5_rootLevel 16 = .ok (.iload_n 1, 1) := by decide +kernel
theorem dX5_rootLevel_17 : decode cX5_rootLevel 17 = .ok (.imul, 1) := by decide +kernel
theorem dX5_rootLevel_18 : decode cX5_rootLevel 18 = .ok (.ishl, 1) := by decide +kernel
theorem dX5_rootLevel_19 : decode cX5_rootLevel 19 = .ok (.iload_n 0, 1) := by decide +kernel
theorem dX5_rootLevel_20 : decode cX5_rootLevel 20 = .ok (.if_icmp .ge 9, 3) := by decide +kernel
theorem dX5_rootLevel_23 : decode cX5_rootLevel 23 = .ok (.iinc 1 1, 3) := by decide +kernel
theorem dX5_rootLevel_26 : decode cX5_rootLevel 26 = .ok (.goto (-17), 3) := by decide +kernel
theorem dX5_rootLevel_29 : decode cX5_rootLevel 29 = .ok (.iload_n 1, 1) := by decide +kernel
theorem dX5_rootLevel_30 : decode cX5_rootLevel 30 = .ok (.ireturn, 1) := by decide +kernel
end
section
theorem dX6_init_0 : decode cX6_init 0 = .ok (.aload_n 0, 1) := by decide +kernel
theorem dX6_init_1 : decode cX6_init 1 = .ok (.invokespecial 1, 3) := by decide +kernel
theorem dX6_init_4 : decode cX6_init 4 = .ok (.aload_n 0, 1) := by decide +kernel
theorem dX6_init_5 : decode cX6_init 5 = .ok (.sipush 10276, 3) := by decide +kernel
theorem dX6_init_8 : decode cX6_init 8 = .ok (.newarray .int, 2) := by decide +kernel
theorem dX6_init_10 : decode cX6_init 10 = .ok (.putfield 7, 3) := by decide +kernel
theorem dX6_init_13 : decode cX6_init 13 = .ok (.aload_n 0, 1) := by decide +kernel
theorem dX6_init_14 : decode cX6_init 14 = .ok (.ldc 13, 2) := by decide +kernel
theorem dX6_init_16 : decode cX6_init 16 = .ok (.newarray .int, 2) := by decide +kernel
theorem dX6_init_18 : decode cX6_init 18 = .ok (.putfield 14, 3) := by decide +kernel
theorem dX6_init_21 : decode cX6_init 21 = .ok (.aload_n 0, 1) := by decide +kernel
theorem dX6_init_22 : decode cX6_init 22 = .ok (.sipush 10276, 3) := by decide +kernel
theorem dX6_init_25 : decode cX6_init 25 = .ok (.newarray .int, 2) := by decide +kernel
theorem dX6_init_27 : decode cX6_init 27 = .ok (.putfield 17, 3) := by decide +kernel
theorem dX6_init_30 : decode cX6_init 30 = .ok (.aload_n 0, 1) := by decide +kernel
theorem dX6_init_31 : decode cX6_init 31 = .ok (.bipush 60, 2) := by decide +kernel
theorem dX6_init_33 : decode cX6_init 33 = .ok (.newarray .char, 2) := by decide +kernel
theorem dX6_init_35 : decode cX6_init 35 = .ok (.putfield 20, 3) := by decide +kernel
theorem dX6_init_38 : decode cX6_init 38 = .ok (.aload_n 0, 1) := by decide +kernel
theorem dX6_init_39 : decode cX6_init 39 = .ok (.getfield 7, 3) := by decide +kernel
theorem dX6_init_42 : decode cX6_init 42 = .ok (.sipush 10075, 3) := by decide +kernel
theorem dX6_init_45 : decode cX6_init 45 = .ok (.iconst 1, 1) := by decide +kernel
theorem dX6_init_46 : decode cX6_init 46 = .ok (.iastore, 1) := by decide +kernel
theorem dX6_init_47 : decode cX6_init 47 = .ok (.aload_n 0, 1) := by decide +kernel
theorem dX6_init_48 : decode cX6_init 48 = .ok (.getfield 7, 3) := by decide +kernel
theorem dX6_init_51 : decode cX6_init 51 = .ok (.sipush 10171, 3) := by decide +kernel
theorem dX6_init_54 : decode cX6_init 54 = .ok (.iconst 1, 1) := by decide +kernel
theorem dX6_init_55 : decode cX6_init 55 = .ok (.iastore, 1) := by decide +kernel
theorem dX6_init_56 : decode cX6_init 56 = .ok (.return_, 1) := by decide +kernel
theorem dX6_in_0 : decode cX6_in 0 = .ok (.iload_n 0, 1) := by decide +kernel
theorem dX6_in_1 : decode cX6_in 1 = .ok (.iload_n 1, 1) := by decide +kernel
theorem dX6_in_2 : decode cX6_in 2 = .ok (.if_icmp .lt 12, 3) := by decide +kernel
theorem dX6_in_5 : decode cX6_in 5 = .ok (.iload_n 0, 1) := by decide +kernel
theorem dX6_in_6 : decode cX6_in 6 = .ok (.iload_n 2, 1) := by decide +kernel
theorem dX6_in_7 : decode cX6_in 7 = .ok (.if_icmp .gt 7, 3) := by decide +kernel
theorem dX6_in_10 : decode cX6_in 10 = .ok (.iconst 1, 1) := by decide +kernel
theorem dX6_in_11 : decode cX6_in 11 = .ok (.goto 4, 3) := by decide +kernel
theorem dX6_in_14 : decode cX6_in 14 = .ok (.iconst 0, 1) := by decide +kernel
theorem dX6_in_15 : decode cX6_in 15 = .ok (.ireturn, 1) := by decide +kernel
set_option maxRecDepth 20000 in
theorem ggX6_no_X6_in : GoodIn wsX6_no wsX6_in := goodIn_r _ [5] (by decide +kernel) (by decide +kernel)
set_option maxRecDepth 20000 in
theorem gX6_no_X6_in : GoodIn wsX6_no (va_wsS RX6 24 yX6_in wsX6_in) := goodIn_app (goodIn_of _ (by decide +kernel)) ggX6_no_X6_in
theorem dX6_no_0 : decode cX6_no 0 = .ok (.iload_n 1, 1) := by decide +kernel
theorem dX6_no_1 : decode cX6_no 1 = .ok (.iconst 0, 1) := by decide +kernel
theorem dX6_no_2 : decode cX6_no 2 = .ok (.aload_n 0, 1) := by decide +kernel
theorem dX6_no_3 : decode cX6_no 3 = .ok (.getfield 7, 3) := by decide +kernel
theorem dX6_no_6 : decode cX6_no 6 = .ok (.sipush 10171, 3) := by decide +kernel
theorem dX6_no_9 : decode cX6_no 9 = .ok (.iaload, 1) := by decide +kernel
theorem dX6_no_10 : decode cX6_no 10 = .ok (.iconst 1, 1) := by decide +kernel
theorem dX6_no_11 : decode cX6_no 11 = .ok (.isub, 1) := by decide +kernel
theorem dX6_no_12 : decode cX6_no 12 = .ok (.invokestatic 24, 3) := by decide +kernel
theorem dX6_no_15 : decode cX6_no 15 = .ok (.ifCond .eq 18, 3) := by decide +kernel
theorem dX6_no_18 : decode cX6_no 18 = .ok (.aload_n 0, 1) := by decide +kernel
theorem dX6_no_19 : decode cX6_no 19 = .ok (.getfield 7, 3) := by decide +kernel
theorem dX6_no_22 : decode cX6_no 22 = .ok (.sipush 10075, 3) := by decide +kernel
theorem dX6_no_25 : decode cX6_no 25 = .ok (.iconst 4, 1) := by decide +kernel
theorem dX6_no_26 : decode cX6_no 26 = .ok (.iload_n 1, 1) := by decide +kernel
theorem dX6_no_27 : decode cX6_no 27 = .ok (.imul, 1) := by decide +kernel
theorem dX6_no_28 : decode cX6_no 28 = .ok (.iadd, 1) := by decide +kernel
theorem dX6_no_29 : decode cX6_no 29 = .ok (.iaload, 1) := by decide +kernel
theorem dX6_no_30 : decode cX6_no 30 = .ok (.ifCond .ne 7, 3) := by decide +kernel
theorem dX6_no_33 : decode cX6_no 33 = .ok (.iconst 1, 1) := by decide +kernel
theorem dX6_no_34 : decode cX6_no 34 = .ok (.goto 4, 3) := by decide +kernel
theorem dX6_no_37 : decode cX6_no 37 = .ok (.iconst 0, 1) := by decide +kernel
theorem dX6_no_38 : decode cX6_no 38 = .ok (.ireturn, 1) := by decide +kernel
theorem dX6_isWindow_0 : decode cX6_isWindow 0 = .ok (.aload_n 0, 1) := by decide +kernel
theorem dX6_isWindow_1 : decode cX6_isWindow 1 = .ok (.getfield 7, 3) := by decide +kernel
theorem dX6_isWindow_4 : decode cX6_isWindow 4 = .ok (.sipush 10075, 3) := by decide +kernel
theorem dX6_isWindow_7 : decode cX6_isWindow 7 = .ok (.iconst 4, 1) := by decide +kernel
theorem dX6_isWindow_8 : decode cX6_isWindow 8 = .ok (.iload_n 1, 1) := by decide +kernel
theorem dX6_isWindow_9 : decode cX6_isWindow 9 = .ok (.imul, 1) := by decide +kernel
theorem dX6_isWindow_10 : decode cX6_isWindow 10 = .ok (.iadd, 1) := by decide +kernel
theorem dX6_isWindow_11 : decode cX6_isWindow 11 = .ok (.iconst 1, 1) := by decide +kernel
theorem dX6_isWindow_12 : decode cX6_isWindow 12 = .ok (.iadd, 1) := by decide +kernel
theorem dX6_isWindow_13 : decode cX6_isWindow 13 = .ok (.iaload, 1) := by decide +kernel
theorem dX6_isWindow_14 : decode cX6_isWindow 14 = .ok (.iconst 1, 1) := by decide +kernel
theorem dX6_isWindow_15 : decode cX6_isWindow 15 = .ok (.if_icmp .ne 7, 3) := by decide +kernel
theorem dX6_isWindow_18 : decode cX6_isWindow 18 = .ok (.iconst 1, 1) := by decide +kernel
theorem dX6_isWindow_19 : decode cX6_isWindow 19 = .ok (.goto 4, 3) := by decide +kernel
theorem dX6_isWindow_22 : decode cX6_isWindow 22 = .ok (.iconst 0, 1) := by decide +kernel
theorem dX6_isWindow_23 : decode cX6_isWindow 23 = .ok (.ireturn, 1) := by decide +kernel
theorem dX6_first_0 : decode cX6_first 0 = .ok (.aload_n 0, 1) := by decide +kernel
theorem dX6_first_1 : decode cX6_first 1 = .ok (.getfield 7, 3) := by decide +kernel
theorem dX6_first_4 : decode cX6_first 4 = .ok (.sipush 10075, 3) := by decide +kernel
theorem dX6_first_7 : decode cX6_first 7 = .ok (.iconst 4, 1) := by decide +kernel
theorem dX6_first_8 : decode cX6_first 8 = .ok (.iload_n 1, 1) := by decide +kernel
theorem dX6_first_9 : decode cX6_first 9 = .ok (.imul, 1) := by decide +kernel
theorem dX6_first_10 : decode cX6_first 10 = .ok (.iadd, 1) := by decide +kernel
theorem dX6_first_11 : decode cX6_first 11 = .ok (.iconst 2, 1) := by decide +kernel
theorem dX6_first_12 : decode cX6_first 12 = .ok (.iadd, 1) := by decide +kernel
theorem dX6_first_13 : decode cX6_first 13 = .ok (.iaload, 1) := by decide +kernel
theorem dX6_first_14 : decode cX6_first 14 = .ok (.ireturn, 1) := by decide +kernel
theorem dX6_rowLength_0 : decode cX6_rowLength 0 = .ok (.aload_n 0, 1) := by decide +kernel
theorem dX6_rowLength_1 : decode cX6_rowLength 1 = .ok (.getfield 7, 3) := by decide +kernel
theorem dX6_rowLength_4 : decode cX6_rowLength 4 = .ok (.sipush 403, 3) := by decide +kernel
theorem dX6_rowLength_7 : decode cX6_rowLength 7 = .ok (.iload_n 1, 1) := by decide +kernel
theorem dX6_rowLength_8 : decode cX6_rowLength 8 = .ok (.imul, 1) := by decide +kernel
theorem dX6_rowLength_9 : decode cX6_rowLength 9 = .ok (.iaload, 1) := by decide +kernel
theorem dX6_rowLength_10 : decode cX6_rowLength 10 = .ok (.ireturn, 1) := by decide +kernel
set_option maxRecDepth 20000 in
theorem ggX6_length_X6_isWindow : GoodIn wsX6_length wsX6_isWindow := goodIn_r _ [6, 1, 11, 12, 13, 14, 15, 16, 17, 18, 19] (by decide +kernel) (by decide +kernel)
set_option maxRecDepth 20000 in
theorem gX6_length_X6_isWindow : GoodIn wsX6_length (wsV RX6 28 RX6 yX6_isWindow wsX6_isWindow) := goodIn_app (goodIn_of _ (by decide +kernel)) ggX6_length_X6_isWindow
set_option maxRecDepth 20000 in
theorem ggX6_length_X6_rowLength : GoodIn wsX6_length wsX6_rowLength := goodIn_r _ [10, 1, 11, 12, 13, 14, 15, 16, 17, 18, 19] (by decide +kernel) (by decide +kernel)
set_option maxRecDepth 20000 in
theorem gX6_length_X6_rowLength : GoodIn wsX6_length (wsV RX6 32 RX6 yX6_rowLength wsX6_rowLength) := goodIn_app (goodIn_of _ (by decide +kernel)) ggX6_length_X6_rowLength
theorem dX6_length_0 : decode cX6_length 0 = .ok (.aload_n 0, 1) := by decide +kernel
theorem dX6_length_1 : decode cX6_length 1 = .ok (.iload_n 1, 1) := by decide +kernel
theorem dX6_length_2 : decode cX6_length 2 = .ok (.invokevirtual 28, 3) := by decide +kernel
theorem dX6_length_5 : decode cX6_length 5 = .ok (.ifCond .eq 20, 3) := by decide +kernel
theorem dX6_length_8 : decode cX6_length 8 = .ok (.aload_n 0, 1) := by decide +kernel
theorem dX6_length_9 : decode cX6_length 9 = .ok (.getfield 7, 3) := by decide +kernel
theorem dX6_length_12 : decode cX6_length 12 = .ok (.sipush 10075, 3) := by decide +kernel
theorem dX6_length_15 : decode cX6_length 15 = .ok (.iconst 4, 1) := by decide +kernel
theorem dX6_length_16 : decode cX6_length 16 = .ok (.iload_n 1, 1) := by decide +kernel
theorem dX6_length_17 : decode cX6_length 17 = .ok (.imul, 1) := by decide +kernel
theorem dX6_length_18 : decode cX6_length 18 = .ok (.iadd, 1) := by decide +kernel
theorem dX6_length_19 : decode cX6_length 19 = .ok (.iconst 3, 1) := by decide +kernel
theorem dX6_length_20 : decode cX6_length 20 = .ok (.iadd, 1) := by decide +kernel
theorem dX6_length_21 : decode cX6_length 21 = .ok (.iaload, 1) := by decide +kernel
theorem dX6_length_22 : decode cX6_length 22 = .ok (.goto 8, 3) := by decide +kernel
theorem dX6_length_25 : decode cX6_length 25 = .ok (.aload_n 0, 1) := by decide +kernel
theorem dX6_length_26 : decode cX6_length 26 = .ok (.iload_n 1, 1) := by decide +kernel
theorem dX6_length_27 : decode cX6_length 27 = .ok (.invokevirtual 32, 3) := by decide +kernel
theorem dX6_length_30 : decode cX6_length 30 = .ok (.ireturn, 1) := by decide +kernel
set_option maxRecDepth 20000 in
theorem ggX6_value_X6_first : GoodIn wsX6_value wsX6_first := goodIn_r _ [6, 1, 7, 8, 9, 10, 11, 12, 13, 14, 15] (by decide +kernel) (by decide +kernel)
set_option maxRecDepth 20000 in
theorem gX6_value_X6_first : GoodIn wsX6_value (wsV RX6 36 RX6 yX6_first wsX6_first) := goodIn_app (goodIn_of _ (by decide +kernel)) ggX6_value_X6_first
theorem dX6_value_0 : decode cX6_value 0 = .ok (.aload_n 0, 1) := by decide +kernel
theorem dX6_value_1 : decode cX6_value 1 = .ok (.getfield 7, 3) := by decide +kernel
theorem dX6_value_4 : decode cX6_value 4 = .ok (.sipush 403, 3) := by decide +kernel
theorem dX6_value_7 : decode cX6_value 7 = .ok (.iload_n 1, 1) := by decide +kernel
theorem dX6_value_8 : decode cX6_value 8 = .ok (.imul, 1) := by decide +kernel
theorem dX6_value_9 : decode cX6_value 9 = .ok (.iconst 1, 1) := by decide +kernel
theorem dX6_value_10 : decode cX6_value 10 = .ok (.iadd, 1) := by decide +kernel
theorem dX6_value_11 : decode cX6_value 11 = .ok (.aload_n 0, 1) := by decide +kernel
theorem dX6_value_12 : decode cX6_value 12 = .ok (.iload_n 1, 1) := by decide +kernel
theorem dX6_value_13 : decode cX6_value 13 = .ok (.invokevirtual 36, 3) := by decide +kernel
theorem dX6_value_16 : decode cX6_value 16 = .ok (.iadd, 1) := by decide +kernel
theorem dX6_value_17 : decode cX6_value 17 = .ok (.iload_n 2, 1) := by decide +kernel
theorem dX6_value_18 : decode cX6_value 18 = .ok (.iadd, 1) := by decide +kernel
theorem dX6_value_19 : decode cX6_value 19 = .ok (.iaload, 1) := by decide +kernel
theorem dX6_value_20 : decode cX6_value 20 = .ok (.ireturn, 1) := by decide +kernel
theorem dX6_record_0 : decode cX6_record 0 = .ok (.aload_n 0, 1) := by decide +kernel
theorem dX6_record_1 : decode cX6_record 1 = .ok (.getfield 39, 3) := by decide +kernel
theorem dX6_record_4 : decode cX6_record 4 = .ok (.iconst 4, 1) := by decide +kernel
theorem dX6_record_5 : decode cX6_record 5 = .ok (.if_icmp .ne 44, 3) := by decide +kernel
theorem dX6_record_8 : decode cX6_record 8 = .ok (.iconst 0, 1) := by decide +kernel
theorem dX6_record_9 : decode cX6_record 9 = .ok (.istore_n 1, 1) := by decide +kernel
theorem dX6_record_10 : decode cX6_record 10 = .ok (.iload_n 1, 1) := by decide +kernel
theorem dX6_record_11 : decode cX6_record 11 = .ok (.sipush 30828, 3) := by decide +kernel
theorem dX6_record_14 : decode cX6_record 14 = .ok (.if_icmp .ge 25, 3) := by decide +kernel
theorem dX6_record_17 : decode cX6_record 17 = .ok (.aload_n 0, 1) := by decide +kernel
theorem dX6_record_18 : decode cX6_record 18 = .ok (.getfield 14, 3) := by decide +kernel
theorem dX6_record_21 : decode cX6_record 21 = .ok (.iload_n 1, 1) := by decide +kernel
theorem dX6_record_22 : decode cX6_record 22 = .ok (.aload_n 0, 1) := by decide +kernel
theorem dX6_record_23 : decode cX6_record 23 = .ok (.getfield 14, 3) := by decide +kernel
theorem dX6_record_26 : decode cX6_record 26 = .ok (.iload_n 1, 1) := by decide +kernel
theorem dX6_record_27 : decode cX6_record 27 = .ok (.sipush 10276, 3) := by decide +kernel
theorem dX6_record_30 : decode cX6_record 30 = .ok (.iadd, 1) := by decide +kernel
theorem dX6_record_31 : decode cX6_record 31 = .ok (.iaload, 1) := by decide +kernel
theorem dX6_record_32 : decode cX6_record 32 = .ok (.iastore, 1) := by decide +kernel
theorem dX6_record_33 : decode cX6_record 33 = .ok (.iinc 1 1, 3) := by decide +kernel
theorem dX6_record_36 : decode cX6_record 36 = .ok (.goto (-26), 3) := by decide +kernel
theorem dX6_record_39 : decode cX6_record 39 = .ok (.aload_n 0, 1) := by decide +kernel
theorem dX6_record_40 : decode cX6_record 40 = .ok (.dup, 1) := by decide +kernel
theorem dX6_record_41 : decode cX6_record 41 = .ok (.getfield 39, 3) := by decide +kernel
theorem dX6_record_44 : decode cX6_record 44 = .ok (.iconst 1, 1) := by decide +kernel
theorem dX6_record_45 : decode cX6_record 45 = .ok (.isub, 1) := by decide +kernel
theorem dX6_record_46 : decode cX6_record 46 = .ok (.putfield 39, 3) := by decide +kernel
theorem dX6_record_49 : decode cX6_record 49 = .ok (.iconst 0, 1) := by decide +kernel
theorem dX6_record_50 : decode cX6_record 50 = .ok (.istore_n 1, 1) := by decide +kernel
theorem dX6_record_51 : decode cX6_record 51 = .ok (.iload_n 1, 1) := by decide +kernel
theorem dX6_record_52 : decode cX6_record 52 = .ok (.sipush 10276, 3) := by decide +kernel
theorem dX6_record_55 : decode cX6_record 55 = .ok (.if_icmp .ge 30, 3) := by decide +kernel
theorem dX6_record_58 : decode cX6_record 58 = .ok (.aload_n 0, 1) := by decide +kernel
theorem dX6_record_59 : decode cX6_record 59 = .ok (.getfield 14, 3) := by decide +kernel
theorem dX6_record_62 : decode cX6_record 62 = .ok (.sipush 10276, 3) := by decide +kernel
theorem dX6_record_65 : decode cX6_record 65 = .ok (.aload_n 0, 1) := by decide +kernel
theorem dX6_record_66 : decode cX6_record 66 = .ok (.getfield 39, 3) := by decide +kernel
theorem dX6_record_69 : decode cX6_record 69 = .ok (.imul, 1) := by decide +kernel
theorem dX6_record_70 : decode cX6_record 70 = .ok (.iload_n 1, 1) := by decide +kernel
theorem dX6_record_71 : decode cX6_record 71 = .ok (.iadd, 1) := by decide +kernel
theorem dX6_record_72 : decode cX6_record 72 = .ok (.aload_n 0, 1) := by decide +kernel
theorem dX6_record_73 : decode cX6_record 73 = .ok (.getfield 7, 3) := by decide +kernel
theorem dX6_record_76 : decode cX6_record 76 = .ok (.iload_n 1, 1) := by decide +kernel
theorem dX6_record_77 : decode cX6_record 77 = .ok (.iaload, 1) := by decide +kernel
theorem dX6_record_78 : decode cX6_record 78 = .ok (.iastore, 1) := by decide +kernel
theorem dX6_record_79 : decode cX6_record 79 = .ok (.iinc 1 1, 3) := by decide +kernel
theorem dX6_record_82 : decode cX6_record 82 = .ok (.goto (-31), 3) := by decide +kernel
theorem dX6_record_85 : decode cX6_record 85 = .ok (.aload_n 0, 1) := by decide +kernel
theorem dX6_record_86 : decode cX6_record 86 = .ok (.dup, 1) := by decide +kernel
theorem dX6_record_87 : decode cX6_record 87 = .ok (.getfield 39, 3) := by decide +kernel
theorem dX6_record_90 : decode cX6_record 90 = .ok (.iconst 1, 1) := by decide +kernel
theorem dX6_record_91 : decode cX6_record 91 = .ok (.iadd, 1) := by decide +kernel
theorem dX6_record_92 : decode cX6_record 92 = .ok (.putfield 39, 3) := by decide +kernel
theorem dX6_record_95 : decode cX6_record 95 = .ok (.return_, 1) := by decide +kernel
theorem dX6_leaves_0 : decode cX6_leaves 0 = .ok (.iload_n 0, 1) := by decide +kernel
theorem dX6_leaves_1 : decode cX6_leaves 1 = .ok (.ifCond .ne 7, 3) := by decide +kernel
theorem dX6_leaves_4 : decode cX6_leaves 4 = .ok (.iconst 0, 1) := by decide +kernel
theorem dX6_leaves_5 : decode cX6_leaves 5 = .ok (.goto 8, 3) := by decide +kernel
theorem dX6_leaves_8 : decode cX6_leaves 8 = .ok (.iload_n 0, 1) := by decide +kernel
theorem dX6_leaves_9 : decode cX6_leaves 9 = .ok (.iconst 1, 1) := by decide +kernel
theorem dX6_leaves_10 : decode cX6_leaves 10 = .ok (.isub, 1) := by decide +kernel
theorem dX6_leaves_11 : decode cX6_leaves 11 = .ok (.iconst 4, 1) := by decide +kernel
theorem dX6_leaves_12 : decode cX6_leaves 12 = .ok (.idiv, 1) := by decide +kernel
theorem dX6_leaves_13 : decode cX6_leaves 13 = .ok (.ireturn, 1) := by decide +kernel
theorem dX6_power_0 : decode cX6_power 0 = .ok (.iconst 1, 1) := by decide +kernel
theorem dX6_power_1 : decode cX6_power 1 = .ok (.iconst 2, 1) := by decide +kernel
theorem dX6_power_2 : decode cX6_power 2 = .ok (.iload_n 0, 1) := by decide +kernel
theorem dX6_power_3 : decode cX6_power 3 = .ok (.imul, 1) := by decide +kernel
theorem dX6_power_4 : decode cX6_power 4 = .ok (.ishl, 1) := by decide +kernel
theorem dX6_power_5 : decode cX6_power 5 = .ok (.ireturn, 1) := by decide +kernel
set_option maxRecDepth 20000 in
theorem ggX6_blocks_X6_rootLevel : GoodIn wsX6_blocks wsX6_rootLevel := goodIn_r _ [4, 5, 6, 3, 7] (by decide +kernel) (by decide +kernel)
set_option maxRecDepth 20000 in
theorem gX6_blocks_X6_rootLevel : GoodIn wsX6_blocks (va_wsS RX6 43 yX6_rootLevel wsX6_rootLevel) := goodIn_app (goodIn_of _ (by decide +kernel)) ggX6_blocks_X6_rootLevel
set_option maxRecDepth 20000 in
theorem ggX6_blocks_X6_power : GoodIn wsX6_blocks wsX6_power := goodIn_r _ [7] (by decide +kernel) (by decide +kernel)
set_option maxRecDepth 20000 in
theorem gX6_blocks_X6_power : GoodIn wsX6_blocks (va_wsS RX6 46 yX6_power wsX6_power) := goodIn_app (goodIn_of _ (by decide +kernel)) ggX6_blocks_X6_power
theorem dX6_blocks_0 : decode cX6_blocks 0 = .ok (.iload_n 1, 1) := by decide +kernel
theorem dX6_blocks_1 : decode cX6_blocks 1 = .ok (.iload_n 0, 1) := by decide +kernel
theorem dX6_blocks_2 : decode cX6_blocks 2 = .ok (.invokestatic 43, 3) := by decide +kernel
theorem dX6_blocks_5 : decode cX6_blocks 5 = .ok (.if_icmp .le 7, 3) := by decide +kernel
theorem dX6_blocks_8 : decode cX6_blocks 8 = .ok (.iconst 0, 1) := by decide +kernel
theorem dX6_blocks_9 : decode cX6_blocks 9 = .ok (.goto 16, 3) := by decide +kernel
theorem dX6_blocks_12 : decode cX6_blocks 12 = .ok (.iload_n 0, 1) := by decide +kernel
theorem dX6_blocks_13 : decode cX6_blocks 13 = .ok (.iload_n 1, 1) := by decide +kernel
theorem dX6_blocks_14 : decode cX6_blocks 14 = .ok (.invokestatic 46, 3) := by decide +kernel
theorem dX6_blocks_17 : decode cX6_blocks 17 = .ok (.iadd, 1) := by decide +kernel
theorem dX6_blocks_18 : decode cX6_blocks 18 = .ok (.iconst 1, 1) := by decide +kernel
theorem dX6_blocks_19 : decode cX6_blocks 19 = .ok (.isub, 1) := by decide +kernel
theorem dX6_blocks_20 : decode cX6_blocks 20 = .ok (.iload_n 1, 1) := by decide +kernel
theorem dX6_blocks_21 : decode cX6_blocks 21 = .ok (.invokestatic 46, 3) := by decide +kernel
theorem dX6_blocks_24 : decode cX6_blocks 24 = .ok (.idiv, 1) := by decide +kernel
theorem dX6_blocks_25 : decode cX6_blocks 25 = .ok (.ireturn, 1) := by decide +kernel
set_option maxRecDepth 20000 in
theorem ggX6_rootLevel_X6_power : GoodIn wsX6_rootLevel wsX6_power := goodIn_r _ [4] (by decide +kernel) (by decide +kernel)
set_option maxRecDepth 20000 in
theorem gX6_rootLevel_X6_power : GoodIn wsX6_rootLevel (va_wsS RX6 46 yX6_power wsX6_power) := goodIn_app (goodIn_of _ (by decide +kernel)) ggX6_rootLevel_X6_power
theorem dX6_rootLevel_0 : decode cX6_rootLevel 0 = .ok (.iload_n 0, 1) := by decide +kernel
theorem dX6_rootLevel_1 : decode cX6_rootLevel 1 = .ok (.ifCond .ne 5, 3) := by decide +kernel
theorem dX6_rootLevel_4 : decode cX6_rootLevel 4 = .ok (.iconst (-1), 1) := by decide +kernel
theorem dX6_rootLevel_5 : decode cX6_rootLevel 5 = .ok (.ireturn, 1) := by decide +kernel
theorem dX6_rootLevel_6 : decode cX6_rootLevel 6 = .ok (.iconst 1, 1) := by decide +kernel
theorem dX6_rootLevel_7 : decode cX6_rootLevel 7 = .ok (.istore_n 1, 1) := by decide +kernel
theorem dX6_rootLevel_8 : decode cX6_rootLevel 8 = .ok (.iload_n 1, 1) := by decide +kernel
theorem dX6_rootLevel_9 : decode cX6_rootLevel 9 = .ok (.invokestatic 46, 3) := by decide +kernel
theorem dX6_rootLevel_12 : decode cX6_rootLevel 12 = .ok (.iload_n 0, 1) := by decide +kernel
theorem dX6_rootLevel_13 : decode cX6_rootLevel 13 = .ok (.if_icmp .ge 9, 3) := by decide +kernel
theorem dX6_rootLevel_16 : decode cX6_rootLevel 16 = .ok (.iinc 1 1, 3) := by decide +kernel
theorem dX6_rootLevel_19 : decode cX6_rootLevel 19 = .ok (.goto (-11), 3) := by decide +kernel
theorem dX6_rootLevel_22 : decode cX6_rootLevel 22 = .ok (.iload_n 1, 1) := by decide +kernel
theorem dX6_rootLevel_23 : decode cX6_rootLevel 23 = .ok (.ireturn, 1) := by decide +kernel
set_option maxRecDepth 20000 in
theorem ggX6_allBlocks_X6_blocks : GoodIn wsX6_allBlocks wsX6_blocks := goodIn_r _ [4, 5, 6, 3, 7, 8, 9, 10] (by decide +kernel) (by decide +kernel)
set_option maxRecDepth 20000 in
theorem gX6_allBlocks_X6_blocks : GoodIn wsX6_allBlocks (va_wsS RX6 49 yX6_blocks wsX6_blocks) := goodIn_app (goodIn_of _ (by decide +kernel)) ggX6_allBlocks_X6_blocks
theorem dX6_allBlocks_0 : decode cX6_allBlocks 0 = .ok (.iconst 0, 1) := by decide +kernel
theorem dX6_allBlocks_1 : decode cX6_allBlocks 1 = .ok (.istore_n 1, 1) := by decide +kernel
theorem dX6_allBlocks_2 : decode cX6_allBlocks 2 = .ok (.iconst 0, 1) := by decide +kernel
theorem dX6_allBlocks_3 : decode cX6_allBlocks 3 = .ok (.istore_n 2, 1) := by decide +kernel
theorem dX6_allBlocks_4 : decode cX6_allBlocks 4 = .ok (.iload_n 2, 1) := by decide +kernel
theorem dX6_allBlocks_5 : decode cX6_allBlocks 5 = .ok (.iconst 5, 1) := by decide +kernel
theorem dX6_allBlocks_6 : decode cX6_allBlocks 6 = .ok (.if_icmp .ge 17, 3) := by decide +kernel
theorem dX6_allBlocks_9 : decode cX6_allBlocks 9 = .ok (.iload_n 1, 1) := by decide +kernel
theorem dX6_allBlocks_10 : decode cX6_allBlocks 10 = .ok (.iload_n 0, 1) := by decide +kernel
theorem dX6_allBlocks_11 : decode cX6_allBlocks 11 = .ok (.iload_n 2, 1) := by decide +kernel
theorem dX6_allBlocks_12 : decode cX6_allBlocks 12 = .ok (.invokestatic 49, 3) := by decide +kernel
theorem dX6_allBlocks_15 : decode cX6_allBlocks 15 = .ok (.iadd, 1) := by decide +kernel
theorem dX6_allBlocks_16 : decode cX6_allBlocks 16 = .ok (.istore_n 1, 1) := by decide +kernel
theorem dX6_allBlocks_17 : decode cX6_allBlocks 17 = .ok (.iinc 2 1, 3) := by decide +kernel
theorem dX6_allBlocks_20 : decode cX6_allBlocks 20 = .ok (.goto (-16), 3) := by decide +kernel
theorem dX6_allBlocks_23 : decode cX6_allBlocks 23 = .ok (.iload_n 1, 1) := by decide +kernel
theorem dX6_allBlocks_24 : decode cX6_allBlocks 24 = .ok (.ireturn, 1) := by decide +kernel
theorem dX6_begins_0 : decode cX6_begins 0 = .ok (.iload_n 0, 1) := by decide +kernel
theorem dX6_begins_1 : decode cX6_begins 1 = .ok (.ifCond .ne 7, 3) := by decide +kernel
theorem dX6_begins_4 : decode cX6_begins 4 = .ok (.iconst 0, 1) := by decide +kernel
theorem dX6_begins_5 : decode cX6_begins 5 = .ok (.goto 35, 3) := by decide +kernel
theorem dX6_begins_8 : decode cX6_begins 8 = .ok (.iload_n 0, 1) := by decide +kernel
theorem dX6_begins_9 : decode cX6_begins 9 = .ok (.iconst 1, 1) := by decide +kernel
theorem dX6_begins_10 : decode cX6_begins 10 = .ok (.if_icmp .ne 8, 3) := by decide +kernel
theorem dX6_begins_13 : decode cX6_begins 13 = .ok (.bipush 75, 2) := by decide +kernel
theorem dX6_begins_15 : decode cX6_begins 15 = .ok (.goto 25, 3) := by decide +kernel
theorem dX6_begins_18 : decode cX6_begins 18 = .ok (.iload_n 0, 1) := by decide +kernel
theorem dX6_begins_19 : decode cX6_begins 19 = .ok (.iconst 2, 1) := by decide +kernel
theorem dX6_begins_20 : decode cX6_begins 20 = .ok (.if_icmp .ne 8, 3) := by decide +kernel
theorem dX6_begins_23 : decode cX6_begins 23 = .ok (.bipush 94, 2) := by decide +kernel
theorem dX6_begins_25 : decode cX6_begins 25 = .ok (.goto 15, 3) := by decide +kernel
theorem dX6_begins_28 : decode cX6_begins 28 = .ok (.iload_n 0, 1) := by decide +kernel
theorem dX6_begins_29 : decode cX6_begins 29 = .ok (.iconst 3, 1) := by decide +kernel
theorem dX6_begins_30 : decode cX6_begins 30 = .ok (.if_icmp .ne 8, 3) := by decide +kernel
theorem dX6_begins_33 : decode cX6_begins 33 = .ok (.bipush 99, 2) := by decide +kernel
theorem dX6_begins_35 : decode cX6_begins 35 = .ok (.goto 5, 3) := by decide +kernel
theorem dX6_begins_38 : decode cX6_begins 38 = .ok (.bipush 101, 2) := by decide +kernel
theorem dX6_begins_40 : decode cX6_begins 40 = .ok (.ireturn, 1) := by decide +kernel
set_option maxRecDepth 20000 in
theorem ggX6_id_X6_begins : GoodIn wsX6_id wsX6_begins := goodIn_r _ [5] (by decide +kernel) (by decide +kernel)
set_option maxRecDepth 20000 in
theorem gX6_id_X6_begins : GoodIn wsX6_id (va_wsS RX6 53 yX6_begins wsX6_begins) := goodIn_app (goodIn_of _ (by decide +kernel)) ggX6_id_X6_begins
theorem dX6_id_0 : decode cX6_id 0 = .ok (.aload_n 0, 1) := by decide +kernel
theorem dX6_id_1 : decode cX6_id 1 = .ok (.getfield 7, 3) := by decide +kernel
theorem dX6_id_4 : decode cX6_id 4 = .ok (.sipush 403, 3) := by decide +kernel
theorem dX6_id_7 : decode cX6_id 7 = .ok (.iload_n 1, 1) := by decide +kernel
theorem dX6_id_8 : decode cX6_id 8 = .ok (.imul, 1) := by decide +kernel
theorem dX6_id_9 : decode cX6_id 9 = .ok (.sipush 301, 3) := by decide +kernel
theorem dX6_id_12 : decode cX6_id 12 = .ok (.iadd, 1) := by decide +kernel
theorem dX6_id_13 : decode cX6_id 13 = .ok (.iload_n 2, 1) := by decide +kernel
theorem dX6_id_14 : decode cX6_id 14 = .ok (.invokestatic 53, 3) := by decide +kernel
theorem dX6_id_17 : decode cX6_id 17 = .ok (.iadd, 1) := by decide +kernel
theorem dX6_id_18 : decode cX6_id 18 = .ok (.iload_n 3, 1) := by decide +kernel
theorem dX6_id_19 : decode cX6_id 19 = .ok (.iadd, 1) := by decide +kernel
theorem dX6_id_20 : decode cX6_id 20 = .ok (.iaload, 1) := by decide +kernel
theorem dX6_id_21 : decode cX6_id 21 = .ok (.ireturn, 1) := by decide +kernel
set_option maxRecDepth 20000 in
theorem ggX6_makes_X6_begins : GoodIn wsX6_makes wsX6_begins := goodIn_r _ [5] (by decide +kernel) (by decide +kernel)
set_option maxRecDepth 20000 in
theorem gX6_makes_X6_begins : GoodIn wsX6_makes (va_wsS RX6 53 yX6_begins wsX6_begins) := goodIn_app (goodIn_of _ (by decide +kernel)) ggX6_makes_X6_begins
theorem dX6_makes_0 : decode cX6_makes 0 = .ok (.iload_n 2, 1) := by decide +kernel
theorem dX6_makes_1 : decode cX6_makes 1 = .ok (.invokestatic 53, 3) := by decide +kernel
theorem dX6_makes_4 : decode cX6_makes 4 = .ok (.iload_n 3, 1) := by decide +kernel
theorem dX6_makes_5 : decode cX6_makes 5 = .ok (.iadd, 1) := by decide +kernel
theorem dX6_makes_6 : decode cX6_makes 6 = .ok (.istore 5, 2) := by decide +kernel
theorem dX6_makes_8 : decode cX6_makes 8 = .ok (.iload_n 1, 1) := by decide +kernel
theorem dX6_makes_9 : decode cX6_makes 9 = .ok (.bipush 24, 2) := by decide +kernel
theorem dX6_makes_11 : decode cX6_makes 11 = .ok (.if_icmp .ne 24, 3) := by decide +kernel
theorem dX6_makes_14 : decode cX6_makes 14 = .ok (.iload 4, 2) := by decide +kernel
theorem dX6_makes_16 : decode cX6_makes 16 = .ok (.ifCond .eq 19, 3) := by decide +kernel
theorem dX6_makes_19 : decode cX6_makes 19 = .ok (.aload_n 0, 1) := by decide +kernel
theorem dX6_makes_20 : decode cX6_makes 20 = .ok (.getfield 7, 3) := by decide +kernel
theorem dX6_makes_23 : decode cX6_makes 23 = .ok (.sipush 10174, 3) := by decide +kernel
theorem dX6_makes_26 : decode cX6_makes 26 = .ok (.iload 5, 2) := by decide +kernel
theorem dX6_makes_28 : decode cX6_makes 28 = .ok (.iadd, 1) := by decide +kernel
theorem dX6_makes_29 : decode cX6_makes 29 = .ok (.iaload, 1) := by decide +kernel
theorem dX6_makes_30 : decode cX6_makes 30 = .ok (.iconst 1, 1) := by decide +kernel
theorem dX6_makes_31 : decode cX6_makes 31 = .ok (.if_icmp .ne 4, 3) := by decide +kernel
theorem dX6_makes_34 : decode cX6_makes 34 = .ok (.return_, 1) := by decide +kernel
theorem dX6_makes_35 : decode cX6_makes 35 = .ok (.aload_n 0, 1) := by decide +kernel
theorem dX6_makes_36 : decode cX6_makes 36 = .ok (.getfield 7, 3) := by decide +kernel
theorem dX6_makes_39 : decode cX6_makes 39 = .ok (.sipush 403, 3) := by decide +kernel
theorem dX6_makes_42 : decode cX6_makes 42 = .ok (.iload_n 1, 1) := by decide +kernel
theorem dX6_makes_43 : decode cX6_makes 43 = .ok (.imul, 1) := by decide +kernel
theorem dX6_makes_44 : decode cX6_makes 44 = .ok (.sipush 301, 3) := by decide +kernel
theorem dX6_makes_47 : decode cX6_makes 47 = .ok (.iadd, 1) := by decide +kernel
theorem dX6_makes_48 : decode cX6_makes 48 = .ok (.iload 5, 2) := by decide +kernel
theorem dX6_makes_50 : decode cX6_makes 50 = .ok (.iadd, 1) := by decide +kernel
theorem dX6_makes_51 : decode cX6_makes 51 = .ok (.aload_n 0, 1) := by decide +kernel
theorem dX6_makes_52 : decode cX6_makes 52 = .ok (.getfield 7, 3) := by decide +kernel
theorem dX6_makes_55 : decode cX6_makes 55 = .ok (.sipush 10172, 3) := by decide +kernel
theorem dX6_makes_58 : decode cX6_makes 58 = .ok (.iaload, 1) := by decide +kernel
theorem dX6_makes_59 : decode cX6_makes 59 = .ok (.iastore, 1) := by decide +kernel
theorem dX6_makes_60 : decode cX6_makes 60 = .ok (.aload_n 0, 1) := by decide +kernel
theorem dX6_makes_61 : decode cX6_makes 61 = .ok (.getfield 7, 3) := by decide +kernel
theorem dX6_makes_64 : decode cX6_makes 64 = .ok (.sipush 10172, 3) := by decide +kernel
theorem dX6_makes_67 : decode cX6_makes 67 = .ok (.dup2, 1) := by decide +kernel
theorem dX6_makes_68 : decode cX6_makes 68 = .ok (.iaload, 1) := by decide +kernel
theorem dX6_makes_69 : decode cX6_makes 69 = .ok (.iconst 1, 1) := by decide +kernel
theorem dX6_makes_70 : decode cX6_makes 70 = .ok (.iadd, 1) := by decide +kernel
theorem dX6_makes_71 : decode cX6_makes 71 = .ok (.iastore, 1) := by decide +kernel
theorem dX6_makes_72 : decode cX6_makes 72 = .ok (.iload_n 1, 1) := by decide +kernel
theorem dX6_makes_73 : decode cX6_makes 73 = .ok (.bipush 24, 2) := by decide +kernel
theorem dX6_makes_75 : decode cX6_makes 75 = .ok (.if_icmp .ne 15, 3) := by decide +kernel
theorem dX6_makes_78 : decode cX6_makes 78 = .ok (.aload_n 0, 1) := by decide +kernel
theorem dX6_makes_79 : decode cX6_makes 79 = .ok (.getfield 7, 3) := by decide +kernel
theorem dX6_makes_82 : decode cX6_makes 82 = .ok (.sipush 10174, 3) := by decide +kernel
theorem dX6_makes_85 : decode cX6_makes 85 = .ok (.iload 5, 2) := by decide +kernel
theorem dX6_makes_87 : decode cX6_makes 87 = .ok (.iadd, 1) := by decide +kernel
theorem dX6_makes_88 : decode cX6_makes 88 = .ok (.iconst 1, 1) := by decide +kernel
theorem dX6_makes_89 : decode cX6_makes 89 = .ok (.iastore, 1) := by decide +kernel
theorem dX6_makes_90 : decode cX6_makes 90 = .ok (.return_, 1) := by decide +kernel
set_option maxRecDepth 20000 in
theorem ggX6_pushes_X6_rowLength : GoodIn wsX6_pushes wsX6_rowLength := goodIn_r _ [6, 1, 26, 27, 28, 29, 30, 31, 32, 33, 34] (by decide +kernel) (by decide +kernel)
set_option maxRecDepth 20000 in
theorem gX6_pushes_X6_rowLength : GoodIn wsX6_pushes (wsV RX6 32 RX6 yX6_rowLength wsX6_rowLength) := goodIn_app (goodIn_of _ (by decide +kernel)) ggX6_pushes_X6_rowLength
set_option maxRecDepth 20000 in
theorem ggX6_pushes_X6_leaves : GoodIn wsX6_pushes wsX6_leaves := goodIn_r _ [9] (by decide +kernel) (by decide +kernel)
set_option maxRecDepth 20000 in
theorem gX6_pushes_X6_leaves : GoodIn wsX6_pushes (va_wsS RX6 56 yX6_leaves wsX6_leaves) := goodIn_app (goodIn_of _ (by decide +kernel)) ggX6_pushes_X6_leaves
set_option maxRecDepth 20000 in
theorem ggX6_pushes_X6_makes : GoodIn wsX6_pushes wsX6_makes := goodIn_r _ [13, 1, 14, 15, 5, 16, 26, 27, 28, 29, 30, 31, 32, 33, 34] (by decide +kernel) (by decide +kernel)
set_option maxRecDepth 20000 in
theorem gX6_pushes_X6_makes : GoodIn wsX6_pushes (wsV RX6 59 RX6 yX6_makes wsX6_makes) := goodIn_app (goodIn_of _ (by decide +kernel)) ggX6_pushes_X6_makes
set_option maxRecDepth 20000 in
theorem ggX6_pushes_X6_rootLevel : GoodIn wsX6_pushes wsX6_rootLevel := goodIn_r _ [19, 20, 21, 5, 22] (by decide +kernel) (by decide +kernel)
set_option maxRecDepth 20000 in
theorem gX6_pushes_X6_rootLevel : GoodIn wsX6_pushes (va_wsS RX6 43 yX6_rootLevel wsX6_rootLevel) := goodIn_app (goodIn_of _ (by decide +kernel)) ggX6_pushes_X6_rootLevel
set_option maxRecDepth 20000 in
theorem ggX6_pushes_X6_power : GoodIn wsX6_pushes wsX6_power := goodIn_r _ [22] (by decide +kernel) (by decide +kernel)
set_option maxRecDepth 20000 in
theorem gX6_pushes_X6_power : GoodIn wsX6_pushes (va_wsS RX6 46 yX6_power wsX6_power) := goodIn_app (goodIn_of _ (by decide +kernel)) ggX6_pushes_X6_power
set_option maxRecDepth 20000 in
theorem ggX6_pushes_X6_blocks : GoodIn wsX6_pushes wsX6_blocks := goodIn_r _ [25, 17, 18, 5, 19, 20, 21, 22] (by decide +kernel) (by decide +kernel)
set_option maxRecDepth 20000 in
theorem gX6_pushes_X6_blocks : GoodIn wsX6_pushes (va_wsS RX6 49 yX6_blocks wsX6_blocks) := goodIn_app (goodIn_of _ (by decide +kernel)) ggX6_pushes_X6_blocks
theorem dX6_pushes_0 : decode cX6_pushes 0 = .ok (.aload_n 0, 1) := by decide +kernel
theorem dX6_pushes_1 : decode cX6_pushes 1 = .ok (.iload_n 1, 1) := by decide +kernel
theorem dX6_pushes_2 : decode cX6_pushes 2 = .ok (.invokevirtual 32, 3) := by decide +kernel
theorem dX6_pushes_5 : decode cX6_pushes 5 = .ok (.istore_n 3, 1) := by decide +kernel
theorem dX6_pushes_6 : decode cX6_pushes 6 = .ok (.iload_n 3, 1) := by decide +kernel
theorem dX6_pushes_7 : decode cX6_pushes 7 = .ok (.invokestatic 56, 3) := by decide +kernel
theorem dX6_pushes_10 : decode cX6_pushes 10 = .ok (.istore 4, 2) := by decide +kernel
theorem dX6_pushes_12 : decode cX6_pushes 12 = .ok (.iload_n 3, 1) := by decide +kernel
theorem dX6_pushes_13 : decode cX6_pushes 13 = .ok (.ifCond .le 79, 3) := by decide +kernel
theorem dX6_pushes_16 : decode cX6_pushes 16 = .ok (.iload_n 3, 1) := by decide +kernel
theorem dX6_pushes_17 : decode cX6_pushes 17 = .ok (.iconst 4, 1) := by decide +kernel
theorem dX6_pushes_18 : decode cX6_pushes 18 = .ok (.irem, 1) := by decide +kernel
theorem dX6_pushes_19 : decode cX6_pushes 19 = .ok (.ifCond .ne 73, 3) := by decide +kernel
theorem dX6_pushes_22 : decode cX6_pushes 22 = .ok (.aload_n 0, 1) := by decide +kernel
theorem dX6_pushes_23 : decode cX6_pushes 23 = .ok (.iload_n 1, 1) := by decide +kernel
theorem dX6_pushes_24 : decode cX6_pushes 24 = .ok (.iconst 0, 1) := by decide +kernel
theorem dX6_pushes_25 : decode cX6_pushes 25 = .ok (.iload 4, 2) := by decide +kernel
theorem dX6_pushes_27 : decode cX6_pushes 27 = .ok (.iconst 0, 1) := by decide +kernel
theorem dX6_pushes_28 : decode cX6_pushes 28 = .ok (.invokevirtual 59, 3) := by decide +kernel
theorem dX6_pushes_31 : decode cX6_pushes 31 = .ok (.iload 4, 2) := by decide +kernel
theorem dX6_pushes_33 : decode cX6_pushes 33 = .ok (.iconst 1, 1) := by decide +kernel
theorem dX6_pushes_34 : decode cX6_pushes 34 = .ok (.iadd, 1) := by decide +kernel
theorem dX6_pushes_35 : decode cX6_pushes 35 = .ok (.invokestatic 43, 3) := by decide +kernel
theorem dX6_pushes_38 : decode cX6_pushes 38 = .ok (.istore 5, 2) := by decide +kernel
theorem dX6_pushes_40 : decode cX6_pushes 40 = .ok (.iconst 1, 1) := by decide +kernel
theorem dX6_pushes_41 : decode cX6_pushes 41 = .ok (.istore 6, 2) := by decide +kernel
theorem dX6_pushes_43 : decode cX6_pushes 43 = .ok (.iload 6, 2) := by decide +kernel
theorem dX6_pushes_45 : decode cX6_pushes 45 = .ok (.iload 5, 2) := by decide +kernel
theorem dX6_pushes_47 : decode cX6_pushes 47 = .ok (.if_icmp .gt 45, 3) := by decide +kernel
theorem dX6_pushes_50 : decode cX6_pushes 50 = .ok (.iload 4, 2) := by decide +kernel
theorem dX6_pushes_52 : decode cX6_pushes 52 = .ok (.iload 6, 2) := by decide +kernel
theorem dX6_pushes_54 : decode cX6_pushes 54 = .ok (.invokestatic 46, 3) := by decide +kernel
theorem dX6_pushes_57 : decode cX6_pushes 57 = .ok (.idiv, 1) := by decide +kernel
theorem dX6_pushes_58 : decode cX6_pushes 58 = .ok (.istore 7, 2) := by decide +kernel
theorem dX6_pushes_60 : decode cX6_pushes 60 = .ok (.aload_n 0, 1) := by decide +kernel
theorem dX6_pushes_61 : decode cX6_pushes 61 = .ok (.iload_n 1, 1) := by decide +kernel
theorem dX6_pushes_62 : decode cX6_pushes 62 = .ok (.iload 6, 2) := by decide +kernel
theorem dX6_pushes_64 : decode cX6_pushes 64 = .ok (.iload 7, 2) := by decide +kernel
theorem dX6_pushes_66 : decode cX6_pushes 66 = .ok (.iload 7, 2) := by decide +kernel
theorem dX6_pushes_68 : decode cX6_pushes 68 = .ok (.iload 4, 2) := by decide +kernel
theorem dX6_pushes_70 : decode cX6_pushes 70 = .ok (.iload 6, 2) := by decide +kernel
theorem dX6_pushes_72 : decode cX6_pushes 72 = .ok (.invokestatic 49, 3) := by decide +kernel
theorem dX6_pushes_75 : decode cX6_pushes 75 = .ok (.if_icmp .ge 7, 3) := by decide +kernel
theorem dX6_pushes_78 : decode cX6_pushes 78 = .ok (.iconst 1, 1) := by decide +kernel
theorem dX6_pushes_79 : decode cX6_pushes 79 = .ok (.goto 4, 3) := by decide +kernel
theorem dX6_pushes_82 : decode cX6_pushes 82 = .ok (.iconst 0, 1) := by decide +kernel
theorem dX6_pushes_83 : decode cX6_pushes 83 = .ok (.invokevirtual 59, 3) := by decide +kernel
theorem dX6_pushes_86 : decode cX6_pushes 86 = .ok (.iinc 6 1, 3) := by decide +kernel
theorem dX6_pushes_89 : decode cX6_pushes 89 = .ok (.goto (-46), 3) := by decide +kernel
theorem dX6_pushes_92 : decode cX6_pushes 92 = .ok (.aload_n 0, 1) := by decide +kernel
theorem dX6_pushes_93 : decode cX6_pushes 93 = .ok (.getfield 7, 3) := by decide +kernel
theorem dX6_pushes_96 : decode cX6_pushes 96 = .ok (.sipush 403, 3) := by decide +kernel
theorem dX6_pushes_99 : decode cX6_pushes 99 = .ok (.iload_n 1, 1) := by decide +kernel
theorem dX6_pushes_100 : decode cX6_pushes 100 = .ok (.imul, 1) := by decide +kernel
theorem dX6_pushes_101 : decode cX6_pushes 101 = .ok (.iconst 1, 1) := by decide +kernel
theorem dX6_pushes_102 : decode cX6_pushes 102 = .ok (.iadd, 1) := by decide +kernel
theorem dX6_pushes_103 : decode cX6_pushes 103 = .ok (.iload_n 3, 1) := by decide +kernel
theorem dX6_pushes_104 : decode cX6_pushes 104 = .ok (.iadd, 1) := by decide +kernel
theorem dX6_pushes_105 : decode cX6_pushes 105 = .ok (.iload_n 2, 1) := by decide +kernel
theorem dX6_pushes_106 : decode cX6_pushes 106 = .ok (.iastore, 1) := by decide +kernel
theorem dX6_pushes_107 : decode cX6_pushes 107 = .ok (.aload_n 0, 1) := by decide +kernel
theorem dX6_pushes_108 : decode cX6_pushes 108 = .ok (.getfield 7, 3) := by decide +kernel
theorem dX6_pushes_111 : decode cX6_pushes 111 = .ok (.sipush 403, 3) := by decide +kernel
theorem dX6_pushes_114 : decode cX6_pushes 114 = .ok (.iload_n 1, 1) := by decide +kernel
theorem dX6_pushes_115 : decode cX6_pushes 115 = .ok (.imul, 1) := by decide +kernel
theorem dX6_pushes_116 : decode cX6_pushes 116 = .ok (.iload_n 3, 1) := by decide +kernel
theorem dX6_pushes_117 : decode cX6_pushes 117 = .ok (.iconst 1, 1) := by decide +kernel
theorem dX6_pushes_118 : decode cX6_pushes 118 = .ok (.iadd, 1) := by decide +kernel
theorem dX6_pushes_119 : decode cX6_pushes 119 = .ok (.iastore, 1) := by decide +kernel
theorem dX6_pushes_120 : decode cX6_pushes 120 = .ok (.return_, 1) := by decide +kernel
set_option maxRecDepth 20000 in
theorem ggX6_sets_X6_rowLength : GoodIn wsX6_sets wsX6_rowLength := goodIn_r _ [6, 1, 23, 24, 25, 26, 27, 28, 29, 30, 31] (by decide +kernel) (by decide +kernel)
set_option maxRecDepth 20000 in
theorem gX6_sets_X6_rowLength : GoodIn wsX6_sets (wsV RX6 32 RX6 yX6_rowLength wsX6_rowLength) := goodIn_app (goodIn_of _ (by decide +kernel)) ggX6_sets_X6_rowLength
set_option maxRecDepth 20000 in
theorem ggX6_sets_X6_leaves : GoodIn wsX6_sets wsX6_leaves := goodIn_r _ [9] (by decide +kernel) (by decide +kernel)
set_option maxRecDepth 20000 in
theorem gX6_sets_X6_leaves : GoodIn wsX6_sets (va_wsS RX6 56 yX6_leaves wsX6_leaves) := goodIn_app (goodIn_of _ (by decide +kernel)) ggX6_sets_X6_leaves
set_option maxRecDepth 20000 in
theorem ggX6_sets_X6_rootLevel : GoodIn wsX6_sets wsX6_rootLevel := goodIn_r _ [12, 13, 14, 5, 15] (by decide +kernel) (by decide +kernel)
set_option maxRecDepth 20000 in
theorem gX6_sets_X6_rootLevel : GoodIn wsX6_sets (va_wsS RX6 43 yX6_rootLevel wsX6_rootLevel) := goodIn_app (goodIn_of _ (by decide +kernel)) ggX6_sets_X6_rootLevel
set_option maxRecDepth 20000 in
theorem ggX6_sets_X6_power : GoodIn wsX6_sets wsX6_power := goodIn_r _ [15] (by decide +kernel) (by decide +kernel)
set_option maxRecDepth 20000 in
theorem gX6_sets_X6_power : GoodIn wsX6_sets (va_wsS RX6 46 yX6_power wsX6_power) := goodIn_app (goodIn_of _ (by decide +kernel)) ggX6_sets_X6_power
set_option maxRecDepth 20000 in
theorem ggX6_sets_X6_makes : GoodIn wsX6_sets wsX6_makes := goodIn_r _ [19, 1, 20, 21, 5, 22, 23, 24, 25, 26, 27, 28, 29, 30, 31] (by decide +kernel) (by decide +kernel)
set_option maxRecDepth 20000 in
theorem gX6_sets_X6_makes : GoodIn wsX6_sets (wsV RX6 59 RX6 yX6_makes wsX6_makes) := goodIn_app (goodIn_of _ (by decide +kernel)) ggX6_sets_X6_makes
theorem dX6_sets_0 : decode cX6_sets 0 = .ok (.aload_n 0, 1) := by decide +kernel
theorem dX6_sets_1 : decode cX6_sets 1 = .ok (.iload_n 1, 1) := by decide +kernel
theorem dX6_sets_2 : decode cX6_sets 2 = .ok (.invokevirtual 32, 3) := by decide +kernel
theorem dX6_sets_5 : decode cX6_sets 5 = .ok (.invokestatic 56, 3) := by decide +kernel
theorem dX6_sets_8 : decode cX6_sets 8 = .ok (.istore 4, 2) := by decide +kernel
theorem dX6_sets_10 : decode cX6_sets 10 = .ok (.iload_n 2, 1) := by decide +kernel
theorem dX6_sets_11 : decode cX6_sets 11 = .ok (.iconst 4, 1) := by decide +kernel
theorem dX6_sets_12 : decode cX6_sets 12 = .ok (.iload 4, 2) := by decide +kernel
theorem dX6_sets_14 : decode cX6_sets 14 = .ok (.imul, 1) := by decide +kernel
theorem dX6_sets_15 : decode cX6_sets 15 = .ok (.if_icmp .ge 43, 3) := by decide +kernel
theorem dX6_sets_18 : decode cX6_sets 18 = .ok (.iload_n 2, 1) := by decide +kernel
theorem dX6_sets_19 : decode cX6_sets 19 = .ok (.iconst 4, 1) := by decide +kernel
theorem dX6_sets_20 : decode cX6_sets 20 = .ok (.idiv, 1) := by decide +kernel
theorem dX6_sets_21 : decode cX6_sets 21 = .ok (.istore 5, 2) := by decide +kernel
theorem dX6_sets_23 : decode cX6_sets 23 = .ok (.iconst 0, 1) := by decide +kernel
theorem dX6_sets_24 : decode cX6_sets 24 = .ok (.istore 6, 2) := by decide +kernel
theorem dX6_sets_26 : decode cX6_sets 26 = .ok (.iload 6, 2) := by decide +kernel
theorem dX6_sets_28 : decode cX6_sets 28 = .ok (.iload 4, 2) := by decide +kernel
theorem dX6_sets_30 : decode cX6_sets 30 = .ok (.invokestatic 43, 3) := by decide +kernel
theorem dX6_sets_33 : decode cX6_sets 33 = .ok (.if_icmp .gt 25, 3) := by decide +kernel
theorem dX6_sets_36 : decode cX6_sets 36 = .ok (.aload_n 0, 1) := by decide +kernel
theorem dX6_sets_37 : decode cX6_sets 37 = .ok (.iload_n 1, 1) := by decide +kernel
theorem dX6_sets_38 : decode cX6_sets 38 = .ok (.iload 6, 2) := by decide +kernel
theorem dX6_sets_40 : decode cX6_sets 40 = .ok (.iload 5, 2) := by decide +kernel
theorem dX6_sets_42 : decode cX6_sets 42 = .ok (.iload 6, 2) := by decide +kernel
theorem dX6_sets_44 : decode cX6_sets 44 = .ok (.invokestatic 46, 3) := by decide +kernel
theorem dX6_sets_47 : decode cX6_sets 47 = .ok (.idiv, 1) := by decide +kernel
theorem dX6_sets_48 : decode cX6_sets 48 = .ok (.iconst 1, 1) := by decide +kernel
theorem dX6_sets_49 : decode cX6_sets 49 = .ok (.invokevirtual 59, 3) := by decide +kernel
theorem dX6_sets_52 : decode cX6_sets 52 = .ok (.iinc 6 1, 3) := by decide +kernel
theorem dX6_sets_55 : decode cX6_sets 55 = .ok (.goto (-29), 3) := by decide +kernel
theorem dX6_sets_58 : decode cX6_sets 58 = .ok (.aload_n 0, 1) := by decide +kernel
theorem dX6_sets_59 : decode cX6_sets 59 = .ok (.getfield 7, 3) := by decide +kernel
theorem dX6_sets_62 : decode cX6_sets 62 = .ok (.sipush 403, 3) := by decide +kernel
theorem dX6_sets_65 : decode cX6_sets 65 = .ok (.iload_n 1, 1) := by decide +kernel
theorem dX6_sets_66 : decode cX6_sets 66 = .ok (.imul, 1) := by decide +kernel
theorem dX6_sets_67 : decode cX6_sets 67 = .ok (.iconst 1, 1) := by decide +kernel
theorem dX6_sets_68 : decode cX6_sets 68 = .ok (.iadd, 1) := by decide +kernel
theorem dX6_sets_69 : decode cX6_sets 69 = .ok (.iload_n 2, 1) := by decide +kernel
theorem dX6_sets_70 : decode cX6_sets 70 = .ok (.iadd, 1) := by decide +kernel
theorem dX6_sets_71 : decode cX6_sets 71 = .ok (.iload_n 3, 1) := by decide +kernel
theorem dX6_sets_72 : decode cX6_sets 72 = .ok (.iastore, 1) := by decide +kernel
theorem dX6_sets_73 : decode cX6_sets 73 = .ok (.return_, 1) := by decide +kernel
set_option maxRecDepth 20000 in
theorem ggX6_pops_X6_rowLength : GoodIn wsX6_pops wsX6_rowLength := goodIn_r _ [6, 1, 26, 27, 28, 29, 30, 31, 32, 33, 34] (by decide +kernel) (by decide +kernel)
set_option maxRecDepth 20000 in
theorem gX6_pops_X6_rowLength : GoodIn wsX6_pops (wsV RX6 32 RX6 yX6_rowLength wsX6_rowLength) := goodIn_app (goodIn_of _ (by decide +kernel)) ggX6_pops_X6_rowLength
set_option maxRecDepth 20000 in
theorem ggX6_pops_X6_leaves : GoodIn wsX6_pops wsX6_leaves := goodIn_r _ [9] (by decide +kernel) (by decide +kernel)
set_option maxRecDepth 20000 in
theorem gX6_pops_X6_leaves : GoodIn wsX6_pops (va_wsS RX6 56 yX6_leaves wsX6_leaves) := goodIn_app (goodIn_of _ (by decide +kernel)) ggX6_pops_X6_leaves
set_option maxRecDepth 20000 in
theorem ggX6_pops_X6_rootLevel : GoodIn wsX6_pops wsX6_rootLevel := goodIn_r _ [12, 13, 14, 5, 15] (by decide +kernel) (by decide +kernel)
set_option maxRecDepth 20000 in
theorem gX6_pops_X6_rootLevel : GoodIn wsX6_pops (va_wsS RX6 43 yX6_rootLevel wsX6_rootLevel) := goodIn_app (goodIn_of _ (by decide +kernel)) ggX6_pops_X6_rootLevel
set_option maxRecDepth 20000 in
theorem ggX6_pops_X6_power : GoodIn wsX6_pops wsX6_power := goodIn_r _ [15] (by decide +kernel) (by decide +kernel)
set_option maxRecDepth 20000 in
theorem gX6_pops_X6_power : GoodIn wsX6_pops (va_wsS RX6 46 yX6_power wsX6_power) := goodIn_app (goodIn_of _ (by decide +kernel)) ggX6_pops_X6_power
set_option maxRecDepth 20000 in
theorem ggX6_pops_X6_blocks : GoodIn wsX6_pops wsX6_blocks := goodIn_r _ [18, 10, 11, 5, 12, 13, 14, 15] (by decide +kernel) (by decide +kernel)
set_option maxRecDepth 20000 in
theorem gX6_pops_X6_blocks : GoodIn wsX6_pops (va_wsS RX6 49 yX6_blocks wsX6_blocks) := goodIn_app (goodIn_of _ (by decide +kernel)) ggX6_pops_X6_blocks
set_option maxRecDepth 20000 in
theorem ggX6_pops_X6_makes : GoodIn wsX6_pops wsX6_makes := goodIn_r _ [22, 1, 23, 24, 5, 25, 26, 27, 28, 29, 30, 31, 32, 33, 34] (by decide +kernel) (by decide +kernel)
set_option maxRecDepth 20000 in
theorem gX6_pops_X6_makes : GoodIn wsX6_pops (wsV RX6 59 RX6 yX6_makes wsX6_makes) := goodIn_app (goodIn_of _ (by decide +kernel)) ggX6_pops_X6_makes
theorem dX6_pops_0 : decode cX6_pops 0 = .ok (.aload_n 0, 1) := by decide +kernel
theorem dX6_pops_1 : decode cX6_pops 1 = .ok (.iload_n 1, 1) := by decide +kernel
theorem dX6_pops_2 : decode cX6_pops 2 = .ok (.invokevirtual 32, 3) := by decide +kernel
theorem dX6_pops_5 : decode cX6_pops 5 = .ok (.iconst 1, 1) := by decide +kernel
theorem dX6_pops_6 : decode cX6_pops 6 = .ok (.isub, 1) := by decide +kernel
theorem dX6_pops_7 : decode cX6_pops 7 = .ok (.istore_n 2, 1) := by decide +kernel
theorem dX6_pops_8 : decode cX6_pops 8 = .ok (.iload_n 2, 1) := by decide +kernel
theorem dX6_pops_9 : decode cX6_pops 9 = .ok (.iconst 1, 1) := by decide +kernel
theorem dX6_pops_10 : decode cX6_pops 10 = .ok (.iadd, 1) := by decide +kernel
theorem dX6_pops_11 : decode cX6_pops 11 = .ok (.invokestatic 56, 3) := by decide +kernel
theorem dX6_pops_14 : decode cX6_pops 14 = .ok (.istore_n 3, 1) := by decide +kernel
theorem dX6_pops_15 : decode cX6_pops 15 = .ok (.iload_n 2, 1) := by decide +kernel
theorem dX6_pops_16 : decode cX6_pops 16 = .ok (.invokestatic 56, 3) := by decide +kernel
theorem dX6_pops_19 : decode cX6_pops 19 = .ok (.istore 4, 2) := by decide +kernel
theorem dX6_pops_21 : decode cX6_pops 21 = .ok (.iload 4, 2) := by decide +kernel
theorem dX6_pops_23 : decode cX6_pops 23 = .ok (.iload_n 3, 1) := by decide +kernel
theorem dX6_pops_24 : decode cX6_pops 24 = .ok (.if_icmp .ge 54, 3) := by decide +kernel
theorem dX6_pops_27 : decode cX6_pops 27 = .ok (.iconst 1, 1) := by decide +kernel
theorem dX6_pops_28 : decode cX6_pops 28 = .ok (.istore 5, 2) := by decide +kernel
theorem dX6_pops_30 : decode cX6_pops 30 = .ok (.iload 5, 2) := by decide +kernel
theorem dX6_pops_32 : decode cX6_pops 32 = .ok (.iload 4, 2) := by decide +kernel
theorem dX6_pops_34 : decode cX6_pops 34 = .ok (.invokestatic 43, 3) := by decide +kernel
theorem dX6_pops_37 : decode cX6_pops 37 = .ok (.if_icmp .gt 41, 3) := by decide +kernel
theorem dX6_pops_40 : decode cX6_pops 40 = .ok (.iload 4, 2) := by decide +kernel
theorem dX6_pops_42 : decode cX6_pops 42 = .ok (.iload 5, 2) := by decide +kernel
theorem dX6_pops_44 : decode cX6_pops 44 = .ok (.invokestatic 46, 3) := by decide +kernel
theorem dX6_pops_47 : decode cX6_pops 47 = .ok (.idiv, 1) := by decide +kernel
theorem dX6_pops_48 : decode cX6_pops 48 = .ok (.istore 6, 2) := by decide +kernel
theorem dX6_pops_50 : decode cX6_pops 50 = .ok (.iload 6, 2) := by decide +kernel
theorem dX6_pops_52 : decode cX6_pops 52 = .ok (.iload 4, 2) := by decide +kernel
theorem dX6_pops_54 : decode cX6_pops 54 = .ok (.iload 5, 2) := by decide +kernel
theorem dX6_pops_56 : decode cX6_pops 56 = .ok (.invokestatic 49, 3) := by decide +kernel
theorem dX6_pops_59 : decode cX6_pops 59 = .ok (.if_icmp .ge 13, 3) := by decide +kernel
theorem dX6_pops_62 : decode cX6_pops 62 = .ok (.aload_n 0, 1) := by decide +kernel
theorem dX6_pops_63 : decode cX6_pops 63 = .ok (.iload_n 1, 1) := by decide +kernel
theorem dX6_pops_64 : decode cX6_pops 64 = .ok (.iload 5, 2) := by decide +kernel
theorem dX6_pops_66 : decode cX6_pops 66 = .ok (.iload 6, 2) := by decide +kernel
theorem dX6_pops_68 : decode cX6_pops 68 = .ok (.iconst 1, 1) := by decide +kernel
theorem dX6_pops_69 : decode cX6_pops 69 = .ok (.invokevirtual 59, 3) := by decide +kernel
theorem dX6_pops_72 : decode cX6_pops 72 = .ok (.iinc 5 1, 3) := by decide +kernel
theorem dX6_pops_75 : decode cX6_pops 75 = .ok (.goto (-45), 3) := by decide +kernel
theorem dX6_pops_78 : decode cX6_pops 78 = .ok (.aload_n 0, 1) := by decide +kernel
theorem dX6_pops_79 : decode cX6_pops 79 = .ok (.getfield 7, 3) := by decide +kernel
theorem dX6_pops_82 : decode cX6_pops 82 = .ok (.sipush 403, 3) := by decide +kernel
theorem dX6_pops_85 : decode cX6_pops 85 = .ok (.iload_n 1, 1) := by decide +kernel
theorem dX6_pops_86 : decode cX6_pops 86 = .ok (.imul, 1) := by decide +kernel
theorem dX6_pops_87 : decode cX6_pops 87 = .ok (.iload_n 2, 1) := by decide +kernel
theorem dX6_pops_88 : decode cX6_pops 88 = .ok (.iastore, 1) := by decide +kernel
theorem dX6_pops_89 : decode cX6_pops 89 = .ok (.return_, 1) := by decide +kernel
theorem dX6_isFull_0 : decode cX6_isFull 0 = .ok (.aload_n 0, 1) := by decide +kernel
theorem dX6_isFull_1 : decode cX6_isFull 1 = .ok (.getfield 7, 3) := by decide +kernel
theorem dX6_isFull_4 : decode cX6_isFull 4 = .ok (.sipush 10171, 3) := by decide +kernel
theorem dX6_isFull_7 : decode cX6_isFull 7 = .ok (.iaload, 1) := by decide +kernel
theorem dX6_isFull_8 : decode cX6_isFull 8 = .ok (.bipush 24, 2) := by decide +kernel
theorem dX6_isFull_10 : decode cX6_isFull 10 = .ok (.if_icmp .ne 7, 3) := by decide +kernel
theorem dX6_isFull_13 : decode cX6_isFull 13 = .ok (.iconst 1, 1) := by decide +kernel
theorem dX6_isFull_14 : decode cX6_isFull 14 = .ok (.goto 4, 3) := by decide +kernel
theorem dX6_isFull_17 : decode cX6_isFull 17 = .ok (.iconst 0, 1) := by decide +kernel
theorem dX6_isFull_18 : decode cX6_isFull 18 = .ok (.ireturn, 1) := by decide +kernel
theorem dX6_copies_0 : decode cX6_copies 0 = .ok (.iconst 0, 1) := by decide +kernel
theorem dX6_copies_1 : decode cX6_copies 1 = .ok (.istore_n 3, 1) := by decide +kernel
theorem dX6_copies_2 : decode cX6_copies 2 = .ok (.iload_n 3, 1) := by decide +kernel
theorem dX6_copies_3 : decode cX6_copies 3 = .ok (.sipush 403, 3) := by decide +kernel
theorem dX6_copies_6 : decode cX6_copies 6 = .ok (.if_icmp .ge 33, 3) := by decide +kernel
theorem dX6_copies_9 : decode cX6_copies 9 = .ok (.aload_n 0, 1) := by decide +kernel
theorem dX6_copies_10 : decode cX6_copies 10 = .ok (.getfield 7, 3) := by decide +kernel
theorem dX6_copies_13 : decode cX6_copies 13 = .ok (.sipush 403, 3) := by decide +kernel
theorem dX6_copies_16 : decode cX6_copies 16 = .ok (.iload_n 2, 1) := by decide +kernel
theorem dX6_copies_17 : decode cX6_copies 17 = .ok (.imul, 1) := by decide +kernel
theorem dX6_copies_18 : decode cX6_copies 18 = .ok (.iload_n 3, 1) := by decide +kernel
theorem dX6_copies_19 : decode cX6_copies 19 = .ok (.iadd, 1) := by decide +kernel
theorem dX6_copies_20 : decode cX6_copies 20 = .ok (.aload_n 0, 1) := by decide +kernel
theorem dX6_copies_21 : decode cX6_copies 21 = .ok (.getfield 7, 3) := by decide +kernel
theorem dX6_copies_24 : decode cX6_copies 24 = .ok (.sipush 403, 3) := by decide +kernel
theorem dX6_copies_27 : decode cX6_copies 27 = .ok (.iload_n 1, 1) := by decide +kernel
theorem dX6_copies_28 : decode cX6_copies 28 = .ok (.imul, 1) := by decide +kernel
theorem dX6_copies_29 : decode cX6_copies 29 = .ok (.iload_n 3, 1) := by decide +kernel
theorem dX6_copies_30 : decode cX6_copies 30 = .ok (.iadd, 1) := by decide +kernel
theorem dX6_copies_31 : decode cX6_copies 31 = .ok (.iaload, 1) := by decide +kernel
theorem dX6_copies_32 : decode cX6_copies 32 = .ok (.iastore, 1) := by decide +kernel
theorem dX6_copies_33 : decode cX6_copies 33 = .ok (.iinc 3 1, 3) := by decide +kernel
theorem dX6_copies_36 : decode cX6_copies 36 = .ok (.goto (-34), 3) := by decide +kernel
theorem dX6_copies_39 : decode cX6_copies 39 = .ok (.return_, 1) := by decide +kernel
set_option maxRecDepth 20000 in
theorem ggX6_comes_X6_copies : GoodIn wsX6_comes wsX6_copies := goodIn_r _ [6, 1, 7, 8, 9, 10, 11, 12, 13, 14, 15] (by decide +kernel) (by decide +kernel)
set_option maxRecDepth 20000 in
theorem gX6_comes_X6_copies : GoodIn wsX6_comes (wsV RX6 63 RX6 yX6_copies wsX6_copies) := goodIn_app (goodIn_of _ (by decide +kernel)) ggX6_comes_X6_copies
theorem dX6_comes_0 : decode cX6_comes 0 = .ok (.aload_n 0, 1) := by decide +kernel
theorem dX6_comes_1 : decode cX6_comes 1 = .ok (.getfield 7, 3) := by decide +kernel
theorem dX6_comes_4 : decode cX6_comes 4 = .ok (.sipush 10171, 3) := by decide +kernel
theorem dX6_comes_7 : decode cX6_comes 7 = .ok (.iaload, 1) := by decide +kernel
theorem dX6_comes_8 : decode cX6_comes 8 = .ok (.istore 5, 2) := by decide +kernel
theorem dX6_comes_10 : decode cX6_comes 10 = .ok (.aload_n 0, 1) := by decide +kernel
theorem dX6_comes_11 : decode cX6_comes 11 = .ok (.iload_n 1, 1) := by decide +kernel
theorem dX6_comes_12 : decode cX6_comes 12 = .ok (.iload 5, 2) := by decide +kernel
theorem dX6_comes_14 : decode cX6_comes 14 = .ok (.invokevirtual 63, 3) := by decide +kernel
theorem dX6_comes_17 : decode cX6_comes 17 = .ok (.aload_n 0, 1) := by decide +kernel
theorem dX6_comes_18 : decode cX6_comes 18 = .ok (.getfield 7, 3) := by decide +kernel
theorem dX6_comes_21 : decode cX6_comes 21 = .ok (.sipush 10075, 3) := by decide +kernel
theorem dX6_comes_24 : decode cX6_comes 24 = .ok (.iconst 4, 1) := by decide +kernel
theorem dX6_comes_25 : decode cX6_comes 25 = .ok (.iload 5, 2) := by decide +kernel
theorem dX6_comes_27 : decode cX6_comes 27 = .ok (.imul, 1) := by decide +kernel
theorem dX6_comes_28 : decode cX6_comes 28 = .ok (.iadd, 1) := by decide +kernel
theorem dX6_comes_29 : decode cX6_comes 29 = .ok (.iconst 1, 1) := by decide +kernel
theorem dX6_comes_30 : decode cX6_comes 30 = .ok (.iastore, 1) := by decide +kernel
theorem dX6_comes_31 : decode cX6_comes 31 = .ok (.aload_n 0, 1) := by decide +kernel
theorem dX6_comes_32 : decode cX6_comes 32 = .ok (.getfield 7, 3) := by decide +kernel
theorem dX6_comes_35 : decode cX6_comes 35 = .ok (.sipush 10075, 3) := by decide +kernel
theorem dX6_comes_38 : decode cX6_comes 38 = .ok (.iconst 4, 1) := by decide +kernel
theorem dX6_comes_39 : decode cX6_comes 39 = .ok (.iload 5, 2) := by decide +kernel
theorem dX6_comes_41 : decode cX6_comes 41 = .ok (.imul, 1) := by decide +kernel
theorem dX6_comes_42 : decode cX6_comes 42 = .ok (.iadd, 1) := by decide +kernel
theorem dX6_comes_43 : decode cX6_comes 43 = .ok (.iconst 1, 1) := by decide +kernel
theorem dX6_comes_44 : decode cX6_comes 44 = .ok (.iadd, 1) := by decide +kernel
theorem dX6_comes_45 : decode cX6_comes 45 = .ok (.iload_n 2, 1) := by decide +kernel
theorem dX6_comes_46 : decode cX6_comes 46 = .ok (.ifCond .eq 7, 3) := by decide +kernel
theorem dX6_comes_49 : decode cX6_comes 49 = .ok (.iconst 1, 1) := by decide +kernel
theorem dX6_comes_50 : decode cX6_comes 50 = .ok (.goto 4, 3) := by decide +kernel
theorem dX6_comes_53 : decode cX6_comes 53 = .ok (.iconst 0, 1) := by decide +kernel
theorem dX6_comes_54 : decode cX6_comes 54 = .ok (.iastore, 1) := by decide +kernel
theorem dX6_comes_55 : decode cX6_comes 55 = .ok (.aload_n 0, 1) := by decide +kernel
theorem dX6_comes_56 : decode cX6_comes 56 = .ok (.getfield 7, 3) := by decide +kernel
theorem dX6_comes_59 : decode cX6_comes 59 = .ok (.sipush 10075, 3) := by decide +kernel
theorem dX6_comes_62 : decode cX6_comes 62 = .ok (.iconst 4, 1) := by decide +kernel
theorem dX6_comes_63 : decode cX6_comes 63 = .ok (.iload 5, 2) := by decide +kernel
theorem dX6_comes_65 : decode cX6_comes 65 = .ok (.imul, 1) := by decide +kernel
theorem dX6_comes_66 : decode cX6_comes 66 = .ok (.iadd, 1) := by decide +kernel
theorem dX6_comes_67 : decode cX6_comes 67 = .ok (.iconst 2, 1) := by decide +kernel
theorem dX6_comes_68 : decode cX6_comes 68 = .ok (.iadd, 1) := by decide +kernel
theorem dX6_comes_69 : decode cX6_comes 69 = .ok (.iload_n 3, 1) := by decide +kernel
theorem dX6_comes_70 : decode cX6_comes 70 = .ok (.iastore, 1) := by decide +kernel
theorem dX6_comes_71 : decode cX6_comes 71 = .ok (.aload_n 0, 1) := by decide +kernel
theorem dX6_comes_72 : decode cX6_comes 72 = .ok (.getfield 7, 3) := by decide +kernel
theorem dX6_comes_75 : decode cX6_comes 75 = .ok (.sipush 10075, 3) := by decide +kernel
theorem dX6_comes_78 : decode cX6_comes 78 = .ok (.iconst 4, 1) := by decide +kernel
theorem dX6_comes_79 : decode cX6_comes 79 = .ok (.iload 5, 2) := by decide +kernel
theorem dX6_comes_81 : decode cX6_comes 81 = .ok (.imul, 1) := by decide +kernel
theorem dX6_comes_82 : decode cX6_comes 82 = .ok (.iadd, 1) := by decide +kernel
theorem dX6_comes_83 : decode cX6_comes 83 = .ok (.iconst 3, 1) := by decide +kernel
theorem dX6_comes_84 : decode cX6_comes 84 = .ok (.iadd, 1) := by decide +kernel
theorem dX6_comes_85 : decode cX6_comes 85 = .ok (.iload 4, 2) := by decide +kernel
theorem dX6_comes_87 : decode cX6_comes 87 = .ok (.iastore, 1) := by decide +kernel
theorem dX6_comes_88 : decode cX6_comes 88 = .ok (.aload_n 0, 1) := by decide +kernel
theorem dX6_comes_89 : decode cX6_comes 89 = .ok (.getfield 7, 3) := by decide +kernel
theorem dX6_comes_92 : decode cX6_comes 92 = .ok (.sipush 10171, 3) := by decide +kernel
theorem dX6_comes_95 : decode cX6_comes 95 = .ok (.dup2, 1) := by decide +kernel
theorem dX6_comes_96 : decode cX6_comes 96 = .ok (.iaload, 1) := by decide +kernel
theorem dX6_comes_97 : decode cX6_comes 97 = .ok (.iconst 1, 1) := by decide +kernel
theorem dX6_comes_98 : decode cX6_comes 98 = .ok (.iadd, 1) := by decide +kernel
theorem dX6_comes_99 : decode cX6_comes 99 = .ok (.iastore, 1) := by decide +kernel
theorem dX6_comes_100 : decode cX6_comes 100 = .ok (.iload 5, 2) := by decide +kernel
theorem dX6_comes_102 : decode cX6_comes 102 = .ok (.ireturn, 1) := by decide +kernel
set_option maxRecDepth 20000 in
theorem ggX6_push_X6_no : GoodIn wsX6_push wsX6_no := goodIn_r _ [5, 6, 7, 8, 4, 9, 71, 72, 73, 74, 75, 76, 77, 78, 79] (by decide +kernel) (by decide +kernel)
set_option maxRecDepth 20000 in
theorem gX6_push_X6_no : GoodIn wsX6_push (wsV RX6 67 RX6 yX6_no wsX6_no) := goodIn_app (goodIn_of _ (by decide +kernel)) ggX6_push_X6_no
set_option maxRecDepth 20000 in
theorem ggX6_push_X6_in : GoodIn wsX6_push wsX6_in := goodIn_r _ [9] (by decide +kernel) (by decide +kernel)
set_option maxRecDepth 20000 in
theorem gX6_push_X6_in : GoodIn wsX6_push (va_wsS RX6 24 yX6_in wsX6_in) := goodIn_app (goodIn_of _ (by decide +kernel)) ggX6_push_X6_in
set_option maxRecDepth 20000 in
theorem ggX6_push_X6_first : GoodIn wsX6_push wsX6_first := goodIn_r _ [13, 6, 71, 72, 73, 74, 75, 76, 77, 78, 79] (by decide +kernel) (by decide +kernel)
set_option maxRecDepth 20000 in
theorem gX6_push_X6_first : GoodIn wsX6_push (wsV RX6 36 RX6 yX6_first wsX6_first) := goodIn_app (goodIn_of _ (by decide +kernel)) ggX6_push_X6_first
set_option maxRecDepth 20000 in
theorem ggX6_push_X6_length : GoodIn wsX6_push wsX6_length := goodIn_r _ [17, 6, 18, 19, 20, 4, 21, 22, 23, 24, 25, 71, 72, 73, 74, 75, 76, 77, 78, 79] (by decide +kernel) (by decide +kernel)
set_option maxRecDepth 20000 in
theorem gX6_push_X6_length : GoodIn wsX6_push (wsV RX6 70 RX6 yX6_length wsX6_length) := goodIn_app (goodIn_of _ (by decide +kernel)) ggX6_push_X6_length
set_option maxRecDepth 20000 in
theorem ggX6_push_X6_rowLength : GoodIn wsX6_push wsX6_rowLength := goodIn_r _ [25, 6, 71, 72, 73, 74, 75, 76, 77, 78, 79] (by decide +kernel) (by decide +kernel)
set_option maxRecDepth 20000 in
theorem gX6_push_X6_rowLength : GoodIn wsX6_push (wsV RX6 32 RX6 yX6_rowLength wsX6_rowLength) := goodIn_app (goodIn_of _ (by decide +kernel)) ggX6_push_X6_rowLength
set_option maxRecDepth 20000 in
theorem ggX6_push_X6_isFull : GoodIn wsX6_push wsX6_isFull := goodIn_r _ [29, 6, 71, 72, 73, 74, 75, 76, 77, 78, 79] (by decide +kernel) (by decide +kernel)
set_option maxRecDepth 20000 in
theorem gX6_push_X6_isFull : GoodIn wsX6_push (wsV RX6 73 RX6 yX6_isFull wsX6_isFull) := goodIn_app (goodIn_of _ (by decide +kernel)) ggX6_push_X6_isFull
set_option maxRecDepth 20000 in
theorem ggX6_push_X6_record : GoodIn wsX6_push wsX6_record := goodIn_r _ [33, 34, 35, 6, 71, 72, 73, 74, 75, 76, 77, 78, 79] (by decide +kernel) (by decide +kernel)
set_option maxRecDepth 20000 in
theorem gX6_push_X6_record : GoodIn wsX6_push (wsV RX6 77 RX6 yX6_record wsX6_record) := goodIn_app (goodIn_of _ (by decide +kernel)) ggX6_push_X6_record
set_option maxRecDepth 20000 in
theorem ggX6_push_X6_isWindow : GoodIn wsX6_push wsX6_isWindow := goodIn_r _ [21, 6, 71, 72, 73, 74, 75, 76, 77, 78, 79] (by decide +kernel) (by decide +kernel)
set_option maxRecDepth 20000 in
theorem gX6_push_X6_isWindow : GoodIn wsX6_push (wsV RX6 28 RX6 yX6_isWindow wsX6_isWindow) := goodIn_app (goodIn_of _ (by decide +kernel)) ggX6_push_X6_isWindow
set_option maxRecDepth 20000 in
theorem ggX6_push_X6_comes : GoodIn wsX6_push wsX6_comes := goodIn_r _ [39, 6, 40, 41, 42, 4, 43, 71, 72, 73, 74, 75, 76, 77, 78, 79] (by decide +kernel) (by decide +kernel)
set_option maxRecDepth 20000 in
theorem gX6_push_X6_comes : GoodIn wsX6_push (wsV RX6 80 RX6 yX6_comes wsX6_comes) := goodIn_app (goodIn_of _ (by decide +kernel)) ggX6_push_X6_comes
set_option maxRecDepth 20000 in
theorem ggX6_push_X6_pushes : GoodIn wsX6_push wsX6_pushes := goodIn_r _ [47, 6, 22, 23, 24, 4, 25, 48, 49, 50, 51, 52, 53, 54, 55, 56, 57, 58, 59, 60, 61, 62, 63, 64, 65, 66, 71, 72, 73, 74, 75, 76, 77, 78, 79] (by decide +kernel) (by decide +kernel)
set_option maxRecDepth 20000 in
theorem gX6_push_X6_pushes : GoodIn wsX6_push (wsV RX6 84 RX6 yX6_pushes wsX6_pushes) := goodIn_app (goodIn_of _ (by decide +kernel)) ggX6_push_X6_pushes
set_option maxRecDepth 20000 in
theorem ggX6_push_X6_sets : GoodIn wsX6_push wsX6_sets := goodIn_r _ [70, 6, 22, 23, 24, 4, 25, 48, 49, 50, 58, 59, 60, 61, 62, 63, 51, 52, 53, 54, 55, 56, 57, 71, 72, 73, 74, 75, 76, 77, 78, 79] (by decide +kernel) (by decide +kernel)
set_option maxRecDepth 20000 in
theorem gX6_push_X6_sets : GoodIn wsX6_push (wsV RX6 87 RX6 yX6_sets wsX6_sets) := goodIn_app (goodIn_of _ (by decide +kernel)) ggX6_push_X6_sets
theorem dX6_push_0 : decode cX6_push 0 = .ok (.aload_n 0, 1) := by decide +kernel
theorem dX6_push_1 : decode cX6_push 1 = .ok (.iload_n 1, 1) := by decide +kernel
theorem dX6_push_2 : decode cX6_push 2 = .ok (.invokevirtual 67, 3) := by decide +kernel
theorem dX6_push_5 : decode cX6_push 5 = .ok (.ifCond .eq 5, 3) := by decide +kernel
theorem dX6_push_8 : decode cX6_push 8 = .ok (.iconst (-1), 1) := by decide +kernel
theorem dX6_push_9 : decode cX6_push 9 = .ok (.ireturn, 1) := by decide +kernel
theorem dX6_push_10 : decode cX6_push 10 = .ok (.iload_n 2, 1) := by decide +kernel
theorem dX6_push_11 : decode cX6_push 11 = .ok (.iconst 0, 1) := by decide +kernel
theorem dX6_push_12 : decode cX6_push 12 = .ok (.sipush 999, 3) := by decide +kernel
theorem dX6_push_15 : decode cX6_push 15 = .ok (.invokestatic 24, 3) := by decide +kernel
theorem dX6_push_18 : decode cX6_push 18 = .ok (.ifCond .ne 6, 3) := by decide +kernel
theorem dX6_push_21 : decode cX6_push 21 = .ok (.bipush (-2), 2) := by decide +kernel
theorem dX6_push_23 : decode cX6_push 23 = .ok (.ireturn, 1) := by decide +kernel
theorem dX6_push_24 : decode cX6_push 24 = .ok (.aload_n 0, 1) := by decide +kernel
theorem dX6_push_25 : decode cX6_push 25 = .ok (.iload_n 1, 1) := by decide +kernel
theorem dX6_push_26 : decode cX6_push 26 = .ok (.invokevirtual 36, 3) := by decide +kernel
theorem dX6_push_29 : decode cX6_push 29 = .ok (.aload_n 0, 1) := by decide +kernel
theorem dX6_push_30 : decode cX6_push 30 = .ok (.iload_n 1, 1) := by decide +kernel
theorem dX6_push_31 : decode cX6_push 31 = .ok (.invokevirtual 70, 3) := by decide +kernel
theorem dX6_push_34 : decode cX6_push 34 = .ok (.iadd, 1) := by decide +kernel
theorem dX6_push_35 : decode cX6_push 35 = .ok (.istore_n 3, 1) := by decide +kernel
theorem dX6_push_36 : decode cX6_push 36 = .ok (.iload_n 3, 1) := by decide +kernel
theorem dX6_push_37 : decode cX6_push 37 = .ok (.aload_n 0, 1) := by decide +kernel
theorem dX6_push_38 : decode cX6_push 38 = .ok (.iload_n 1, 1) := by decide +kernel
theorem dX6_push_39 : decode cX6_push 39 = .ok (.invokevirtual 32, 3) := by decide +kernel
theorem dX6_push_42 : decode cX6_push 42 = .ok (.if_icmp .ne 7, 3) := by decide +kernel
theorem dX6_push_45 : decode cX6_push 45 = .ok (.iconst 1, 1) := by decide +kernel
theorem dX6_push_46 : decode cX6_push 46 = .ok (.goto 4, 3) := by decide +kernel
theorem dX6_push_49 : decode cX6_push 49 = .ok (.iconst 0, 1) := by decide +kernel
theorem dX6_push_50 : decode cX6_push 50 = .ok (.istore 4, 2) := by decide +kernel
theorem dX6_push_52 : decode cX6_push 52 = .ok (.aload_n 0, 1) := by decide +kernel
theorem dX6_push_53 : decode cX6_push 53 = .ok (.invokevirtual 73, 3) := by decide +kernel
theorem dX6_push_56 : decode cX6_push 56 = .ok (.ifCond .ne 15, 3) := by decide +kernel
theorem dX6_push_59 : decode cX6_push 59 = .ok (.iload 4, 2) := by decide +kernel
theorem dX6_push_61 : decode cX6_push 61 = .ok (.ifCond .eq 13, 3) := by decide +kernel
theorem dX6_push_64 : decode cX6_push 64 = .ok (.iload_n 3, 1) := by decide +kernel
theorem dX6_push_65 : decode cX6_push 65 = .ok (.sipush 300, 3) := by decide +kernel
theorem dX6_push_68 : decode cX6_push 68 = .ok (.if_icmp .ne 6, 3) := by decide +kernel
theorem dX6_push_71 : decode cX6_push 71 = .ok (.bipush (-3), 2) := by decide +kernel
theorem dX6_push_73 : decode cX6_push 73 = .ok (.ireturn, 1) := by decide +kernel
theorem dX6_push_74 : decode cX6_push 74 = .ok (.aload_n 0, 1) := by decide +kernel
theorem dX6_push_75 : decode cX6_push 75 = .ok (.invokevirtual 77, 3) := by decide +kernel
theorem dX6_push_78 : decode cX6_push 78 = .ok (.aload_n 0, 1) := by decide +kernel
theorem dX6_push_79 : decode cX6_push 79 = .ok (.iload_n 1, 1) := by decide +kernel
theorem dX6_push_80 : decode cX6_push 80 = .ok (.aload_n 0, 1) := by decide +kernel
theorem dX6_push_81 : decode cX6_push 81 = .ok (.iload_n 1, 1) := by decide +kernel
theorem dX6_push_82 : decode cX6_push 82 = .ok (.invokevirtual 28, 3) := by decide +kernel
theorem dX6_push_85 : decode cX6_push 85 = .ok (.aload_n 0, 1) := by decide +kernel
theorem dX6_push_86 : decode cX6_push 86 = .ok (.iload_n 1, 1) := by decide +kernel
theorem dX6_push_87 : decode cX6_push 87 = .ok (.invokevirtual 36, 3) := by decide +kernel
theorem dX6_push_90 : decode cX6_push 90 = .ok (.aload_n 0, 1) := by decide +kernel
theorem dX6_push_91 : decode cX6_push 91 = .ok (.iload_n 1, 1) := by decide +kernel
theorem dX6_push_92 : decode cX6_push 92 = .ok (.invokevirtual 28, 3) := by decide +kernel
theorem dX6_push_95 : decode cX6_push 95 = .ok (.ifCond .eq 13, 3) := by decide +kernel
theorem dX6_push_98 : decode cX6_push 98 = .ok (.aload_n 0, 1) := by decide +kernel
theorem dX6_push_99 : decode cX6_push 99 = .ok (.iload_n 1, 1) := by decide +kernel
theorem dX6_push_100 : decode cX6_push 100 = .ok (.invokevirtual 70, 3) := by decide +kernel
theorem dX6_push_103 : decode cX6_push 103 = .ok (.iconst 1, 1) := by decide +kernel
theorem dX6_push_104 : decode cX6_push 104 = .ok (.iadd, 1) := by decide +kernel
theorem dX6_push_105 : decode cX6_push 105 = .ok (.goto 4, 3) := by decide +kernel
theorem dX6_push_108 : decode cX6_push 108 = .ok (.iconst 0, 1) := by decide +kernel
theorem dX6_push_109 : decode cX6_push 109 = .ok (.invokevirtual 80, 3) := by decide +kernel
theorem dX6_push_112 : decode cX6_push 112 = .ok (.istore 5, 2) := by decide +kernel
theorem dX6_push_114 : decode cX6_push 114 = .ok (.iload 4, 2) := by decide +kernel
theorem dX6_push_116 : decode cX6_push 116 = .ok (.ifCond .eq 13, 3) := by decide +kernel
theorem dX6_push_119 : decode cX6_push 119 = .ok (.aload_n 0, 1) := by decide +kernel
theorem dX6_push_120 : decode cX6_push 120 = .ok (.iload 5, 2) := by decide +kernel
theorem dX6_push_122 : decode cX6_push 122 = .ok (.iload_n 2, 1) := by decide +kernel
theorem dX6_push_123 : decode cX6_push 123 = .ok (.invokevirtual 84, 3) := by decide +kernel
theorem dX6_push_126 : decode cX6_push 126 = .ok (.goto 11, 3) := by decide +kernel
theorem dX6_push_129 : decode cX6_push 129 = .ok (.aload_n 0, 1) := by decide +kernel
theorem dX6_push_130 : decode cX6_push 130 = .ok (.iload 5, 2) := by decide +kernel
theorem dX6_push_132 : decode cX6_push 132 = .ok (.iload_n 3, 1) := by decide +kernel
theorem dX6_push_133 : decode cX6_push 133 = .ok (.iload_n 2, 1) := by decide +kernel
theorem dX6_push_134 : decode cX6_push 134 = .ok (.invokevirtual 87, 3) := by decide +kernel
theorem dX6_push_137 : decode cX6_push 137 = .ok (.iload 5, 2) := by decide +kernel
theorem dX6_push_139 : decode cX6_push 139 = .ok (.ireturn, 1) := by decide +kernel
set_option maxRecDepth 20000 in
theorem ggX6_set_X6_no : GoodIn wsX6_set wsX6_no := goodIn_r _ [5, 6, 7, 8, 4, 9, 64, 65, 66, 67, 68, 69, 70, 71, 72] (by decide +kernel) (by decide +kernel)
set_option maxRecDepth 20000 in
theorem gX6_set_X6_no : GoodIn wsX6_set (wsV RX6 67 RX6 yX6_no wsX6_no) := goodIn_app (goodIn_of _ (by decide +kernel)) ggX6_set_X6_no
set_option maxRecDepth 20000 in
theorem ggX6_set_X6_length : GoodIn wsX6_set wsX6_length := goodIn_r _ [13, 6, 14, 15, 16, 4, 17, 18, 19, 20, 21, 64, 65, 66, 67, 68, 69, 70, 71, 72] (by decide +kernel) (by decide +kernel)
set_option maxRecDepth 20000 in
theorem gX6_set_X6_length : GoodIn wsX6_set (wsV RX6 70 RX6 yX6_length wsX6_length) := goodIn_app (goodIn_of _ (by decide +kernel)) ggX6_set_X6_length
set_option maxRecDepth 20000 in
theorem ggX6_set_X6_in : GoodIn wsX6_set wsX6_in := goodIn_r _ [9] (by decide +kernel) (by decide +kernel)
set_option maxRecDepth 20000 in
theorem gX6_set_X6_in : GoodIn wsX6_set (va_wsS RX6 24 yX6_in wsX6_in) := goodIn_app (goodIn_of _ (by decide +kernel)) ggX6_set_X6_in
set_option maxRecDepth 20000 in
theorem ggX6_set_X6_isFull : GoodIn wsX6_set wsX6_isFull := goodIn_r _ [25, 6, 64, 65, 66, 67, 68, 69, 70, 71, 72] (by decide +kernel) (by decide +kernel)
set_option maxRecDepth 20000 in
theorem gX6_set_X6_isFull : GoodIn wsX6_set (wsV RX6 73 RX6 yX6_isFull wsX6_isFull) := goodIn_app (goodIn_of _ (by decide +kernel)) ggX6_set_X6_isFull
set_option maxRecDepth 20000 in
theorem ggX6_set_X6_record : GoodIn wsX6_set wsX6_record := goodIn_r _ [29, 30, 31, 6, 64, 65, 66, 67, 68, 69, 70, 71, 72] (by decide +kernel) (by decide +kernel)
set_option maxRecDepth 20000 in
theorem gX6_set_X6_record : GoodIn wsX6_set (wsV RX6 77 RX6 yX6_record wsX6_record) := goodIn_app (goodIn_of _ (by decide +kernel)) ggX6_set_X6_record
set_option maxRecDepth 20000 in
theorem ggX6_set_X6_isWindow : GoodIn wsX6_set wsX6_isWindow := goodIn_r _ [17, 6, 64, 65, 66, 67, 68, 69, 70, 71, 72] (by decide +kernel) (by decide +kernel)
set_option maxRecDepth 20000 in
theorem gX6_set_X6_isWindow : GoodIn wsX6_set (wsV RX6 28 RX6 yX6_isWindow wsX6_isWindow) := goodIn_app (goodIn_of _ (by decide +kernel)) ggX6_set_X6_isWindow
set_option maxRecDepth 20000 in
theorem ggX6_set_X6_first : GoodIn wsX6_set wsX6_first := goodIn_r _ [35, 6, 64, 65, 66, 67, 68, 69, 70, 71, 72] (by decide +kernel) (by decide +kernel)
set_option maxRecDepth 20000 in
theorem gX6_set_X6_first : GoodIn wsX6_set (wsV RX6 36 RX6 yX6_first wsX6_first) := goodIn_app (goodIn_of _ (by decide +kernel)) ggX6_set_X6_first
set_option maxRecDepth 20000 in
theorem ggX6_set_X6_comes : GoodIn wsX6_set wsX6_comes := goodIn_r _ [39, 6, 40, 41, 42, 4, 43, 64, 65, 66, 67, 68, 69, 70, 71, 72] (by decide +kernel) (by decide +kernel)
set_option maxRecDepth 20000 in
theorem gX6_set_X6_comes : GoodIn wsX6_set (wsV RX6 80 RX6 yX6_comes wsX6_comes) := goodIn_app (goodIn_of _ (by decide +kernel)) ggX6_set_X6_comes
set_option maxRecDepth 20000 in
theorem ggX6_set_X6_sets : GoodIn wsX6_set wsX6_sets := goodIn_r _ [47, 6, 18, 19, 20, 4, 21, 48, 49, 50, 51, 52, 53, 54, 55, 56, 57, 58, 59, 60, 61, 62, 63, 64, 65, 66, 67, 68, 69, 70, 71, 72] (by decide +kernel) (by decide +kernel)
set_option maxRecDepth 20000 in
theorem gX6_set_X6_sets : GoodIn wsX6_set (wsV RX6 87 RX6 yX6_sets wsX6_sets) := goodIn_app (goodIn_of _ (by decide +kernel)) ggX6_set_X6_sets
theorem dX6_set_0 : decode cX6_set 0 = .ok (.aload_n 0, 1) := by decide +kernel
theorem dX6_set_1 : decode cX6_set 1 = .ok (.iload_n 1, 1) := by decide +kernel
theorem dX6_set_2 : decode cX6_set 2 = .ok (.invokevirtual 67, 3) := by decide +kernel
theorem dX6_set_5 : decode cX6_set 5 = .ok (.ifCond .ne 18, 3) := by decide +kernel
theorem dX6_set_8 : decode cX6_set 8 = .ok (.iload_n 2, 1) := by decide +kernel
theorem dX6_set_9 : decode cX6_set 9 = .ok (.iconst 0, 1) := by decide +kernel
theorem dX6_set_10 : decode cX6_set 10 = .ok (.aload_n 0, 1) := by decide +kernel
theorem dX6_set_11 : decode cX6_set 11 = .ok (.iload_n 1, 1) := by decide +kernel
theorem dX6_set_12 : decode cX6_set 12 = .ok (.invokevirtual 70, 3) := by decide +kernel
theorem dX6_set_15 : decode cX6_set 15 = .ok (.iconst 1, 1) := by decide +kernel
theorem dX6_set_16 : decode cX6_set 16 = .ok (.isub, 1) := by decide +kernel
theorem dX6_set_17 : decode cX6_set 17 = .ok (.invokestatic 24, 3) := by decide +kernel
theorem dX6_set_20 : decode cX6_set 20 = .ok (.ifCond .ne 5, 3) := by decide +kernel
theorem dX6_set_23 : decode cX6_set 23 = .ok (.iconst (-1), 1) := by decide +kernel
theorem dX6_set_24 : decode cX6_set 24 = .ok (.ireturn, 1) := by decide +kernel
theorem dX6_set_25 : decode cX6_set 25 = .ok (.iload_n 3, 1) := by decide +kernel
theorem dX6_set_26 : decode cX6_set 26 = .ok (.iconst 0, 1) := by decide +kernel
theorem dX6_set_27 : decode cX6_set 27 = .ok (.sipush 999, 3) := by decide +kernel
theorem dX6_set_30 : decode cX6_set 30 = .ok (.invokestatic 24, 3) := by decide +kernel
theorem dX6_set_33 : decode cX6_set 33 = .ok (.ifCond .ne 6, 3) := by decide +kernel
theorem dX6_set_36 : decode cX6_set 36 = .ok (.bipush (-2), 2) := by decide +kernel
theorem dX6_set_38 : decode cX6_set 38 = .ok (.ireturn, 1) := by decide +kernel
theorem dX6_set_39 : decode cX6_set 39 = .ok (.aload_n 0, 1) := by decide +kernel
theorem dX6_set_40 : decode cX6_set 40 = .ok (.invokevirtual 73, 3) := by decide +kernel
theorem dX6_set_43 : decode cX6_set 43 = .ok (.ifCond .eq 6, 3) := by decide +kernel
theorem dX6_set_46 : decode cX6_set 46 = .ok (.bipush (-3), 2) := by decide +kernel
theorem dX6_set_48 : decode cX6_set 48 = .ok (.ireturn, 1) := by decide +kernel
theorem dX6_set_49 : decode cX6_set 49 = .ok (.aload_n 0, 1) := by decide +kernel
theorem dX6_set_50 : decode cX6_set 50 = .ok (.invokevirtual 77, 3) := by decide +kernel
theorem dX6_set_53 : decode cX6_set 53 = .ok (.aload_n 0, 1) := by decide +kernel
theorem dX6_set_54 : decode cX6_set 54 = .ok (.iload_n 1, 1) := by decide +kernel
theorem dX6_set_55 : decode cX6_set 55 = .ok (.aload_n 0, 1) := by decide +kernel
theorem dX6_set_56 : decode cX6_set 56 = .ok (.iload_n 1, 1) := by decide +kernel
theorem dX6_set_57 : decode cX6_set 57 = .ok (.invokevirtual 28, 3) := by decide +kernel
theorem dX6_set_60 : decode cX6_set 60 = .ok (.aload_n 0, 1) := by decide +kernel
theorem dX6_set_61 : decode cX6_set 61 = .ok (.iload_n 1, 1) := by decide +kernel
theorem dX6_set_62 : decode cX6_set 62 = .ok (.invokevirtual 36, 3) := by decide +kernel
theorem dX6_set_65 : decode cX6_set 65 = .ok (.aload_n 0, 1) := by decide +kernel
theorem dX6_set_66 : decode cX6_set 66 = .ok (.iload_n 1, 1) := by decide +kernel
theorem dX6_set_67 : decode cX6_set 67 = .ok (.invokevirtual 28, 3) := by decide +kernel
theorem dX6_set_70 : decode cX6_set 70 = .ok (.ifCond .eq 11, 3) := by decide +kernel
theorem dX6_set_73 : decode cX6_set 73 = .ok (.aload_n 0, 1) := by decide +kernel
theorem dX6_set_74 : decode cX6_set 74 = .ok (.iload_n 1, 1) := by decide +kernel
theorem dX6_set_75 : decode cX6_set 75 = .ok (.invokevirtual 70, 3) := by decide +kernel
theorem dX6_set_78 : decode cX6_set 78 = .ok (.goto 4, 3) := by decide +kernel
theorem dX6_set_81 : decode cX6_set 81 = .ok (.iconst 0, 1) := by decide +kernel
theorem dX6_set_82 : decode cX6_set 82 = .ok (.invokevirtual 80, 3) := by decide +kernel
theorem dX6_set_85 : decode cX6_set 85 = .ok (.istore 4, 2) := by decide +kernel
theorem dX6_set_87 : decode cX6_set 87 = .ok (.aload_n 0, 1) := by decide +kernel
theorem dX6_set_88 : decode cX6_set 88 = .ok (.iload 4, 2) := by decide +kernel
theorem dX6_set_90 : decode cX6_set 90 = .ok (.aload_n 0, 1) := by decide +kernel
theorem dX6_set_91 : decode cX6_set 91 = .ok (.iload_n 1, 1) := by decide +kernel
theorem dX6_set_92 : decode cX6_set 92 = .ok (.invokevirtual 36, 3) := by decide +kernel
theorem dX6_set_95 : decode cX6_set 95 = .ok (.iload_n 2, 1) := by decide +kernel
theorem dX6_set_96 : decode cX6_set 96 = .ok (.iadd, 1) := by decide +kernel
theorem dX6_set_97 : decode cX6_set 97 = .ok (.iload_n 3, 1) := by decide +kernel
theorem dX6_set_98 : decode cX6_set 98 = .ok (.invokevirtual 87, 3) := by decide +kernel
theorem dX6_set_101 : decode cX6_set 101 = .ok (.iload 4, 2) := by decide +kernel
theorem dX6_set_103 : decode cX6_set 103 = .ok (.ireturn, 1) := by decide +kernel
set_option maxRecDepth 20000 in
theorem ggX6_pop_X6_no : GoodIn wsX6_pop wsX6_no := goodIn_r _ [5, 6, 7, 8, 4, 9, 67, 68, 69, 70, 71, 72, 73, 74, 75] (by decide +kernel) (by decide +kernel)
set_option maxRecDepth 20000 in
theorem gX6_pop_X6_no : GoodIn wsX6_pop (wsV RX6 67 RX6 yX6_no wsX6_no) := goodIn_app (goodIn_of _ (by decide +kernel)) ggX6_pop_X6_no
set_option maxRecDepth 20000 in
theorem ggX6_pop_X6_length : GoodIn wsX6_pop wsX6_length := goodIn_r _ [13, 6, 14, 15, 16, 4, 17, 18, 19, 20, 21, 67, 68, 69, 70, 71, 72, 73, 74, 75] (by decide +kernel) (by decide +kernel)
set_option maxRecDepth 20000 in
theorem gX6_pop_X6_length : GoodIn wsX6_pop (wsV RX6 70 RX6 yX6_length wsX6_length) := goodIn_app (goodIn_of _ (by decide +kernel)) ggX6_pop_X6_length
set_option maxRecDepth 20000 in
theorem ggX6_pop_X6_isFull : GoodIn wsX6_pop wsX6_isFull := goodIn_r _ [25, 6, 67, 68, 69, 70, 71, 72, 73, 74, 75] (by decide +kernel) (by decide +kernel)
set_option maxRecDepth 20000 in
theorem gX6_pop_X6_isFull : GoodIn wsX6_pop (wsV RX6 73 RX6 yX6_isFull wsX6_isFull) := goodIn_app (goodIn_of _ (by decide +kernel)) ggX6_pop_X6_isFull
set_option maxRecDepth 20000 in
theorem ggX6_pop_X6_record : GoodIn wsX6_pop wsX6_record := goodIn_r _ [29, 30, 31, 6, 67, 68, 69, 70, 71, 72, 73, 74, 75] (by decide +kernel) (by decide +kernel)
set_option maxRecDepth 20000 in
theorem gX6_pop_X6_record : GoodIn wsX6_pop (wsV RX6 77 RX6 yX6_record wsX6_record) := goodIn_app (goodIn_of _ (by decide +kernel)) ggX6_pop_X6_record
set_option maxRecDepth 20000 in
theorem ggX6_pop_X6_isWindow : GoodIn wsX6_pop wsX6_isWindow := goodIn_r _ [17, 6, 67, 68, 69, 70, 71, 72, 73, 74, 75] (by decide +kernel) (by decide +kernel)
set_option maxRecDepth 20000 in
theorem gX6_pop_X6_isWindow : GoodIn wsX6_pop (wsV RX6 28 RX6 yX6_isWindow wsX6_isWindow) := goodIn_app (goodIn_of _ (by decide +kernel)) ggX6_pop_X6_isWindow
set_option maxRecDepth 20000 in
theorem ggX6_pop_X6_first : GoodIn wsX6_pop wsX6_first := goodIn_r _ [35, 6, 67, 68, 69, 70, 71, 72, 73, 74, 75] (by decide +kernel) (by decide +kernel)
set_option maxRecDepth 20000 in
theorem gX6_pop_X6_first : GoodIn wsX6_pop (wsV RX6 36 RX6 yX6_first wsX6_first) := goodIn_app (goodIn_of _ (by decide +kernel)) ggX6_pop_X6_first
set_option maxRecDepth 20000 in
theorem ggX6_pop_X6_comes : GoodIn wsX6_pop wsX6_comes := goodIn_r _ [39, 6, 40, 41, 42, 4, 43, 67, 68, 69, 70, 71, 72, 73, 74, 75] (by decide +kernel) (by decide +kernel)
set_option maxRecDepth 20000 in
theorem gX6_pop_X6_comes : GoodIn wsX6_pop (wsV RX6 80 RX6 yX6_comes wsX6_comes) := goodIn_app (goodIn_of _ (by decide +kernel)) ggX6_pop_X6_comes
set_option maxRecDepth 20000 in
theorem ggX6_pop_X6_pops : GoodIn wsX6_pop wsX6_pops := goodIn_r _ [47, 6, 18, 19, 20, 4, 21, 48, 49, 50, 51, 52, 53, 54, 55, 56, 57, 58, 59, 60, 61, 62, 63, 64, 65, 66, 67, 68, 69, 70, 71, 72, 73, 74, 75] (by decide +kernel) (by decide +kernel)
set_option maxRecDepth 20000 in
theorem gX6_pop_X6_pops : GoodIn wsX6_pop (wsV RX6 91 RX6 yX6_pops wsX6_pops) := goodIn_app (goodIn_of _ (by decide +kernel)) ggX6_pop_X6_pops
theorem dX6_pop_0 : decode cX6_pop 0 = .ok (.aload_n 0, 1) := by decide +kernel
theorem dX6_pop_1 : decode cX6_pop 1 = .ok (.iload_n 1, 1) := by decide +kernel
theorem dX6_pop_2 : decode cX6_pop 2 = .ok (.invokevirtual 67, 3) := by decide +kernel
theorem dX6_pop_5 : decode cX6_pop 5 = .ok (.ifCond .eq 5, 3) := by decide +kernel
theorem dX6_pop_8 : decode cX6_pop 8 = .ok (.iconst (-1), 1) := by decide +kernel
theorem dX6_pop_9 : decode cX6_pop 9 = .ok (.ireturn, 1) := by decide +kernel
theorem dX6_pop_10 : decode cX6_pop 10 = .ok (.aload_n 0, 1) := by decide +kernel
theorem dX6_pop_11 : decode cX6_pop 11 = .ok (.iload_n 1, 1) := by decide +kernel
theorem dX6_pop_12 : decode cX6_pop 12 = .ok (.invokevirtual 70, 3) := by decide +kernel
theorem dX6_pop_15 : decode cX6_pop 15 = .ok (.ifCond .ne 6, 3) := by decide +kernel
theorem dX6_pop_18 : decode cX6_pop 18 = .ok (.bipush (-4), 2) := by decide +kernel
theorem dX6_pop_20 : decode cX6_pop 20 = .ok (.ireturn, 1) := by decide +kernel
theorem dX6_pop_21 : decode cX6_pop 21 = .ok (.aload_n 0, 1) := by decide +kernel
theorem dX6_pop_22 : decode cX6_pop 22 = .ok (.invokevirtual 73, 3) := by decide +kernel
theorem dX6_pop_25 : decode cX6_pop 25 = .ok (.ifCond .eq 6, 3) := by decide +kernel
theorem dX6_pop_28 : decode cX6_pop 28 = .ok (.bipush (-3), 2) := by decide +kernel
theorem dX6_pop_30 : decode cX6_pop 30 = .ok (.ireturn, 1) := by decide +kernel
theorem dX6_pop_31 : decode cX6_pop 31 = .ok (.aload_n 0, 1) := by decide +kernel
theorem dX6_pop_32 : decode cX6_pop 32 = .ok (.invokevirtual 77, 3) := by decide +kernel
theorem dX6_pop_35 : decode cX6_pop 35 = .ok (.aload_n 0, 1) := by decide +kernel
theorem dX6_pop_36 : decode cX6_pop 36 = .ok (.iload_n 1, 1) := by decide +kernel
theorem dX6_pop_37 : decode cX6_pop 37 = .ok (.invokevirtual 28, 3) := by decide +kernel
theorem dX6_pop_40 : decode cX6_pop 40 = .ok (.ifCond .eq 22, 3) := by decide +kernel
theorem dX6_pop_43 : decode cX6_pop 43 = .ok (.aload_n 0, 1) := by decide +kernel
theorem dX6_pop_44 : decode cX6_pop 44 = .ok (.iload_n 1, 1) := by decide +kernel
theorem dX6_pop_45 : decode cX6_pop 45 = .ok (.iconst 1, 1) := by decide +kernel
theorem dX6_pop_46 : decode cX6_pop 46 = .ok (.aload_n 0, 1) := by decide +kernel
theorem dX6_pop_47 : decode cX6_pop 47 = .ok (.iload_n 1, 1) := by decide +kernel
theorem dX6_pop_48 : decode cX6_pop 48 = .ok (.invokevirtual 36, 3) := by decide +kernel
theorem dX6_pop_51 : decode cX6_pop 51 = .ok (.aload_n 0, 1) := by decide +kernel
theorem dX6_pop_52 : decode cX6_pop 52 = .ok (.iload_n 1, 1) := by decide +kernel
theorem dX6_pop_53 : decode cX6_pop 53 = .ok (.invokevirtual 70, 3) := by decide +kernel
theorem dX6_pop_56 : decode cX6_pop 56 = .ok (.iconst 1, 1) := by decide +kernel
theorem dX6_pop_57 : decode cX6_pop 57 = .ok (.isub, 1) := by decide +kernel
theorem dX6_pop_58 : decode cX6_pop 58 = .ok (.invokevirtual 80, 3) := by decide +kernel
theorem dX6_pop_61 : decode cX6_pop 61 = .ok (.ireturn, 1) := by decide +kernel
theorem dX6_pop_62 : decode cX6_pop 62 = .ok (.aload_n 0, 1) := by decide +kernel
theorem dX6_pop_63 : decode cX6_pop 63 = .ok (.iload_n 1, 1) := by decide +kernel
theorem dX6_pop_64 : decode cX6_pop 64 = .ok (.iconst 0, 1) := by decide +kernel
theorem dX6_pop_65 : decode cX6_pop 65 = .ok (.iconst 0, 1) := by decide +kernel
theorem dX6_pop_66 : decode cX6_pop 66 = .ok (.iconst 0, 1) := by decide +kernel
theorem dX6_pop_67 : decode cX6_pop 67 = .ok (.invokevirtual 80, 3) := by decide +kernel
theorem dX6_pop_70 : decode cX6_pop 70 = .ok (.istore_n 2, 1) := by decide +kernel
theorem dX6_pop_71 : decode cX6_pop 71 = .ok (.aload_n 0, 1) := by decide +kernel
theorem dX6_pop_72 : decode cX6_pop 72 = .ok (.iload_n 2, 1) := by decide +kernel
theorem dX6_pop_73 : decode cX6_pop 73 = .ok (.invokevirtual 91, 3) := by decide +kernel
theorem dX6_pop_76 : decode cX6_pop 76 = .ok (.iload_n 2, 1) := by decide +kernel
theorem dX6_pop_77 : decode cX6_pop 77 = .ok (.ireturn, 1) := by decide +kernel
set_option maxRecDepth 20000 in
theorem ggX6_window_X6_no : GoodIn wsX6_window wsX6_no := goodIn_r _ [5, 6, 7, 8, 4, 9, 44, 45, 46, 47, 48, 49, 50, 51, 52] (by decide +kernel) (by decide +kernel)
set_option maxRecDepth 20000 in
theorem gX6_window_X6_no : GoodIn wsX6_window (wsV RX6 67 RX6 yX6_no wsX6_no) := goodIn_app (goodIn_of _ (by decide +kernel)) ggX6_window_X6_no
set_option maxRecDepth 20000 in
theorem ggX6_window_X6_length : GoodIn wsX6_window wsX6_length := goodIn_r _ [13, 6, 14, 15, 16, 4, 17, 18, 19, 20, 21, 44, 45, 46, 47, 48, 49, 50, 51, 52] (by decide +kernel) (by decide +kernel)
set_option maxRecDepth 20000 in
theorem gX6_window_X6_length : GoodIn wsX6_window (wsV RX6 70 RX6 yX6_length wsX6_length) := goodIn_app (goodIn_of _ (by decide +kernel)) ggX6_window_X6_length
set_option maxRecDepth 20000 in
theorem ggX6_window_X6_in : GoodIn wsX6_window wsX6_in := goodIn_r _ [9] (by decide +kernel) (by decide +kernel)
set_option maxRecDepth 20000 in
theorem gX6_window_X6_in : GoodIn wsX6_window (va_wsS RX6 24 yX6_in wsX6_in) := goodIn_app (goodIn_of _ (by decide +kernel)) ggX6_window_X6_in
set_option maxRecDepth 20000 in
theorem ggX6_window_X6_isFull : GoodIn wsX6_window wsX6_isFull := goodIn_r _ [25, 6, 44, 45, 46, 47, 48, 49, 50, 51, 52] (by decide +kernel) (by decide +kernel)
set_option maxRecDepth 20000 in
theorem gX6_window_X6_isFull : GoodIn wsX6_window (wsV RX6 73 RX6 yX6_isFull wsX6_isFull) := goodIn_app (goodIn_of _ (by decide +kernel)) ggX6_window_X6_isFull
set_option maxRecDepth 20000 in
theorem ggX6_window_X6_record : GoodIn wsX6_window wsX6_record := goodIn_r _ [29, 30, 31, 6, 44, 45, 46, 47, 48, 49, 50, 51, 52] (by decide +kernel) (by decide +kernel)
set_option maxRecDepth 20000 in
theorem gX6_window_X6_record : GoodIn wsX6_window (wsV RX6 77 RX6 yX6_record wsX6_record) := goodIn_app (goodIn_of _ (by decide +kernel)) ggX6_window_X6_record
set_option maxRecDepth 20000 in
theorem ggX6_window_X6_first : GoodIn wsX6_window wsX6_first := goodIn_r _ [35, 6, 44, 45, 46, 47, 48, 49, 50, 51, 52] (by decide +kernel) (by decide +kernel)
set_option maxRecDepth 20000 in
theorem gX6_window_X6_first : GoodIn wsX6_window (wsV RX6 36 RX6 yX6_first wsX6_first) := goodIn_app (goodIn_of _ (by decide +kernel)) ggX6_window_X6_first
set_option maxRecDepth 20000 in
theorem ggX6_window_X6_comes : GoodIn wsX6_window wsX6_comes := goodIn_r _ [39, 6, 40, 41, 42, 4, 43, 44, 45, 46, 47, 48, 49, 50, 51, 52] (by decide +kernel) (by decide +kernel)
set_option maxRecDepth 20000 in
theorem gX6_window_X6_comes : GoodIn wsX6_window (wsV RX6 80 RX6 yX6_comes wsX6_comes) := goodIn_app (goodIn_of _ (by decide +kernel)) ggX6_window_X6_comes
theorem dX6_window_0 : decode cX6_window 0 = .ok (.aload_n 0, 1) := by decide +kernel
theorem dX6_window_1 : decode cX6_window 1 = .ok (.iload_n 1, 1) := by decide +kernel
theorem dX6_window_2 : decode cX6_window 2 = .ok (.invokevirtual 67, 3) := by decide +kernel
theorem dX6_window_5 : decode cX6_window 5 = .ok (.ifCond .eq 5, 3) := by decide +kernel
theorem dX6_window_8 : decode cX6_window 8 = .ok (.iconst (-1), 1) := by decide +kernel
theorem dX6_window_9 : decode cX6_window 9 = .ok (.ireturn, 1) := by decide +kernel
theorem dX6_window_10 : decode cX6_window 10 = .ok (.iload_n 2, 1) := by decide +kernel
theorem dX6_window_11 : decode cX6_window 11 = .ok (.iconst 0, 1) := by decide +kernel
theorem dX6_window_12 : decode cX6_window 12 = .ok (.aload_n 0, 1) := by decide +kernel
theorem dX6_window_13 : decode cX6_window 13 = .ok (.iload_n 1, 1) := by decide +kernel
theorem dX6_window_14 : decode cX6_window 14 = .ok (.invokevirtual 70, 3) := by decide +kernel
theorem dX6_window_17 : decode cX6_window 17 = .ok (.invokestatic 24, 3) := by decide +kernel
theorem dX6_window_20 : decode cX6_window 20 = .ok (.ifCond .eq 18, 3) := by decide +kernel
theorem dX6_window_23 : decode cX6_window 23 = .ok (.iload_n 3, 1) := by decide +kernel
theorem dX6_window_24 : decode cX6_window 24 = .ok (.iconst 0, 1) := by decide +kernel
theorem dX6_window_25 : decode cX6_window 25 = .ok (.aload_n 0, 1) := by decide +kernel
theorem dX6_window_26 : decode cX6_window 26 = .ok (.iload_n 1, 1) := by decide +kernel
theorem dX6_window_27 : decode cX6_window 27 = .ok (.invokevirtual 70, 3) := by decide +kernel
theorem dX6_window_30 : decode cX6_window 30 = .ok (.iload_n 2, 1) := by decide +kernel
theorem dX6_window_31 : decode cX6_window 31 = .ok (.isub, 1) := by decide +kernel
theorem dX6_window_32 : decode cX6_window 32 = .ok (.invokestatic 24, 3) := by decide +kernel
theorem dX6_window_35 : decode cX6_window 35 = .ok (.ifCond .ne 6, 3) := by decide +kernel
theorem dX6_window_38 : decode cX6_window 38 = .ok (.bipush (-2), 2) := by decide +kernel
theorem dX6_window_40 : decode cX6_window 40 = .ok (.ireturn, 1) := by decide +kernel
theorem dX6_window_41 : decode cX6_window 41 = .ok (.aload_n 0, 1) := by decide +kernel
theorem dX6_window_42 : decode cX6_window 42 = .ok (.invokevirtual 73, 3) := by decide +kernel
theorem dX6_window_45 : decode cX6_window 45 = .ok (.ifCond .eq 6, 3) := by decide +kernel
theorem dX6_window_48 : decode cX6_window 48 = .ok (.bipush (-3), 2) := by decide +kernel
theorem dX6_window_50 : decode cX6_window 50 = .ok (.ireturn, 1) := by decide +kernel
theorem dX6_window_51 : decode cX6_window 51 = .ok (.aload_n 0, 1) := by decide +kernel
theorem dX6_window_52 : decode cX6_window 52 = .ok (.invokevirtual 77, 3) := by decide +kernel
theorem dX6_window_55 : decode cX6_window 55 = .ok (.aload_n 0, 1) := by decide +kernel
theorem dX6_window_56 : decode cX6_window 56 = .ok (.iload_n 1, 1) := by decide +kernel
theorem dX6_window_57 : decode cX6_window 57 = .ok (.iconst 1, 1) := by decide +kernel
theorem dX6_window_58 : decode cX6_window 58 = .ok (.aload_n 0, 1) := by decide +kernel
theorem dX6_window_59 : decode cX6_window 59 = .ok (.iload_n 1, 1) := by decide +kernel
theorem dX6_window_60 : decode cX6_window 60 = .ok (.invokevirtual 36, 3) := by decide +kernel
theorem dX6_window_63 : decode cX6_window 63 = .ok (.iload_n 2, 1) := by decide +kernel
theorem dX6_window_64 : decode cX6_window 64 = .ok (.iadd, 1) := by decide +kernel
theorem dX6_window_65 : decode cX6_window 65 = .ok (.iload_n 3, 1) := by decide +kernel
theorem dX6_window_66 : decode cX6_window 66 = .ok (.invokevirtual 80, 3) := by decide +kernel
theorem dX6_window_69 : decode cX6_window 69 = .ok (.ireturn, 1) := by decide +kernel
theorem dX6_there_0 : decode cX6_there 0 = .ok (.iconst 0, 1) := by decide +kernel
theorem dX6_there_1 : decode cX6_there 1 = .ok (.istore_n 1, 1) := by decide +kernel
theorem dX6_there_2 : decode cX6_there 2 = .ok (.iconst 0, 1) := by decide +kernel
theorem dX6_there_3 : decode cX6_there 3 = .ok (.istore_n 2, 1) := by decide +kernel
theorem dX6_there_4 : decode cX6_there 4 = .ok (.iload_n 2, 1) := by decide +kernel
theorem dX6_there_5 : decode cX6_there 5 = .ok (.aload_n 0, 1) := by decide +kernel
theorem dX6_there_6 : decode cX6_there 6 = .ok (.getfield 7, 3) := by decide +kernel
theorem dX6_there_9 : decode cX6_there 9 = .ok (.sipush 10171, 3) := by decide +kernel
theorem dX6_there_12 : decode cX6_there 12 = .ok (.iaload, 1) := by decide +kernel
theorem dX6_there_13 : decode cX6_there 13 = .ok (.if_icmp .ge 24, 3) := by decide +kernel
theorem dX6_there_16 : decode cX6_there 16 = .ok (.iload_n 1, 1) := by decide +kernel
theorem dX6_there_17 : decode cX6_there 17 = .ok (.aload_n 0, 1) := by decide +kernel
theorem dX6_there_18 : decode cX6_there 18 = .ok (.getfield 7, 3) := by decide +kernel
theorem dX6_there_21 : decode cX6_there 21 = .ok (.sipush 10075, 3) := by decide +kernel
theorem dX6_there_24 : decode cX6_there 24 = .ok (.iconst 4, 1) := by decide +kernel
theorem dX6_there_25 : decode cX6_there 25 = .ok (.iload_n 2, 1) := by decide +kernel
theorem dX6_there_26 : decode cX6_there 26 = .ok (.imul, 1) := by decide +kernel
theorem dX6_there_27 : decode cX6_there 27 = .ok (.iadd, 1) := by decide +kernel
theorem dX6_there_28 : decode cX6_there 28 = .ok (.iaload, 1) := by decide +kernel
theorem dX6_there_29 : decode cX6_there 29 = .ok (.iadd, 1) := by decide +kernel
theorem dX6_there_30 : decode cX6_there 30 = .ok (.istore_n 1, 1) := by decide +kernel
theorem dX6_there_31 : decode cX6_there 31 = .ok (.iinc 2 1, 3) := by decide +kernel
theorem dX6_there_34 : decode cX6_there 34 = .ok (.goto (-30), 3) := by decide +kernel
theorem dX6_there_37 : decode cX6_there 37 = .ok (.iload_n 1, 1) := by decide +kernel
theorem dX6_there_38 : decode cX6_there 38 = .ok (.ireturn, 1) := by decide +kernel
set_option maxRecDepth 20000 in
theorem ggX6_drop_X6_no : GoodIn wsX6_drop wsX6_no := goodIn_r _ [6, 1, 7, 8, 5, 9, 20, 21, 22, 23, 24, 25, 26, 27, 28] (by decide +kernel) (by decide +kernel)
set_option maxRecDepth 20000 in
theorem gX6_drop_X6_no : GoodIn wsX6_drop (wsV RX6 67 RX6 yX6_no wsX6_no) := goodIn_app (goodIn_of _ (by decide +kernel)) ggX6_drop_X6_no
set_option maxRecDepth 20000 in
theorem ggX6_drop_X6_record : GoodIn wsX6_drop wsX6_record := goodIn_r _ [13, 14, 15, 1, 20, 21, 22, 23, 24, 25, 26, 27, 28] (by decide +kernel) (by decide +kernel)
set_option maxRecDepth 20000 in
theorem gX6_drop_X6_record : GoodIn wsX6_drop (wsV RX6 77 RX6 yX6_record wsX6_record) := goodIn_app (goodIn_of _ (by decide +kernel)) ggX6_drop_X6_record
set_option maxRecDepth 20000 in
theorem ggX6_drop_X6_there : GoodIn wsX6_drop wsX6_there := goodIn_r _ [19, 1, 20, 21, 22, 23, 24, 25, 26, 27, 28] (by decide +kernel) (by decide +kernel)
set_option maxRecDepth 20000 in
theorem gX6_drop_X6_there : GoodIn wsX6_drop (wsV RX6 95 RX6 yX6_there wsX6_there) := goodIn_app (goodIn_of _ (by decide +kernel)) ggX6_drop_X6_there
theorem dX6_drop_0 : decode cX6_drop 0 = .ok (.aload_n 0, 1) := by decide +kernel
theorem dX6_drop_1 : decode cX6_drop 1 = .ok (.iload_n 1, 1) := by decide +kernel
theorem dX6_drop_2 : decode cX6_drop 2 = .ok (.invokevirtual 67, 3) := by decide +kernel
theorem dX6_drop_5 : decode cX6_drop 5 = .ok (.ifCond .eq 5, 3) := by decide +kernel
theorem dX6_drop_8 : decode cX6_drop 8 = .ok (.iconst (-1), 1) := by decide +kernel
theorem dX6_drop_9 : decode cX6_drop 9 = .ok (.ireturn, 1) := by decide +kernel
theorem dX6_drop_10 : decode cX6_drop 10 = .ok (.aload_n 0, 1) := by decide +kernel
theorem dX6_drop_11 : decode cX6_drop 11 = .ok (.invokevirtual 77, 3) := by decide +kernel
theorem dX6_drop_14 : decode cX6_drop 14 = .ok (.aload_n 0, 1) := by decide +kernel
theorem dX6_drop_15 : decode cX6_drop 15 = .ok (.getfield 7, 3) := by decide +kernel
theorem dX6_drop_18 : decode cX6_drop 18 = .ok (.sipush 10075, 3) := by decide +kernel
theorem dX6_drop_21 : decode cX6_drop 21 = .ok (.iconst 4, 1) := by decide +kernel
theorem dX6_drop_22 : decode cX6_drop 22 = .ok (.iload_n 1, 1) := by decide +kernel
theorem dX6_drop_23 : decode cX6_drop 23 = .ok (.imul, 1) := by decide +kernel
theorem dX6_drop_24 : decode cX6_drop 24 = .ok (.iadd, 1) := by decide +kernel
theorem dX6_drop_25 : decode cX6_drop 25 = .ok (.iconst 0, 1) := by decide +kernel
theorem dX6_drop_26 : decode cX6_drop 26 = .ok (.iastore, 1) := by decide +kernel
theorem dX6_drop_27 : decode cX6_drop 27 = .ok (.aload_n 0, 1) := by decide +kernel
theorem dX6_drop_28 : decode cX6_drop 28 = .ok (.invokevirtual 95, 3) := by decide +kernel
theorem dX6_drop_31 : decode cX6_drop 31 = .ok (.ireturn, 1) := by decide +kernel
theorem dX6_noEdit_0 : decode cX6_noEdit 0 = .ok (.aload_n 0, 1) := by decide +kernel
theorem dX6_noEdit_1 : decode cX6_noEdit 1 = .ok (.getfield 7, 3) := by decide +kernel
theorem dX6_noEdit_4 : decode cX6_noEdit 4 = .ok (.sipush 10173, 3) := by decide +kernel
theorem dX6_noEdit_7 : decode cX6_noEdit 7 = .ok (.iaload, 1) := by decide +kernel
theorem dX6_noEdit_8 : decode cX6_noEdit 8 = .ok (.ifCond .ne 7, 3) := by decide +kernel
theorem dX6_noEdit_11 : decode cX6_noEdit 11 = .ok (.iconst 1, 1) := by decide +kernel
theorem dX6_noEdit_12 : decode cX6_noEdit 12 = .ok (.goto 4, 3) := by decide +kernel
theorem dX6_noEdit_15 : decode cX6_noEdit 15 = .ok (.iconst 0, 1) := by decide +kernel
theorem dX6_noEdit_16 : decode cX6_noEdit 16 = .ok (.ireturn, 1) := by decide +kernel
set_option maxRecDepth 20000 in
theorem ggX6_begin_X6_no : GoodIn wsX6_begin wsX6_no := goodIn_r _ [6, 1, 7, 8, 5, 9, 32, 33, 34, 35, 36, 37, 38, 39, 40] (by decide +kernel) (by decide +kernel)
set_option maxRecDepth 20000 in
theorem gX6_begin_X6_no : GoodIn wsX6_begin (wsV RX6 67 RX6 yX6_no wsX6_no) := goodIn_app (goodIn_of _ (by decide +kernel)) ggX6_begin_X6_no
set_option maxRecDepth 20000 in
theorem ggX6_begin_X6_noEdit : GoodIn wsX6_begin wsX6_noEdit := goodIn_r _ [13, 1, 32, 33, 34, 35, 36, 37, 38, 39, 40] (by decide +kernel) (by decide +kernel)
set_option maxRecDepth 20000 in
theorem gX6_begin_X6_noEdit : GoodIn wsX6_begin (wsV RX6 99 RX6 yX6_noEdit wsX6_noEdit) := goodIn_app (goodIn_of _ (by decide +kernel)) ggX6_begin_X6_noEdit
set_option maxRecDepth 20000 in
theorem ggX6_begin_X6_isWindow : GoodIn wsX6_begin wsX6_isWindow := goodIn_r _ [17, 1, 32, 33, 34, 35, 36, 37, 38, 39, 40] (by decide +kernel) (by decide +kernel)
set_option maxRecDepth 20000 in
theorem gX6_begin_X6_isWindow : GoodIn wsX6_begin (wsV RX6 28 RX6 yX6_isWindow wsX6_isWindow) := goodIn_app (goodIn_of _ (by decide +kernel)) ggX6_begin_X6_isWindow
set_option maxRecDepth 20000 in
theorem ggX6_begin_X6_record : GoodIn wsX6_begin wsX6_record := goodIn_r _ [21, 22, 23, 1, 32, 33, 34, 35, 36, 37, 38, 39, 40] (by decide +kernel) (by decide +kernel)
set_option maxRecDepth 20000 in
theorem gX6_begin_X6_record : GoodIn wsX6_begin (wsV RX6 77 RX6 yX6_record wsX6_record) := goodIn_app (goodIn_of _ (by decide +kernel)) ggX6_begin_X6_record
set_option maxRecDepth 20000 in
theorem ggX6_begin_X6_copies : GoodIn wsX6_begin wsX6_copies := goodIn_r _ [27, 1, 32, 33, 34, 35, 36, 37, 38, 39, 40] (by decide +kernel) (by decide +kernel)
set_option maxRecDepth 20000 in
theorem gX6_begin_X6_copies : GoodIn wsX6_begin (wsV RX6 63 RX6 yX6_copies wsX6_copies) := goodIn_app (goodIn_of _ (by decide +kernel)) ggX6_begin_X6_copies
set_option maxRecDepth 20000 in
theorem ggX6_begin_X6_rowLength : GoodIn wsX6_begin wsX6_rowLength := goodIn_r _ [31, 1, 32, 33, 34, 35, 36, 37, 38, 39, 40] (by decide +kernel) (by decide +kernel)
set_option maxRecDepth 20000 in
theorem gX6_begin_X6_rowLength : GoodIn wsX6_begin (wsV RX6 32 RX6 yX6_rowLength wsX6_rowLength) := goodIn_app (goodIn_of _ (by decide +kernel)) ggX6_begin_X6_rowLength
theorem dX6_begin_0 : decode cX6_begin 0 = .ok (.aload_n 0, 1) := by decide +kernel
theorem dX6_begin_1 : decode cX6_begin 1 = .ok (.iload_n 1, 1) := by decide +kernel
theorem dX6_begin_2 : decode cX6_begin 2 = .ok (.invokevirtual 67, 3) := by decide +kernel
theorem dX6_begin_5 : decode cX6_begin 5 = .ok (.ifCond .eq 5, 3) := by decide +kernel
theorem dX6_begin_8 : decode cX6_begin 8 = .ok (.iconst (-1), 1) := by decide +kernel
theorem dX6_begin_9 : decode cX6_begin 9 = .ok (.ireturn, 1) := by decide +kernel
theorem dX6_begin_10 : decode cX6_begin 10 = .ok (.aload_n 0, 1) := by decide +kernel
theorem dX6_begin_11 : decode cX6_begin 11 = .ok (.invokevirtual 99, 3) := by decide +kernel
theorem dX6_begin_14 : decode cX6_begin 14 = .ok (.ifCond .eq 11, 3) := by decide +kernel
theorem dX6_begin_17 : decode cX6_begin 17 = .ok (.aload_n 0, 1) := by decide +kernel
theorem dX6_begin_18 : decode cX6_begin 18 = .ok (.iload_n 1, 1) := by decide +kernel
theorem dX6_begin_19 : decode cX6_begin 19 = .ok (.invokevirtual 28, 3) := by decide +kernel
theorem dX6_begin_22 : decode cX6_begin 22 = .ok (.ifCond .eq 6, 3) := by decide +kernel
theorem dX6_begin_25 : decode cX6_begin 25 = .ok (.bipush (-4), 2) := by decide +kernel
theorem dX6_begin_27 : decode cX6_begin 27 = .ok (.ireturn, 1) := by decide +kernel
theorem dX6_begin_28 : decode cX6_begin 28 = .ok (.aload_n 0, 1) := by decide +kernel
theorem dX6_begin_29 : decode cX6_begin 29 = .ok (.invokevirtual 77, 3) := by decide +kernel
theorem dX6_begin_32 : decode cX6_begin 32 = .ok (.aload_n 0, 1) := by decide +kernel
theorem dX6_begin_33 : decode cX6_begin 33 = .ok (.iload_n 1, 1) := by decide +kernel
theorem dX6_begin_34 : decode cX6_begin 34 = .ok (.bipush 24, 2) := by decide +kernel
theorem dX6_begin_36 : decode cX6_begin 36 = .ok (.invokevirtual 63, 3) := by decide +kernel
theorem dX6_begin_39 : decode cX6_begin 39 = .ok (.iconst 0, 1) := by decide +kernel
theorem dX6_begin_40 : decode cX6_begin 40 = .ok (.istore_n 2, 1) := by decide +kernel
theorem dX6_begin_41 : decode cX6_begin 41 = .ok (.iload_n 2, 1) := by decide +kernel
theorem dX6_begin_42 : decode cX6_begin 42 = .ok (.bipush 102, 2) := by decide +kernel
theorem dX6_begin_44 : decode cX6_begin 44 = .ok (.if_icmp .ge 20, 3) := by decide +kernel
theorem dX6_begin_47 : decode cX6_begin 47 = .ok (.aload_n 0, 1) := by decide +kernel
theorem dX6_begin_48 : decode cX6_begin 48 = .ok (.getfield 7, 3) := by decide +kernel
theorem dX6_begin_51 : decode cX6_begin 51 = .ok (.sipush 10174, 3) := by decide +kernel
theorem dX6_begin_54 : decode cX6_begin 54 = .ok (.iload_n 2, 1) := by decide +kernel
theorem dX6_begin_55 : decode cX6_begin 55 = .ok (.iadd, 1) := by decide +kernel
theorem dX6_begin_56 : decode cX6_begin 56 = .ok (.iconst 0, 1) := by decide +kernel
theorem dX6_begin_57 : decode cX6_begin 57 = .ok (.iastore, 1) := by decide +kernel
theorem dX6_begin_58 : decode cX6_begin 58 = .ok (.iinc 2 1, 3) := by decide +kernel
theorem dX6_begin_61 : decode cX6_begin 61 = .ok (.goto (-20), 3) := by decide +kernel
theorem dX6_begin_64 : decode cX6_begin 64 = .ok (.aload_n 0, 1) := by decide +kernel
theorem dX6_begin_65 : decode cX6_begin 65 = .ok (.getfield 7, 3) := by decide +kernel
theorem dX6_begin_68 : decode cX6_begin 68 = .ok (.sipush 10173, 3) := by decide +kernel
theorem dX6_begin_71 : decode cX6_begin 71 = .ok (.iconst 1, 1) := by decide +kernel
theorem dX6_begin_72 : decode cX6_begin 72 = .ok (.iastore, 1) := by decide +kernel
theorem dX6_begin_73 : decode cX6_begin 73 = .ok (.aload_n 0, 1) := by decide +kernel
theorem dX6_begin_74 : decode cX6_begin 74 = .ok (.bipush 24, 2) := by decide +kernel
theorem dX6_begin_76 : decode cX6_begin 76 = .ok (.invokevirtual 32, 3) := by decide +kernel
theorem dX6_begin_79 : decode cX6_begin 79 = .ok (.ireturn, 1) := by decide +kernel
set_option maxRecDepth 20000 in
theorem ggX6_editPush_X6_noEdit : GoodIn wsX6_editPush wsX6_noEdit := goodIn_r _ [6, 1, 43, 44, 45, 46, 47, 48, 49, 50, 51] (by decide +kernel) (by decide +kernel)
set_option maxRecDepth 20000 in
theorem gX6_editPush_X6_noEdit : GoodIn wsX6_editPush (wsV RX6 99 RX6 yX6_noEdit wsX6_noEdit) := goodIn_app (goodIn_of _ (by decide +kernel)) ggX6_editPush_X6_noEdit
set_option maxRecDepth 20000 in
theorem ggX6_editPush_X6_in : GoodIn wsX6_editPush wsX6_in := goodIn_r _ [9] (by decide +kernel) (by decide +kernel)
set_option maxRecDepth 20000 in
theorem gX6_editPush_X6_in : GoodIn wsX6_editPush (va_wsS RX6 24 yX6_in wsX6_in) := goodIn_app (goodIn_of _ (by decide +kernel)) ggX6_editPush_X6_in
set_option maxRecDepth 20000 in
theorem ggX6_editPush_X6_rowLength : GoodIn wsX6_editPush wsX6_rowLength := goodIn_r _ [13, 1, 43, 44, 45, 46, 47, 48, 49, 50, 51] (by decide +kernel) (by decide +kernel)
set_option maxRecDepth 20000 in
theorem gX6_editPush_X6_rowLength : GoodIn wsX6_editPush (wsV RX6 32 RX6 yX6_rowLength wsX6_rowLength) := goodIn_app (goodIn_of _ (by decide +kernel)) ggX6_editPush_X6_rowLength
set_option maxRecDepth 20000 in
theorem ggX6_editPush_X6_record : GoodIn wsX6_editPush wsX6_record := goodIn_r _ [17, 18, 19, 1, 43, 44, 45, 46, 47, 48, 49, 50, 51] (by decide +kernel) (by decide +kernel)
set_option maxRecDepth 20000 in
theorem gX6_editPush_X6_record : GoodIn wsX6_editPush (wsV RX6 77 RX6 yX6_record wsX6_record) := goodIn_app (goodIn_of _ (by decide +kernel)) ggX6_editPush_X6_record
set_option maxRecDepth 20000 in
theorem ggX6_editPush_X6_pushes : GoodIn wsX6_editPush wsX6_pushes := goodIn_r _ [23, 1, 10, 11, 12, 5, 13, 24, 25, 26, 27, 28, 29, 30, 31, 32, 33, 34, 35, 36, 37, 38, 39, 40, 41, 42, 43, 44, 45, 46, 47, 48, 49, 50, 51] (by decide +kernel) (by decide +kernel)
set_option maxRecDepth 20000 in
theorem gX6_editPush_X6_pushes : GoodIn wsX6_editPush (wsV RX6 84 RX6 yX6_pushes wsX6_pushes) := goodIn_app (goodIn_of _ (by decide +kernel)) ggX6_editPush_X6_pushes
theorem dX6_editPush_0 : decode cX6_editPush 0 = .ok (.aload_n 0, 1) := by decide +kernel
theorem dX6_editPush_1 : decode cX6_editPush 1 = .ok (.invokevirtual 99, 3) := by decide +kernel
theorem dX6_editPush_4 : decode cX6_editPush 4 = .ok (.ifCond .eq 6, 3) := by decide +kernel
theorem dX6_editPush_7 : decode cX6_editPush 7 = .ok (.bipush (-4), 2) := by decide +kernel
theorem dX6_editPush_9 : decode cX6_editPush 9 = .ok (.ireturn, 1) := by decide +kernel
theorem dX6_editPush_10 : decode cX6_editPush 10 = .ok (.iload_n 1, 1) := by decide +kernel
theorem dX6_editPush_11 : decode cX6_editPush 11 = .ok (.iconst 0, 1) := by decide +kernel
theorem dX6_editPush_12 : decode cX6_editPush 12 = .ok (.sipush 999, 3) := by decide +kernel
theorem dX6_editPush_15 : decode cX6_editPush 15 = .ok (.invokestatic 24, 3) := by decide +kernel
theorem dX6_editPush_18 : decode cX6_editPush 18 = .ok (.ifCond .ne 6, 3) := by decide +kernel
theorem dX6_editPush_21 : decode cX6_editPush 21 = .ok (.bipush (-2), 2) := by decide +kernel
theorem dX6_editPush_23 : decode cX6_editPush 23 = .ok (.ireturn, 1) := by decide +kernel
theorem dX6_editPush_24 : decode cX6_editPush 24 = .ok (.aload_n 0, 1) := by decide +kernel
theorem dX6_editPush_25 : decode cX6_editPush 25 = .ok (.bipush 24, 2) := by decide +kernel
theorem dX6_editPush_27 : decode cX6_editPush 27 = .ok (.invokevirtual 32, 3) := by decide +kernel
theorem dX6_editPush_30 : decode cX6_editPush 30 = .ok (.sipush 300, 3) := by decide +kernel
theorem dX6_editPush_33 : decode cX6_editPush 33 = .ok (.if_icmp .ne 6, 3) := by decide +kernel
theorem dX6_editPush_36 : decode cX6_editPush 36 = .ok (.bipush (-3), 2) := by decide +kernel
theorem dX6_editPush_38 : decode cX6_editPush 38 = .ok (.ireturn, 1) := by decide +kernel
theorem dX6_editPush_39 : decode cX6_editPush 39 = .ok (.aload_n 0, 1) := by decide +kernel
theorem dX6_editPush_40 : decode cX6_editPush 40 = .ok (.invokevirtual 77, 3) := by decide +kernel
theorem dX6_editPush_43 : decode cX6_editPush 43 = .ok (.aload_n 0, 1) := by decide +kernel
theorem dX6_editPush_44 : decode cX6_editPush 44 = .ok (.getfield 7, 3) := by decide +kernel
theorem dX6_editPush_47 : decode cX6_editPush 47 = .ok (.sipush 10172, 3) := by decide +kernel
theorem dX6_editPush_50 : decode cX6_editPush 50 = .ok (.iaload, 1) := by decide +kernel
theorem dX6_editPush_51 : decode cX6_editPush 51 = .ok (.istore_n 2, 1) := by decide +kernel
theorem dX6_editPush_52 : decode cX6_editPush 52 = .ok (.aload_n 0, 1) := by decide +kernel
theorem dX6_editPush_53 : decode cX6_editPush 53 = .ok (.bipush 24, 2) := by decide +kernel
theorem dX6_editPush_55 : decode cX6_editPush 55 = .ok (.iload_n 1, 1) := by decide +kernel
theorem dX6_editPush_56 : decode cX6_editPush 56 = .ok (.invokevirtual 84, 3) := by decide +kernel
theorem dX6_editPush_59 : decode cX6_editPush 59 = .ok (.aload_n 0, 1) := by decide +kernel
theorem dX6_editPush_60 : decode cX6_editPush 60 = .ok (.getfield 7, 3) := by decide +kernel
theorem dX6_editPush_63 : decode cX6_editPush 63 = .ok (.sipush 10172, 3) := by decide +kernel
theorem dX6_editPush_66 : decode cX6_editPush 66 = .ok (.iaload, 1) := by decide +kernel
theorem dX6_editPush_67 : decode cX6_editPush 67 = .ok (.iload_n 2, 1) := by decide +kernel
theorem dX6_editPush_68 : decode cX6_editPush 68 = .ok (.isub, 1) := by decide +kernel
theorem dX6_editPush_69 : decode cX6_editPush 69 = .ok (.ireturn, 1) := by decide +kernel
set_option maxRecDepth 20000 in
theorem ggX6_editSet_X6_noEdit : GoodIn wsX6_editSet wsX6_noEdit := goodIn_r _ [6, 1, 40, 41, 42, 43, 44, 45, 46, 47, 48] (by decide +kernel) (by decide +kernel)
set_option maxRecDepth 20000 in
theorem gX6_editSet_X6_noEdit : GoodIn wsX6_editSet (wsV RX6 99 RX6 yX6_noEdit wsX6_noEdit) := goodIn_app (goodIn_of _ (by decide +kernel)) ggX6_editSet_X6_noEdit
set_option maxRecDepth 20000 in
theorem ggX6_editSet_X6_rowLength : GoodIn wsX6_editSet wsX6_rowLength := goodIn_r _ [10, 1, 40, 41, 42, 43, 44, 45, 46, 47, 48] (by decide +kernel) (by decide +kernel)
set_option maxRecDepth 20000 in
theorem gX6_editSet_X6_rowLength : GoodIn wsX6_editSet (wsV RX6 32 RX6 yX6_rowLength wsX6_rowLength) := goodIn_app (goodIn_of _ (by decide +kernel)) ggX6_editSet_X6_rowLength
set_option maxRecDepth 20000 in
theorem ggX6_editSet_X6_in : GoodIn wsX6_editSet wsX6_in := goodIn_r _ [13] (by decide +kernel) (by decide +kernel)
set_option maxRecDepth 20000 in
theorem gX6_editSet_X6_in : GoodIn wsX6_editSet (va_wsS RX6 24 yX6_in wsX6_in) := goodIn_app (goodIn_of _ (by decide +kernel)) ggX6_editSet_X6_in
set_option maxRecDepth 20000 in
theorem ggX6_editSet_X6_record : GoodIn wsX6_editSet wsX6_record := goodIn_r _ [17, 18, 19, 1, 40, 41, 42, 43, 44, 45, 46, 47, 48] (by decide +kernel) (by decide +kernel)
set_option maxRecDepth 20000 in
theorem gX6_editSet_X6_record : GoodIn wsX6_editSet (wsV RX6 77 RX6 yX6_record wsX6_record) := goodIn_app (goodIn_of _ (by decide +kernel)) ggX6_editSet_X6_record
set_option maxRecDepth 20000 in
theorem ggX6_editSet_X6_sets : GoodIn wsX6_editSet wsX6_sets := goodIn_r _ [23, 1, 7, 8, 9, 5, 10, 24, 25, 26, 27, 28, 29, 30, 31, 32, 33, 34, 35, 36, 37, 38, 39, 40, 41, 42, 43, 44, 45, 46, 47, 48] (by decide +kernel) (by decide +kernel)
set_option maxRecDepth 20000 in
theorem gX6_editSet_X6_sets : GoodIn wsX6_editSet (wsV RX6 87 RX6 yX6_sets wsX6_sets) := goodIn_app (goodIn_of _ (by decide +kernel)) ggX6_editSet_X6_sets
theorem dX6_editSet_0 : decode cX6_editSet 0 = .ok (.aload_n 0, 1) := by decide +kernel
theorem dX6_editSet_1 : decode cX6_editSet 1 = .ok (.invokevirtual 99, 3) := by decide +kernel
theorem dX6_editSet_4 : decode cX6_editSet 4 = .ok (.ifCond .eq 6, 3) := by decide +kernel
theorem dX6_editSet_7 : decode cX6_editSet 7 = .ok (.bipush (-4), 2) := by decide +kernel
theorem dX6_editSet_9 : decode cX6_editSet 9 = .ok (.ireturn, 1) := by decide +kernel
theorem dX6_editSet_10 : decode cX6_editSet 10 = .ok (.iload_n 1, 1) := by decide +kernel
theorem dX6_editSet_11 : decode cX6_editSet 11 = .ok (.iconst 0, 1) := by decide +kernel
theorem dX6_editSet_12 : decode cX6_editSet 12 = .ok (.aload_n 0, 1) := by decide +kernel
theorem dX6_editSet_13 : decode cX6_editSet 13 = .ok (.bipush 24, 2) := by decide +kernel
theorem dX6_editSet_15 : decode cX6_editSet 15 = .ok (.invokevirtual 32, 3) := by decide +kernel
theorem dX6_editSet_18 : decode cX6_editSet 18 = .ok (.iconst 1, 1) := by decide +kernel
theorem dX6_editSet_19 : decode cX6_editSet 19 = .ok (.isub, 1) := by decide +kernel
theorem dX6_editSet_20 : decode cX6_editSet 20 = .ok (.invokestatic 24, 3) := by decide +kernel
theorem dX6_editSet_23 : decode cX6_editSet 23 = .ok (.ifCond .ne 5, 3) := by decide +kernel
theorem dX6_editSet_26 : decode cX6_editSet 26 = .ok (.iconst (-1), 1) := by decide +kernel
theorem dX6_editSet_27 : decode cX6_editSet 27 = .ok (.ireturn, 1) := by decide +kernel
theorem dX6_editSet_28 : decode cX6_editSet 28 = .ok (.iload_n 2, 1) := by decide +kernel
theorem dX6_editSet_29 : decode cX6_editSet 29 = .ok (.iconst 0, 1) := by decide +kernel
theorem dX6_editSet_30 : decode cX6_editSet 30 = .ok (.sipush 999, 3) := by decide +kernel
theorem dX6_editSet_33 : decode cX6_editSet 33 = .ok (.invokestatic 24, 3) := by decide +kernel
theorem dX6_editSet_36 : decode cX6_editSet 36 = .ok (.ifCond .ne 6, 3) := by decide +kernel
theorem dX6_editSet_39 : decode cX6_editSet 39 = .ok (.bipush (-2), 2) := by decide +kernel
theorem dX6_editSet_41 : decode cX6_editSet 41 = .ok (.ireturn, 1) := by decide +kernel
theorem dX6_editSet_42 : decode cX6_editSet 42 = .ok (.aload_n 0, 1) := by decide +kernel
theorem dX6_editSet_43 : decode cX6_editSet 43 = .ok (.invokevirtual 77, 3) := by decide +kernel
theorem dX6_editSet_46 : decode cX6_editSet 46 = .ok (.aload_n 0, 1) := by decide +kernel
theorem dX6_editSet_47 : decode cX6_editSet 47 = .ok (.getfield 7, 3) := by decide +kernel
theorem dX6_editSet_50 : decode cX6_editSet 50 = .ok (.sipush 10172, 3) := by decide +kernel
theorem dX6_editSet_53 : decode cX6_editSet 53 = .ok (.iaload, 1) := by decide +kernel
theorem dX6_editSet_54 : decode cX6_editSet 54 = .ok (.istore_n 3, 1) := by decide +kernel
theorem dX6_editSet_55 : decode cX6_editSet 55 = .ok (.aload_n 0, 1) := by decide +kernel
theorem dX6_editSet_56 : decode cX6_editSet 56 = .ok (.bipush 24, 2) := by decide +kernel
theorem dX6_editSet_58 : decode cX6_editSet 58 = .ok (.iload_n 1, 1) := by decide +kernel
theorem dX6_editSet_59 : decode cX6_editSet 59 = .ok (.iload_n 2, 1) := by decide +kernel
theorem dX6_editSet_60 : decode cX6_editSet 60 = .ok (.invokevirtual 87, 3) := by decide +kernel
theorem dX6_editSet_63 : decode cX6_editSet 63 = .ok (.aload_n 0, 1) := by decide +kernel
theorem dX6_editSet_64 : decode cX6_editSet 64 = .ok (.getfield 7, 3) := by decide +kernel
theorem dX6_editSet_67 : decode cX6_editSet 67 = .ok (.sipush 10172, 3) := by decide +kernel
theorem dX6_editSet_70 : decode cX6_editSet 70 = .ok (.iaload, 1) := by decide +kernel
theorem dX6_editSet_71 : decode cX6_editSet 71 = .ok (.iload_n 3, 1) := by decide +kernel
theorem dX6_editSet_72 : decode cX6_editSet 72 = .ok (.isub, 1) := by decide +kernel
theorem dX6_editSet_73 : decode cX6_editSet 73 = .ok (.ireturn, 1) := by decide +kernel
set_option maxRecDepth 20000 in
theorem ggX6_editPop_X6_noEdit : GoodIn wsX6_editPop wsX6_noEdit := goodIn_r _ [6, 1, 40, 41, 42, 43, 44, 45, 46, 47, 48] (by decide +kernel) (by decide +kernel)
set_option maxRecDepth 20000 in
theorem gX6_editPop_X6_noEdit : GoodIn wsX6_editPop (wsV RX6 99 RX6 yX6_noEdit wsX6_noEdit) := goodIn_app (goodIn_of _ (by decide +kernel)) ggX6_editPop_X6_noEdit
set_option maxRecDepth 20000 in
theorem ggX6_editPop_X6_rowLength : GoodIn wsX6_editPop wsX6_rowLength := goodIn_r _ [10, 1, 40, 41, 42, 43, 44, 45, 46, 47, 48] (by decide +kernel) (by decide +kernel)
set_option maxRecDepth 20000 in
theorem gX6_editPop_X6_rowLength : GoodIn wsX6_editPop (wsV RX6 32 RX6 yX6_rowLength wsX6_rowLength) := goodIn_app (goodIn_of _ (by decide +kernel)) ggX6_editPop_X6_rowLength
set_option maxRecDepth 20000 in
theorem ggX6_editPop_X6_record : GoodIn wsX6_editPop wsX6_record := goodIn_r _ [14, 15, 16, 1, 40, 41, 42, 43, 44, 45, 46, 47, 48] (by decide +kernel) (by decide +kernel)
set_option maxRecDepth 20000 in
theorem gX6_editPop_X6_record : GoodIn wsX6_editPop (wsV RX6 77 RX6 yX6_record wsX6_record) := goodIn_app (goodIn_of _ (by decide +kernel)) ggX6_editPop_X6_record
set_option maxRecDepth 20000 in
theorem ggX6_editPop_X6_pops : GoodIn wsX6_editPop wsX6_pops := goodIn_r _ [20, 1, 7, 8, 9, 5, 10, 21, 22, 23, 24, 25, 26, 27, 28, 29, 30, 31, 32, 33, 34, 35, 36, 37, 38, 39, 40, 41, 42, 43, 44, 45, 46, 47, 48] (by decide +kernel) (by decide +kernel)
set_option maxRecDepth 20000 in
theorem gX6_editPop_X6_pops : GoodIn wsX6_editPop (wsV RX6 91 RX6 yX6_pops wsX6_pops) := goodIn_app (goodIn_of _ (by decide +kernel)) ggX6_editPop_X6_pops
theorem dX6_editPop_0 : decode cX6_editPop 0 = .ok (.aload_n 0, 1) := by decide +kernel
theorem dX6_editPop_1 : decode cX6_editPop 1 = .ok (.invokevirtual 99, 3) := by decide +kernel
theorem dX6_editPop_4 : decode cX6_editPop 4 = .ok (.ifCond .ne 12, 3) := by decide +kernel
theorem dX6_editPop_7 : decode cX6_editPop 7 = .ok (.aload_n 0, 1) := by decide +kernel
theorem dX6_editPop_8 : decode cX6_editPop 8 = .ok (.bipush 24, 2) := by decide +kernel
theorem dX6_editPop_10 : decode cX6_editPop 10 = .ok (.invokevirtual 32, 3) := by decide +kernel
theorem dX6_editPop_13 : decode cX6_editPop 13 = .ok (.ifCond .ne 6, 3) := by decide +kernel
theorem dX6_editPop_16 : decode cX6_editPop 16 = .ok (.bipush (-4), 2) := by decide +kernel
theorem dX6_editPop_18 : decode cX6_editPop 18 = .ok (.ireturn, 1) := by decide +kernel
theorem dX6_editPop_19 : decode cX6_editPop 19 = .ok (.aload_n 0, 1) := by decide +kernel
theorem dX6_editPop_20 : decode cX6_editPop 20 = .ok (.invokevirtual 77, 3) := by decide +kernel
theorem dX6_editPop_23 : decode cX6_editPop 23 = .ok (.aload_n 0, 1) := by decide +kernel
theorem dX6_editPop_24 : decode cX6_editPop 24 = .ok (.getfield 7, 3) := by decide +kernel
theorem dX6_editPop_27 : decode cX6_editPop 27 = .ok (.sipush 10172, 3) := by decide +kernel
theorem dX6_editPop_30 : decode cX6_editPop 30 = .ok (.iaload, 1) := by decide +kernel
theorem dX6_editPop_31 : decode cX6_editPop 31 = .ok (.istore_n 1, 1) := by decide +kernel
theorem dX6_editPop_32 : decode cX6_editPop 32 = .ok (.aload_n 0, 1) := by decide +kernel
theorem dX6_editPop_33 : decode cX6_editPop 33 = .ok (.bipush 24, 2) := by decide +kernel
theorem dX6_editPop_35 : decode cX6_editPop 35 = .ok (.invokevirtual 91, 3) := by decide +kernel
theorem dX6_editPop_38 : decode cX6_editPop 38 = .ok (.aload_n 0, 1) := by decide +kernel
theorem dX6_editPop_39 : decode cX6_editPop 39 = .ok (.getfield 7, 3) := by decide +kernel
theorem dX6_editPop_42 : decode cX6_editPop 42 = .ok (.sipush 10172, 3) := by decide +kernel
theorem dX6_editPop_45 : decode cX6_editPop 45 = .ok (.iaload, 1) := by decide +kernel
theorem dX6_editPop_46 : decode cX6_editPop 46 = .ok (.iload_n 1, 1) := by decide +kernel
theorem dX6_editPop_47 : decode cX6_editPop 47 = .ok (.isub, 1) := by decide +kernel
theorem dX6_editPop_48 : decode cX6_editPop 48 = .ok (.ireturn, 1) := by decide +kernel
end
section
set_option maxRecDepth 20000 in
theorem ggX6_finish_X6_noEdit : GoodIn wsX6_finish wsX6_noEdit := goodIn_r _ [6, 1, 25, 26, 27, 28, 29, 30, 31, 32, 33] (by decide +kernel) (by decide +kernel)
set_option maxRecDepth 20000 in
theorem gX6_finish_X6_noEdit : GoodIn wsX6_finish (wsV RX6 99 RX6 yX6_noEdit wsX6_noEdit) := goodIn_app (goodIn_of _ (by decide +kernel)) ggX6_finish_X6_noEdit
set_option maxRecDepth 20000 in
theorem ggX6_finish_X6_isFull : GoodIn wsX6_finish wsX6_isFull := goodIn_r _ [10, 1, 25, 26, 27, 28, 29, 30, 31, 32, 33] (by decide +kernel) (by decide +kernel)
set_option maxRecDepth 20000 in
theorem gX6_finish_X6_isFull : GoodIn wsX6_finish (wsV RX6 73 RX6 yX6_isFull wsX6_isFull) := goodIn_app (goodIn_of _ (by decide +kernel)) ggX6_finish_X6_isFull
set_option maxRecDepth 20000 in
theorem ggX6_finish_X6_record : GoodIn wsX6_finish wsX6_record := goodIn_r _ [14, 15, 16, 1, 25, 26, 27, 28, 29, 30, 31, 32, 33] (by decide +kernel) (by decide +kernel)
set_option maxRecDepth 20000 in
theorem gX6_finish_X6_record : GoodIn wsX6_finish (wsV RX6 77 RX6 yX6_record wsX6_record) := goodIn_app (goodIn_of _ (by decide +kernel)) ggX6_finish_X6_record
set_option maxRecDepth 20000 in
theorem ggX6_finish_X6_comes : GoodIn wsX6_finish wsX6_comes := goodIn_r _ [20, 1, 21, 22, 23, 5, 24, 25, 26, 27, 28, 29, 30, 31, 32, 33] (by decide +kernel) (by decide +kernel)
set_option maxRecDepth 20000 in
theorem gX6_finish_X6_comes : GoodIn wsX6_finish (wsV RX6 80 RX6 yX6_comes wsX6_comes) := goodIn_app (goodIn_of _ (by decide +kernel)) ggX6_finish_X6_comes
theorem dX6_finish_0 : decode cX6_finish 0 = .ok (.aload_n 0, 1) := by decide +kernel
theorem dX6_finish_1 : decode cX6_finish 1 = .ok (.invokevirtual 99, 3) := by decide +kernel
theorem dX6_finish_4 : decode cX6_finish 4 = .ok (.ifCond .eq 6, 3) := by decide +kernel
theorem dX6_finish_7 : decode cX6_finish 7 = .ok (.bipush (-4), 2) := by decide +kernel
theorem dX6_finish_9 : decode cX6_finish 9 = .ok (.ireturn, 1) := by decide +kernel
theorem dX6_finish_10 : decode cX6_finish 10 = .ok (.aload_n 0, 1) := by decide +kernel
theorem dX6_finish_11 : decode cX6_finish 11 = .ok (.invokevirtual 73, 3) := by decide +kernel
theorem dX6_finish_14 : decode cX6_finish 14 = .ok (.ifCond .eq 6, 3) := by decide +kernel
theorem dX6_finish_17 : decode cX6_finish 17 = .ok (.bipush (-3), 2) := by decide +kernel
theorem dX6_finish_19 : decode cX6_finish 19 = .ok (.ireturn, 1) := by decide +kernel
theorem dX6_finish_20 : decode cX6_finish 20 = .ok (.aload_n 0, 1) := by decide +kernel
theorem dX6_finish_21 : decode cX6_finish 21 = .ok (.invokevirtual 77, 3) := by decide +kernel
theorem dX6_finish_24 : decode cX6_finish 24 = .ok (.aload_n 0, 1) := by decide +kernel
theorem dX6_finish_25 : decode cX6_finish 25 = .ok (.getfield 7, 3) := by decide +kernel
theorem dX6_finish_28 : decode cX6_finish 28 = .ok (.sipush 10173, 3) := by decide +kernel
theorem dX6_finish_31 : decode cX6_finish 31 = .ok (.iconst 0, 1) := by decide +kernel
theorem dX6_finish_32 : decode cX6_finish 32 = .ok (.iastore, 1) := by decide +kernel
theorem dX6_finish_33 : decode cX6_finish 33 = .ok (.aload_n 0, 1) := by decide +kernel
theorem dX6_finish_34 : decode cX6_finish 34 = .ok (.bipush 24, 2) := by decide +kernel
theorem dX6_finish_36 : decode cX6_finish 36 = .ok (.iconst 0, 1) := by decide +kernel
theorem dX6_finish_37 : decode cX6_finish 37 = .ok (.iconst 0, 1) := by decide +kernel
theorem dX6_finish_38 : decode cX6_finish 38 = .ok (.iconst 0, 1) := by decide +kernel
theorem dX6_finish_39 : decode cX6_finish 39 = .ok (.invokevirtual 80, 3) := by decide +kernel
theorem dX6_finish_42 : decode cX6_finish 42 = .ok (.ireturn, 1) := by decide +kernel
set_option maxRecDepth 20000 in
theorem ggX6_abandon_X6_noEdit : GoodIn wsX6_abandon wsX6_noEdit := goodIn_r _ [6, 1, 17, 18, 19, 20, 21, 22, 23, 24, 25] (by decide +kernel) (by decide +kernel)
set_option maxRecDepth 20000 in
theorem gX6_abandon_X6_noEdit : GoodIn wsX6_abandon (wsV RX6 99 RX6 yX6_noEdit wsX6_noEdit) := goodIn_app (goodIn_of _ (by decide +kernel)) ggX6_abandon_X6_noEdit
set_option maxRecDepth 20000 in
theorem ggX6_abandon_X6_record : GoodIn wsX6_abandon wsX6_record := goodIn_r _ [10, 11, 12, 1, 17, 18, 19, 20, 21, 22, 23, 24, 25] (by decide +kernel) (by decide +kernel)
set_option maxRecDepth 20000 in
theorem gX6_abandon_X6_record : GoodIn wsX6_abandon (wsV RX6 77 RX6 yX6_record wsX6_record) := goodIn_app (goodIn_of _ (by decide +kernel)) ggX6_abandon_X6_record
set_option maxRecDepth 20000 in
theorem ggX6_abandon_X6_rowLength : GoodIn wsX6_abandon wsX6_rowLength := goodIn_r _ [16, 1, 17, 18, 19, 20, 21, 22, 23, 24, 25] (by decide +kernel) (by decide +kernel)
set_option maxRecDepth 20000 in
theorem gX6_abandon_X6_rowLength : GoodIn wsX6_abandon (wsV RX6 32 RX6 yX6_rowLength wsX6_rowLength) := goodIn_app (goodIn_of _ (by decide +kernel)) ggX6_abandon_X6_rowLength
theorem dX6_abandon_0 : decode cX6_abandon 0 = .ok (.aload_n 0, 1) := by decide +kernel
theorem dX6_abandon_1 : decode cX6_abandon 1 = .ok (.invokevirtual 99, 3) := by decide +kernel
theorem dX6_abandon_4 : decode cX6_abandon 4 = .ok (.ifCond .eq 6, 3) := by decide +kernel
theorem dX6_abandon_7 : decode cX6_abandon 7 = .ok (.bipush (-4), 2) := by decide +kernel
theorem dX6_abandon_9 : decode cX6_abandon 9 = .ok (.ireturn, 1) := by decide +kernel
theorem dX6_abandon_10 : decode cX6_abandon 10 = .ok (.aload_n 0, 1) := by decide +kernel
theorem dX6_abandon_11 : decode cX6_abandon 11 = .ok (.invokevirtual 77, 3) := by decide +kernel
theorem dX6_abandon_14 : decode cX6_abandon 14 = .ok (.aload_n 0, 1) := by decide +kernel
theorem dX6_abandon_15 : decode cX6_abandon 15 = .ok (.getfield 7, 3) := by decide +kernel
theorem dX6_abandon_18 : decode cX6_abandon 18 = .ok (.sipush 10173, 3) := by decide +kernel
theorem dX6_abandon_21 : decode cX6_abandon 21 = .ok (.iconst 0, 1) := by decide +kernel
theorem dX6_abandon_22 : decode cX6_abandon 22 = .ok (.iastore, 1) := by decide +kernel
theorem dX6_abandon_23 : decode cX6_abandon 23 = .ok (.aload_n 0, 1) := by decide +kernel
theorem dX6_abandon_24 : decode cX6_abandon 24 = .ok (.bipush 24, 2) := by decide +kernel
theorem dX6_abandon_26 : decode cX6_abandon 26 = .ok (.invokevirtual 32, 3) := by decide +kernel
theorem dX6_abandon_29 : decode cX6_abandon 29 = .ok (.ireturn, 1) := by decide +kernel
theorem dX6_type_0 : decode cX6_type 0 = .ok (.aload_n 0, 1) := by decide +kernel
theorem dX6_type_1 : decode cX6_type 1 = .ok (.getfield 102, 3) := by decide +kernel
theorem dX6_type_4 : decode cX6_type 4 = .ok (.bipush 60, 2) := by decide +kernel
theorem dX6_type_6 : decode cX6_type 6 = .ok (.if_icmp .ne 6, 3) := by decide +kernel
theorem dX6_type_9 : decode cX6_type 9 = .ok (.bipush (-3), 2) := by decide +kernel
theorem dX6_type_11 : decode cX6_type 11 = .ok (.ireturn, 1) := by decide +kernel
theorem dX6_type_12 : decode cX6_type 12 = .ok (.aload_n 0, 1) := by decide +kernel
theorem dX6_type_13 : decode cX6_type 13 = .ok (.getfield 20, 3) := by decide +kernel
theorem dX6_type_16 : decode cX6_type 16 = .ok (.aload_n 0, 1) := by decide +kernel
theorem dX6_type_17 : decode cX6_type 17 = .ok (.getfield 102, 3) := by decide +kernel
theorem dX6_type_20 : decode cX6_type 20 = .ok (.iload_n 1, 1) := by decide +kernel
theorem dX6_type_21 : decode cX6_type 21 = .ok (.castore, 1) := by decide +kernel
theorem dX6_type_22 : decode cX6_type 22 = .ok (.aload_n 0, 1) := by decide +kernel
theorem dX6_type_23 : decode cX6_type 23 = .ok (.dup, 1) := by decide +kernel
theorem dX6_type_24 : decode cX6_type 24 = .ok (.getfield 102, 3) := by decide +kernel
theorem dX6_type_27 : decode cX6_type 27 = .ok (.iconst 1, 1) := by decide +kernel
theorem dX6_type_28 : decode cX6_type 28 = .ok (.iadd, 1) := by decide +kernel
theorem dX6_type_29 : decode cX6_type 29 = .ok (.putfield 102, 3) := by decide +kernel
theorem dX6_type_32 : decode cX6_type 32 = .ok (.aload_n 0, 1) := by decide +kernel
theorem dX6_type_33 : decode cX6_type 33 = .ok (.getfield 102, 3) := by decide +kernel
theorem dX6_type_36 : decode cX6_type 36 = .ok (.ireturn, 1) := by decide +kernel
theorem dX6_clearText_0 : decode cX6_clearText 0 = .ok (.aload_n 0, 1) := by decide +kernel
theorem dX6_clearText_1 : decode cX6_clearText 1 = .ok (.getfield 102, 3) := by decide +kernel
theorem dX6_clearText_4 : decode cX6_clearText 4 = .ok (.istore_n 1, 1) := by decide +kernel
theorem dX6_clearText_5 : decode cX6_clearText 5 = .ok (.aload_n 0, 1) := by decide +kernel
theorem dX6_clearText_6 : decode cX6_clearText 6 = .ok (.iconst 0, 1) := by decide +kernel
theorem dX6_clearText_7 : decode cX6_clearText 7 = .ok (.putfield 102, 3) := by decide +kernel
theorem dX6_clearText_10 : decode cX6_clearText 10 = .ok (.iload_n 1, 1) := by decide +kernel
theorem dX6_clearText_11 : decode cX6_clearText 11 = .ok (.ireturn, 1) := by decide +kernel
set_option maxRecDepth 20000 in
theorem ggX6_isDigit_X6_in : GoodIn wsX6_isDigit wsX6_in := goodIn_r _ [7] (by decide +kernel) (by decide +kernel)
set_option maxRecDepth 20000 in
theorem gX6_isDigit_X6_in : GoodIn wsX6_isDigit (va_wsS RX6 24 yX6_in wsX6_in) := goodIn_app (goodIn_of _ (by decide +kernel)) ggX6_isDigit_X6_in
theorem dX6_isDigit_0 : decode cX6_isDigit 0 = .ok (.aload_n 0, 1) := by decide +kernel
theorem dX6_isDigit_1 : decode cX6_isDigit 1 = .ok (.getfield 105, 3) := by decide +kernel
theorem dX6_isDigit_4 : decode cX6_isDigit 4 = .ok (.aload_n 0, 1) := by decide +kernel
theorem dX6_isDigit_5 : decode cX6_isDigit 5 = .ok (.getfield 102, 3) := by decide +kernel
theorem dX6_isDigit_8 : decode cX6_isDigit 8 = .ok (.if_icmp .ge 26, 3) := by decide +kernel
theorem dX6_isDigit_11 : decode cX6_isDigit 11 = .ok (.aload_n 0, 1) := by decide +kernel
theorem dX6_isDigit_12 : decode cX6_isDigit 12 = .ok (.getfield 20, 3) := by decide +kernel
theorem dX6_isDigit_15 : decode cX6_isDigit 15 = .ok (.aload_n 0, 1) := by decide +kernel
theorem dX6_isDigit_16 : decode cX6_isDigit 16 = .ok (.getfield 105, 3) := by decide +kernel
theorem dX6_isDigit_19 : decode cX6_isDigit 19 = .ok (.caload, 1) := by decide +kernel
theorem dX6_isDigit_20 : decode cX6_isDigit 20 = .ok (.bipush 48, 2) := by decide +kernel
theorem dX6_isDigit_22 : decode cX6_isDigit 22 = .ok (.bipush 57, 2) := by decide +kernel
theorem dX6_isDigit_24 : decode cX6_isDigit 24 = .ok (.invokestatic 24, 3) := by decide +kernel
theorem dX6_isDigit_27 : decode cX6_isDigit 27 = .ok (.ifCond .eq 7, 3) := by decide +kernel
theorem dX6_isDigit_30 : decode cX6_isDigit 30 = .ok (.iconst 1, 1) := by decide +kernel
theorem dX6_isDigit_31 : decode cX6_isDigit 31 = .ok (.goto 4, 3) := by decide +kernel
theorem dX6_isDigit_34 : decode cX6_isDigit 34 = .ok (.iconst 0, 1) := by decide +kernel
theorem dX6_isDigit_35 : decode cX6_isDigit 35 = .ok (.ireturn, 1) := by decide +kernel
set_option maxRecDepth 20000 in
theorem ggX6_takesNumber_X6_isDigit : GoodIn wsX6_takesNumber wsX6_isDigit := goodIn_r _ [8, 2, 9, 1, 10, 11, 7, 12, 13, 14, 15, 16, 17, 18, 19, 20, 21] (by decide +kernel) (by decide +kernel)
set_option maxRecDepth 20000 in
theorem gX6_takesNumber_X6_isDigit : GoodIn wsX6_takesNumber (wsV RX6 108 RX6 yX6_isDigit wsX6_isDigit) := goodIn_app (goodIn_of _ (by decide +kernel)) ggX6_takesNumber_X6_isDigit
theorem dX6_takesNumber_0 : decode cX6_takesNumber 0 = .ok (.aload_n 0, 1) := by decide +kernel
theorem dX6_takesNumber_1 : decode cX6_takesNumber 1 = .ok (.invokevirtual 108, 3) := by decide +kernel
theorem dX6_takesNumber_4 : decode cX6_takesNumber 4 = .ok (.ifCond .ne 5, 3) := by decide +kernel
theorem dX6_takesNumber_7 : decode cX6_takesNumber 7 = .ok (.iconst 0, 1) := by decide +kernel
theorem dX6_takesNumber_8 : decode cX6_takesNumber 8 = .ok (.ireturn, 1) := by decide +kernel
theorem dX6_takesNumber_9 : decode cX6_takesNumber 9 = .ok (.aload_n 0, 1) := by decide +kernel
theorem dX6_takesNumber_10 : decode cX6_takesNumber 10 = .ok (.aload_n 0, 1) := by decide +kernel
theorem dX6_takesNumber_11 : decode cX6_takesNumber 11 = .ok (.getfield 20, 3) := by decide +kernel
theorem dX6_takesNumber_14 : decode cX6_takesNumber 14 = .ok (.aload_n 0, 1) := by decide +kernel
theorem dX6_takesNumber_15 : decode cX6_takesNumber 15 = .ok (.getfield 105, 3) := by decide +kernel
theorem dX6_takesNumber_18 : decode cX6_takesNumber 18 = .ok (.caload, 1) := by decide +kernel
theorem dX6_takesNumber_19 : decode cX6_takesNumber 19 = .ok (.bipush 48, 2) := by decide +kernel
theorem dX6_takesNumber_21 : decode cX6_takesNumber 21 = .ok (.isub, 1) := by decide +kernel
theorem dX6_takesNumber_22 : decode cX6_takesNumber 22 = .ok (.putfield 111, 3) := by decide +kernel
theorem dX6_takesNumber_25 : decode cX6_takesNumber 25 = .ok (.aload_n 0, 1) := by decide +kernel
theorem dX6_takesNumber_26 : decode cX6_takesNumber 26 = .ok (.dup, 1) := by decide +kernel
theorem dX6_takesNumber_27 : decode cX6_takesNumber 27 = .ok (.getfield 105, 3) := by decide +kernel
theorem dX6_takesNumber_30 : decode cX6_takesNumber 30 = .ok (.iconst 1, 1) := by decide +kernel
theorem dX6_takesNumber_31 : decode cX6_takesNumber 31 = .ok (.iadd, 1) := by decide +kernel
theorem dX6_takesNumber_32 : decode cX6_takesNumber 32 = .ok (.putfield 105, 3) := by decide +kernel
theorem dX6_takesNumber_35 : decode cX6_takesNumber 35 = .ok (.iconst 0, 1) := by decide +kernel
theorem dX6_takesNumber_36 : decode cX6_takesNumber 36 = .ok (.istore_n 1, 1) := by decide +kernel
theorem dX6_takesNumber_37 : decode cX6_takesNumber 37 = .ok (.iload_n 1, 1) := by decide +kernel
theorem dX6_takesNumber_38 : decode cX6_takesNumber 38 = .ok (.iconst 2, 1) := by decide +kernel
theorem dX6_takesNumber_39 : decode cX6_takesNumber 39 = .ok (.if_icmp .ge 57, 3) := by decide +kernel
theorem dX6_takesNumber_42 : decode cX6_takesNumber 42 = .ok (.aload_n 0, 1) := by decide +kernel
theorem dX6_takesNumber_43 : decode cX6_takesNumber 43 = .ok (.getfield 111, 3) := by decide +kernel
theorem dX6_takesNumber_46 : decode cX6_takesNumber 46 = .ok (.ifCond .le 50, 3) := by decide +kernel
theorem dX6_takesNumber_49 : decode cX6_takesNumber 49 = .ok (.aload_n 0, 1) := by decide +kernel
theorem dX6_takesNumber_50 : decode cX6_takesNumber 50 = .ok (.invokevirtual 108, 3) := by decide +kernel
theorem dX6_takesNumber_53 : decode cX6_takesNumber 53 = .ok (.ifCond .eq 43, 3) := by decide +kernel
theorem dX6_takesNumber_56 : decode cX6_takesNumber 56 = .ok (.aload_n 0, 1) := by decide +kernel
theorem dX6_takesNumber_57 : decode cX6_takesNumber 57 = .ok (.bipush 10, 2) := by decide +kernel
theorem dX6_takesNumber_59 : decode cX6_takesNumber 59 = .ok (.aload_n 0, 1) := by decide +kernel
theorem dX6_takesNumber_60 : decode cX6_takesNumber 60 = .ok (.getfield 111, 3) := by decide +kernel
theorem dX6_takesNumber_63 : decode cX6_takesNumber 63 = .ok (.imul, 1) := by decide +kernel
theorem dX6_takesNumber_64 : decode cX6_takesNumber 64 = .ok (.aload_n 0, 1) := by decide +kernel
theorem dX6_takesNumber_65 : decode cX6_takesNumber 65 = .ok (.getfield 20, 3) := by decide +kernel
theorem dX6_takesNumber_68 : decode cX6_takesNumber 68 = .ok (.aload_n 0, 1) := by decide +kernel
theorem dX6_takesNumber_69 : decode cX6_takesNumber 69 = .ok (.getfield 105, 3) := by decide +kernel
theorem dX6_takesNumber_72 : decode cX6_takesNumber 72 = .ok (.caload, 1) := by decide +kernel
theorem dX6_takesNumber_73 : decode cX6_takesNumber 73 = .ok (.iadd, 1) := by decide +kernel
theorem dX6_takesNumber_74 : decode cX6_takesNumber 74 = .ok (.bipush 48, 2) := by decide +kernel
theorem dX6_takesNumber_76 : decode cX6_takesNumber 76 = .ok (.isub, 1) := by decide +kernel
theorem dX6_takesNumber_77 : decode cX6_takesNumber 77 = .ok (.putfield 111, 3) := by decide +kernel
theorem dX6_takesNumber_80 : decode cX6_takesNumber 80 = .ok (.aload_n 0, 1) := by decide +kernel
theorem dX6_takesNumber_81 : decode cX6_takesNumber 81 = .ok (.dup, 1) := by decide +kernel
theorem dX6_takesNumber_82 : decode cX6_takesNumber 82 = .ok (.getfield 105, 3) := by decide +kernel
theorem dX6_takesNumber_85 : decode cX6_takesNumber 85 = .ok (.iconst 1, 1) := by decide +kernel
theorem dX6_takesNumber_86 : decode cX6_takesNumber 86 = .ok (.iadd, 1) := by decide +kernel
theorem dX6_takesNumber_87 : decode cX6_takesNumber 87 = .ok (.putfield 105, 3) := by decide +kernel
theorem dX6_takesNumber_90 : decode cX6_takesNumber 90 = .ok (.iinc 1 1, 3) := by decide +kernel
theorem dX6_takesNumber_93 : decode cX6_takesNumber 93 = .ok (.goto (-56), 3) := by decide +kernel
theorem dX6_takesNumber_96 : decode cX6_takesNumber 96 = .ok (.iconst 1, 1) := by decide +kernel
theorem dX6_takesNumber_97 : decode cX6_takesNumber 97 = .ok (.ireturn, 1) := by decide +kernel
set_option maxRecDepth 20000 in
theorem ggX6_valuesOfText_X6_takesNumber : GoodIn wsX6_valuesOfText wsX6_takesNumber := goodIn_r _ [8, 3, 1, 9, 10, 11, 12, 7, 13, 2, 14, 15, 16, 17, 18, 19, 20, 21, 22, 23, 24, 25] (by decide +kernel) (by decide +kernel)
set_option maxRecDepth 20000 in
theorem gX6_valuesOfText_X6_takesNumber : GoodIn wsX6_valuesOfText (wsV RX6 114 RX6 yX6_takesNumber wsX6_takesNumber) := goodIn_app (goodIn_of _ (by decide +kernel)) ggX6_valuesOfText_X6_takesNumber
theorem dX6_valuesOfText_0 : decode cX6_valuesOfText 0 = .ok (.aload_n 0, 1) := by decide +kernel
theorem dX6_valuesOfText_1 : decode cX6_valuesOfText 1 = .ok (.iconst 0, 1) := by decide +kernel
theorem dX6_valuesOfText_2 : decode cX6_valuesOfText 2 = .ok (.putfield 105, 3) := by decide +kernel
theorem dX6_valuesOfText_5 : decode cX6_valuesOfText 5 = .ok (.iconst 0, 1) := by decide +kernel
theorem dX6_valuesOfText_6 : decode cX6_valuesOfText 6 = .ok (.istore_n 1, 1) := by decide +kernel
theorem dX6_valuesOfText_7 : decode cX6_valuesOfText 7 = .ok (.iconst 1, 1) := by decide +kernel
theorem dX6_valuesOfText_8 : decode cX6_valuesOfText 8 = .ok (.istore_n 2, 1) := by decide +kernel
theorem dX6_valuesOfText_9 : decode cX6_valuesOfText 9 = .ok (.iload_n 2, 1) := by decide +kernel
theorem dX6_valuesOfText_10 : decode cX6_valuesOfText 10 = .ok (.ifCond .eq 75, 3) := by decide +kernel
theorem dX6_valuesOfText_13 : decode cX6_valuesOfText 13 = .ok (.aload_n 0, 1) := by decide +kernel
theorem dX6_valuesOfText_14 : decode cX6_valuesOfText 14 = .ok (.invokevirtual 114, 3) := by decide +kernel
theorem dX6_valuesOfText_17 : decode cX6_valuesOfText 17 = .ok (.ifCond .ne 6, 3) := by decide +kernel
theorem dX6_valuesOfText_20 : decode cX6_valuesOfText 20 = .ok (.bipush (-5), 2) := by decide +kernel
theorem dX6_valuesOfText_22 : decode cX6_valuesOfText 22 = .ok (.ireturn, 1) := by decide +kernel
theorem dX6_valuesOfText_23 : decode cX6_valuesOfText 23 = .ok (.iinc 1 1, 3) := by decide +kernel
theorem dX6_valuesOfText_26 : decode cX6_valuesOfText 26 = .ok (.aload_n 0, 1) := by decide +kernel
theorem dX6_valuesOfText_27 : decode cX6_valuesOfText 27 = .ok (.getfield 105, 3) := by decide +kernel
theorem dX6_valuesOfText_30 : decode cX6_valuesOfText 30 = .ok (.aload_n 0, 1) := by decide +kernel
theorem dX6_valuesOfText_31 : decode cX6_valuesOfText 31 = .ok (.getfield 102, 3) := by decide +kernel
theorem dX6_valuesOfText_34 : decode cX6_valuesOfText 34 = .ok (.if_icmp .ge 7, 3) := by decide +kernel
theorem dX6_valuesOfText_37 : decode cX6_valuesOfText 37 = .ok (.iconst 1, 1) := by decide +kernel
theorem dX6_valuesOfText_38 : decode cX6_valuesOfText 38 = .ok (.goto 4, 3) := by decide +kernel
theorem dX6_valuesOfText_41 : decode cX6_valuesOfText 41 = .ok (.iconst 0, 1) := by decide +kernel
theorem dX6_valuesOfText_42 : decode cX6_valuesOfText 42 = .ok (.istore_n 2, 1) := by decide +kernel
theorem dX6_valuesOfText_43 : decode cX6_valuesOfText 43 = .ok (.iload_n 2, 1) := by decide +kernel
theorem dX6_valuesOfText_44 : decode cX6_valuesOfText 44 = .ok (.ifCond .eq 20, 3) := by decide +kernel
theorem dX6_valuesOfText_47 : decode cX6_valuesOfText 47 = .ok (.aload_n 0, 1) := by decide +kernel
theorem dX6_valuesOfText_48 : decode cX6_valuesOfText 48 = .ok (.getfield 20, 3) := by decide +kernel
theorem dX6_valuesOfText_51 : decode cX6_valuesOfText 51 = .ok (.aload_n 0, 1) := by decide +kernel
theorem dX6_valuesOfText_52 : decode cX6_valuesOfText 52 = .ok (.getfield 105, 3) := by decide +kernel
theorem dX6_valuesOfText_55 : decode cX6_valuesOfText 55 = .ok (.caload, 1) := by decide +kernel
theorem dX6_valuesOfText_56 : decode cX6_valuesOfText 56 = .ok (.bipush 44, 2) := by decide +kernel
theorem dX6_valuesOfText_58 : decode cX6_valuesOfText 58 = .ok (.if_icmp .eq 6, 3) := by decide +kernel
theorem dX6_valuesOfText_61 : decode cX6_valuesOfText 61 = .ok (.bipush (-5), 2) := by decide +kernel
theorem dX6_valuesOfText_63 : decode cX6_valuesOfText 63 = .ok (.ireturn, 1) := by decide +kernel
theorem dX6_valuesOfText_64 : decode cX6_valuesOfText 64 = .ok (.aload_n 0, 1) := by decide +kernel
theorem dX6_valuesOfText_65 : decode cX6_valuesOfText 65 = .ok (.dup, 1) := by decide +kernel
theorem dX6_valuesOfText_66 : decode cX6_valuesOfText 66 = .ok (.getfield 105, 3) := by decide +kernel
theorem dX6_valuesOfText_69 : decode cX6_valuesOfText 69 = .ok (.iload_n 2, 1) := by decide +kernel
theorem dX6_valuesOfText_70 : decode cX6_valuesOfText 70 = .ok (.ifCond .eq 7, 3) := by decide +kernel
theorem dX6_valuesOfText_73 : decode cX6_valuesOfText 73 = .ok (.iconst 1, 1) := by decide +kernel
theorem dX6_valuesOfText_74 : decode cX6_valuesOfText 74 = .ok (.goto 4, 3) := by decide +kernel
theorem dX6_valuesOfText_77 : decode cX6_valuesOfText 77 = .ok (.iconst 0, 1) := by decide +kernel
theorem dX6_valuesOfText_78 : decode cX6_valuesOfText 78 = .ok (.iadd, 1) := by decide +kernel
theorem dX6_valuesOfText_79 : decode cX6_valuesOfText 79 = .ok (.putfield 105, 3) := by decide +kernel
theorem dX6_valuesOfText_82 : decode cX6_valuesOfText 82 = .ok (.goto (-73), 3) := by decide +kernel
theorem dX6_valuesOfText_85 : decode cX6_valuesOfText 85 = .ok (.iload_n 1, 1) := by decide +kernel
theorem dX6_valuesOfText_86 : decode cX6_valuesOfText 86 = .ok (.ireturn, 1) := by decide +kernel
set_option maxRecDepth 20000 in
theorem ggX6_editRead_X6_noEdit : GoodIn wsX6_editRead wsX6_noEdit := goodIn_r _ [8, 2, 59, 60, 61, 62, 63, 64, 65, 66, 67] (by decide +kernel) (by decide +kernel)
set_option maxRecDepth 20000 in
theorem gX6_editRead_X6_noEdit : GoodIn wsX6_editRead (wsV RX6 99 RX6 yX6_noEdit wsX6_noEdit) := goodIn_app (goodIn_of _ (by decide +kernel)) ggX6_editRead_X6_noEdit
set_option maxRecDepth 20000 in
theorem ggX6_editRead_X6_valuesOfText : GoodIn wsX6_editRead wsX6_valuesOfText := goodIn_r _ [12, 1, 13, 14, 15, 16, 17, 7, 18, 3, 19, 20, 21, 22, 23, 24, 25, 59, 60, 61, 62, 63, 64, 65, 66, 67] (by decide +kernel) (by decide +kernel)
set_option maxRecDepth 20000 in
theorem gX6_editRead_X6_valuesOfText : GoodIn wsX6_editRead (wsV RX6 117 RX6 yX6_valuesOfText wsX6_valuesOfText) := goodIn_app (goodIn_of _ (by decide +kernel)) ggX6_editRead_X6_valuesOfText
set_option maxRecDepth 20000 in
theorem ggX6_editRead_X6_rowLength : GoodIn wsX6_editRead wsX6_rowLength := goodIn_r _ [29, 2, 59, 60, 61, 62, 63, 64, 65, 66, 67] (by decide +kernel) (by decide +kernel)
set_option maxRecDepth 20000 in
theorem gX6_editRead_X6_rowLength : GoodIn wsX6_editRead (wsV RX6 32 RX6 yX6_rowLength wsX6_rowLength) := goodIn_app (goodIn_of _ (by decide +kernel)) ggX6_editRead_X6_rowLength
set_option maxRecDepth 20000 in
theorem ggX6_editRead_X6_record : GoodIn wsX6_editRead wsX6_record := goodIn_r _ [33, 34, 35, 2, 59, 60, 61, 62, 63, 64, 65, 66, 67] (by decide +kernel) (by decide +kernel)
set_option maxRecDepth 20000 in
theorem gX6_editRead_X6_record : GoodIn wsX6_editRead (wsV RX6 77 RX6 yX6_record wsX6_record) := goodIn_app (goodIn_of _ (by decide +kernel)) ggX6_editRead_X6_record
set_option maxRecDepth 20000 in
theorem ggX6_editRead_X6_takesNumber : GoodIn wsX6_editRead wsX6_takesNumber := goodIn_r _ [18, 14, 1, 3, 19, 20, 21, 7, 22, 13, 23, 24, 25, 59, 60, 61, 62, 63, 64, 65, 66, 67] (by decide +kernel) (by decide +kernel)
set_option maxRecDepth 20000 in
theorem gX6_editRead_X6_takesNumber : GoodIn wsX6_editRead (wsV RX6 114 RX6 yX6_takesNumber wsX6_takesNumber) := goodIn_app (goodIn_of _ (by decide +kernel)) ggX6_editRead_X6_takesNumber
set_option maxRecDepth 20000 in
theorem ggX6_editRead_X6_pushes : GoodIn wsX6_editRead wsX6_pushes := goodIn_r _ [39, 2, 26, 27, 28, 7, 29, 40, 41, 42, 43, 44, 45, 46, 47, 48, 49, 50, 51, 52, 53, 54, 55, 56, 57, 58, 59, 60, 61, 62, 63, 64, 65, 66, 67] (by decide +kernel) (by decide +kernel)
set_option maxRecDepth 20000 in
theorem gX6_editRead_X6_pushes : GoodIn wsX6_editRead (wsV RX6 84 RX6 yX6_pushes wsX6_pushes) := goodIn_app (goodIn_of _ (by decide +kernel)) ggX6_editRead_X6_pushes
theorem dX6_editRead_0 : decode cX6_editRead 0 = .ok (.aload_n 0, 1) := by decide +kernel
theorem dX6_editRead_1 : decode cX6_editRead 1 = .ok (.invokevirtual 99, 3) := by decide +kernel
theorem dX6_editRead_4 : decode cX6_editRead 4 = .ok (.ifCond .eq 6, 3) := by decide +kernel
theorem dX6_editRead_7 : decode cX6_editRead 7 = .ok (.bipush (-4), 2) := by decide +kernel
theorem dX6_editRead_9 : decode cX6_editRead 9 = .ok (.ireturn, 1) := by decide +kernel
theorem dX6_editRead_10 : decode cX6_editRead 10 = .ok (.aload_n 0, 1) := by decide +kernel
theorem dX6_editRead_11 : decode cX6_editRead 11 = .ok (.invokevirtual 117, 3) := by decide +kernel
theorem dX6_editRead_14 : decode cX6_editRead 14 = .ok (.istore_n 1, 1) := by decide +kernel
theorem dX6_editRead_15 : decode cX6_editRead 15 = .ok (.iload_n 1, 1) := by decide +kernel
theorem dX6_editRead_16 : decode cX6_editRead 16 = .ok (.bipush (-5), 2) := by decide +kernel
theorem dX6_editRead_18 : decode cX6_editRead 18 = .ok (.if_icmp .ne 11, 3) := by decide +kernel
theorem dX6_editRead_21 : decode cX6_editRead 21 = .ok (.bipush (-100), 2) := by decide +kernel
theorem dX6_editRead_23 : decode cX6_editRead 23 = .ok (.aload_n 0, 1) := by decide +kernel
theorem dX6_editRead_24 : decode cX6_editRead 24 = .ok (.getfield 105, 3) := by decide +kernel
theorem dX6_editRead_27 : decode cX6_editRead 27 = .ok (.isub, 1) := by decide +kernel
theorem dX6_editRead_28 : decode cX6_editRead 28 = .ok (.ireturn, 1) := by decide +kernel
theorem dX6_editRead_29 : decode cX6_editRead 29 = .ok (.aload_n 0, 1) := by decide +kernel
theorem dX6_editRead_30 : decode cX6_editRead 30 = .ok (.bipush 24, 2) := by decide +kernel
theorem dX6_editRead_32 : decode cX6_editRead 32 = .ok (.invokevirtual 32, 3) := by decide +kernel
theorem dX6_editRead_35 : decode cX6_editRead 35 = .ok (.iload_n 1, 1) := by decide +kernel
theorem dX6_editRead_36 : decode cX6_editRead 36 = .ok (.iadd, 1) := by decide +kernel
theorem dX6_editRead_37 : decode cX6_editRead 37 = .ok (.sipush 300, 3) := by decide +kernel
theorem dX6_editRead_40 : decode cX6_editRead 40 = .ok (.if_icmp .le 6, 3) := by decide +kernel
theorem dX6_editRead_43 : decode cX6_editRead 43 = .ok (.bipush (-3), 2) := by decide +kernel
theorem dX6_editRead_45 : decode cX6_editRead 45 = .ok (.ireturn, 1) := by decide +kernel
theorem dX6_editRead_46 : decode cX6_editRead 46 = .ok (.aload_n 0, 1) := by decide +kernel
theorem dX6_editRead_47 : decode cX6_editRead 47 = .ok (.invokevirtual 77, 3) := by decide +kernel
theorem dX6_editRead_50 : decode cX6_editRead 50 = .ok (.aload_n 0, 1) := by decide +kernel
theorem dX6_editRead_51 : decode cX6_editRead 51 = .ok (.getfield 7, 3) := by decide +kernel
theorem dX6_editRead_54 : decode cX6_editRead 54 = .ok (.sipush 10172, 3) := by decide +kernel
theorem dX6_editRead_57 : decode cX6_editRead 57 = .ok (.iaload, 1) := by decide +kernel
theorem dX6_editRead_58 : decode cX6_editRead 58 = .ok (.istore_n 2, 1) := by decide +kernel
theorem dX6_editRead_59 : decode cX6_editRead 59 = .ok (.aload_n 0, 1) := by decide +kernel
theorem dX6_editRead_60 : decode cX6_editRead 60 = .ok (.iconst 0, 1) := by decide +kernel
theorem dX6_editRead_61 : decode cX6_editRead 61 = .ok (.putfield 105, 3) := by decide +kernel
theorem dX6_editRead_64 : decode cX6_editRead 64 = .ok (.iconst 0, 1) := by decide +kernel
theorem dX6_editRead_65 : decode cX6_editRead 65 = .ok (.istore_n 3, 1) := by decide +kernel
theorem dX6_editRead_66 : decode cX6_editRead 66 = .ok (.iload_n 3, 1) := by decide +kernel
theorem dX6_editRead_67 : decode cX6_editRead 67 = .ok (.iload_n 1, 1) := by decide +kernel
theorem dX6_editRead_68 : decode cX6_editRead 68 = .ok (.if_icmp .ge 34, 3) := by decide +kernel
theorem dX6_editRead_71 : decode cX6_editRead 71 = .ok (.aload_n 0, 1) := by decide +kernel
theorem dX6_editRead_72 : decode cX6_editRead 72 = .ok (.invokevirtual 114, 3) := by decide +kernel
theorem dX6_editRead_75 : decode cX6_editRead 75 = .ok (.pop, 1) := by decide +kernel
theorem dX6_editRead_76 : decode cX6_editRead 76 = .ok (.aload_n 0, 1) := by decide +kernel
theorem dX6_editRead_77 : decode cX6_editRead 77 = .ok (.dup, 1) := by decide +kernel
theorem dX6_editRead_78 : decode cX6_editRead 78 = .ok (.getfield 105, 3) := by decide +kernel
theorem dX6_editRead_81 : decode cX6_editRead 81 = .ok (.iconst 1, 1) := by decide +kernel
theorem dX6_editRead_82 : decode cX6_editRead 82 = .ok (.iadd, 1) := by decide +kernel
theorem dX6_editRead_83 : decode cX6_editRead 83 = .ok (.putfield 105, 3) := by decide +kernel
theorem dX6_editRead_86 : decode cX6_editRead 86 = .ok (.aload_n 0, 1) := by decide +kernel
theorem dX6_editRead_87 : decode cX6_editRead 87 = .ok (.bipush 24, 2) := by decide +kernel
theorem dX6_editRead_89 : decode cX6_editRead 89 = .ok (.aload_n 0, 1) := by decide +kernel
theorem dX6_editRead_90 : decode cX6_editRead 90 = .ok (.getfield 111, 3) := by decide +kernel
theorem dX6_editRead_93 : decode cX6_editRead 93 = .ok (.invokevirtual 84, 3) := by decide +kernel
theorem dX6_editRead_96 : decode cX6_editRead 96 = .ok (.iinc 3 1, 3) := by decide +kernel
theorem dX6_editRead_99 : decode cX6_editRead 99 = .ok (.goto (-33), 3) := by decide +kernel
theorem dX6_editRead_102 : decode cX6_editRead 102 = .ok (.aload_n 0, 1) := by decide +kernel
theorem dX6_editRead_103 : decode cX6_editRead 103 = .ok (.getfield 7, 3) := by decide +kernel
theorem dX6_editRead_106 : decode cX6_editRead 106 = .ok (.sipush 10172, 3) := by decide +kernel
theorem dX6_editRead_109 : decode cX6_editRead 109 = .ok (.iaload, 1) := by decide +kernel
theorem dX6_editRead_110 : decode cX6_editRead 110 = .ok (.iload_n 2, 1) := by decide +kernel
theorem dX6_editRead_111 : decode cX6_editRead 111 = .ok (.isub, 1) := by decide +kernel
theorem dX6_editRead_112 : decode cX6_editRead 112 = .ok (.ireturn, 1) := by decide +kernel
theorem dX6_undo_0 : decode cX6_undo 0 = .ok (.aload_n 0, 1) := by decide +kernel
theorem dX6_undo_1 : decode cX6_undo 1 = .ok (.getfield 39, 3) := by decide +kernel
theorem dX6_undo_4 : decode cX6_undo 4 = .ok (.ifCond .ne 6, 3) := by decide +kernel
theorem dX6_undo_7 : decode cX6_undo 7 = .ok (.bipush (-5), 2) := by decide +kernel
theorem dX6_undo_9 : decode cX6_undo 9 = .ok (.ireturn, 1) := by decide +kernel
theorem dX6_undo_10 : decode cX6_undo 10 = .ok (.aload_n 0, 1) := by decide +kernel
theorem dX6_undo_11 : decode cX6_undo 11 = .ok (.dup, 1) := by decide +kernel
theorem dX6_undo_12 : decode cX6_undo 12 = .ok (.getfield 39, 3) := by decide +kernel
theorem dX6_undo_15 : decode cX6_undo 15 = .ok (.iconst 1, 1) := by decide +kernel
theorem dX6_undo_16 : decode cX6_undo 16 = .ok (.isub, 1) := by decide +kernel
theorem dX6_undo_17 : decode cX6_undo 17 = .ok (.putfield 39, 3) := by decide +kernel
theorem dX6_undo_20 : decode cX6_undo 20 = .ok (.iconst 0, 1) := by decide +kernel
theorem dX6_undo_21 : decode cX6_undo 21 = .ok (.istore_n 1, 1) := by decide +kernel
theorem dX6_undo_22 : decode cX6_undo 22 = .ok (.iload_n 1, 1) := by decide +kernel
theorem dX6_undo_23 : decode cX6_undo 23 = .ok (.sipush 10276, 3) := by decide +kernel
theorem dX6_undo_26 : decode cX6_undo 26 = .ok (.if_icmp .ge 30, 3) := by decide +kernel
theorem dX6_undo_29 : decode cX6_undo 29 = .ok (.aload_n 0, 1) := by decide +kernel
theorem dX6_undo_30 : decode cX6_undo 30 = .ok (.getfield 7, 3) := by decide +kernel
theorem dX6_undo_33 : decode cX6_undo 33 = .ok (.iload_n 1, 1) := by decide +kernel
theorem dX6_undo_34 : decode cX6_undo 34 = .ok (.aload_n 0, 1) := by decide +kernel
theorem dX6_undo_35 : decode cX6_undo 35 = .ok (.getfield 14, 3) := by decide +kernel
theorem dX6_undo_38 : decode cX6_undo 38 = .ok (.sipush 10276, 3) := by decide +kernel
theorem dX6_undo_41 : decode cX6_undo 41 = .ok (.aload_n 0, 1) := by decide +kernel
theorem dX6_undo_42 : decode cX6_undo 42 = .ok (.getfield 39, 3) := by decide +kernel
theorem dX6_undo_45 : decode cX6_undo 45 = .ok (.imul, 1) := by decide +kernel
theorem dX6_undo_46 : decode cX6_undo 46 = .ok (.iload_n 1, 1) := by decide +kernel
theorem dX6_undo_47 : decode cX6_undo 47 = .ok (.iadd, 1) := by decide +kernel
theorem dX6_undo_48 : decode cX6_undo 48 = .ok (.iaload, 1) := by decide +kernel
theorem dX6_undo_49 : decode cX6_undo 49 = .ok (.iastore, 1) := by decide +kernel
theorem dX6_undo_50 : decode cX6_undo 50 = .ok (.iinc 1 1, 3) := by decide +kernel
theorem dX6_undo_53 : decode cX6_undo 53 = .ok (.goto (-31), 3) := by decide +kernel
theorem dX6_undo_56 : decode cX6_undo 56 = .ok (.aload_n 0, 1) := by decide +kernel
theorem dX6_undo_57 : decode cX6_undo 57 = .ok (.getfield 39, 3) := by decide +kernel
theorem dX6_undo_60 : decode cX6_undo 60 = .ok (.ireturn, 1) := by decide +kernel
theorem dX6_keep_0 : decode cX6_keep 0 = .ok (.iconst 0, 1) := by decide +kernel
theorem dX6_keep_1 : decode cX6_keep 1 = .ok (.istore_n 1, 1) := by decide +kernel
theorem dX6_keep_2 : decode cX6_keep 2 = .ok (.iload_n 1, 1) := by decide +kernel
theorem dX6_keep_3 : decode cX6_keep 3 = .ok (.sipush 10276, 3) := by decide +kernel
theorem dX6_keep_6 : decode cX6_keep 6 = .ok (.if_icmp .ge 21, 3) := by decide +kernel
theorem dX6_keep_9 : decode cX6_keep 9 = .ok (.aload_n 0, 1) := by decide +kernel
theorem dX6_keep_10 : decode cX6_keep 10 = .ok (.getfield 17, 3) := by decide +kernel
theorem dX6_keep_13 : decode cX6_keep 13 = .ok (.iload_n 1, 1) := by decide +kernel
theorem dX6_keep_14 : decode cX6_keep 14 = .ok (.aload_n 0, 1) := by decide +kernel
theorem dX6_keep_15 : decode cX6_keep 15 = .ok (.getfield 7, 3) := by decide +kernel
theorem dX6_keep_18 : decode cX6_keep 18 = .ok (.iload_n 1, 1) := by decide +kernel
theorem dX6_keep_19 : decode cX6_keep 19 = .ok (.iaload, 1) := by decide +kernel
theorem dX6_keep_20 : decode cX6_keep 20 = .ok (.iastore, 1) := by decide +kernel
theorem dX6_keep_21 : decode cX6_keep 21 = .ok (.iinc 1 1, 3) := by decide +kernel
theorem dX6_keep_24 : decode cX6_keep 24 = .ok (.goto (-22), 3) := by decide +kernel
theorem dX6_keep_27 : decode cX6_keep 27 = .ok (.aload_n 0, 1) := by decide +kernel
theorem dX6_keep_28 : decode cX6_keep 28 = .ok (.iconst 1, 1) := by decide +kernel
theorem dX6_keep_29 : decode cX6_keep 29 = .ok (.putfield 120, 3) := by decide +kernel
theorem dX6_keep_32 : decode cX6_keep 32 = .ok (.aload_n 0, 1) := by decide +kernel
theorem dX6_keep_33 : decode cX6_keep 33 = .ok (.getfield 7, 3) := by decide +kernel
theorem dX6_keep_36 : decode cX6_keep 36 = .ok (.sipush 10172, 3) := by decide +kernel
theorem dX6_keep_39 : decode cX6_keep 39 = .ok (.iaload, 1) := by decide +kernel
theorem dX6_keep_40 : decode cX6_keep 40 = .ok (.ireturn, 1) := by decide +kernel
set_option maxRecDepth 20000 in
theorem ggX6_restore_X6_record : GoodIn wsX6_restore wsX6_record := goodIn_r _ [8, 9, 10, 2, 11, 12, 13, 14, 15, 16, 17, 18, 19] (by decide +kernel) (by decide +kernel)
set_option maxRecDepth 20000 in
theorem gX6_restore_X6_record : GoodIn wsX6_restore (wsV RX6 77 RX6 yX6_record wsX6_record) := goodIn_app (goodIn_of _ (by decide +kernel)) ggX6_restore_X6_record
theorem dX6_restore_0 : decode cX6_restore 0 = .ok (.aload_n 0, 1) := by decide +kernel
theorem dX6_restore_1 : decode cX6_restore 1 = .ok (.getfield 120, 3) := by decide +kernel
theorem dX6_restore_4 : decode cX6_restore 4 = .ok (.ifCond .ne 6, 3) := by decide +kernel
theorem dX6_restore_7 : decode cX6_restore 7 = .ok (.bipush (-5), 2) := by decide +kernel
theorem dX6_restore_9 : decode cX6_restore 9 = .ok (.ireturn, 1) := by decide +kernel
theorem dX6_restore_10 : decode cX6_restore 10 = .ok (.aload_n 0, 1) := by decide +kernel
theorem dX6_restore_11 : decode cX6_restore 11 = .ok (.invokevirtual 77, 3) := by decide +kernel
theorem dX6_restore_14 : decode cX6_restore 14 = .ok (.iconst 0, 1) := by decide +kernel
theorem dX6_restore_15 : decode cX6_restore 15 = .ok (.istore_n 1, 1) := by decide +kernel
theorem dX6_restore_16 : decode cX6_restore 16 = .ok (.iload_n 1, 1) := by decide +kernel
theorem dX6_restore_17 : decode cX6_restore 17 = .ok (.sipush 10276, 3) := by decide +kernel
theorem dX6_restore_20 : decode cX6_restore 20 = .ok (.if_icmp .ge 21, 3) := by decide +kernel
theorem dX6_restore_23 : decode cX6_restore 23 = .ok (.aload_n 0, 1) := by decide +kernel
theorem dX6_restore_24 : decode cX6_restore 24 = .ok (.getfield 7, 3) := by decide +kernel
theorem dX6_restore_27 : decode cX6_restore 27 = .ok (.iload_n 1, 1) := by decide +kernel
theorem dX6_restore_28 : decode cX6_restore 28 = .ok (.aload_n 0, 1) := by decide +kernel
theorem dX6_restore_29 : decode cX6_restore 29 = .ok (.getfield 17, 3) := by decide +kernel
theorem dX6_restore_32 : decode cX6_restore 32 = .ok (.iload_n 1, 1) := by decide +kernel
theorem dX6_restore_33 : decode cX6_restore 33 = .ok (.iaload, 1) := by decide +kernel
theorem dX6_restore_34 : decode cX6_restore 34 = .ok (.iastore, 1) := by decide +kernel
theorem dX6_restore_35 : decode cX6_restore 35 = .ok (.iinc 1 1, 3) := by decide +kernel
theorem dX6_restore_38 : decode cX6_restore 38 = .ok (.goto (-22), 3) := by decide +kernel
theorem dX6_restore_41 : decode cX6_restore 41 = .ok (.aload_n 0, 1) := by decide +kernel
theorem dX6_restore_42 : decode cX6_restore 42 = .ok (.getfield 7, 3) := by decide +kernel
theorem dX6_restore_45 : decode cX6_restore 45 = .ok (.sipush 10172, 3) := by decide +kernel
theorem dX6_restore_48 : decode cX6_restore 48 = .ok (.iaload, 1) := by decide +kernel
theorem dX6_restore_49 : decode cX6_restore 49 = .ok (.ireturn, 1) := by decide +kernel
set_option maxRecDepth 20000 in
theorem ggX6_get_X6_no : GoodIn wsX6_get wsX6_no := goodIn_r _ [5, 6, 7, 8, 4, 9, 30, 31, 32, 33, 34, 35, 36, 37, 38] (by decide +kernel) (by decide +kernel)
set_option maxRecDepth 20000 in
theorem gX6_get_X6_no : GoodIn wsX6_get (wsV RX6 67 RX6 yX6_no wsX6_no) := goodIn_app (goodIn_of _ (by decide +kernel)) ggX6_get_X6_no
set_option maxRecDepth 20000 in
theorem ggX6_get_X6_length : GoodIn wsX6_get wsX6_length := goodIn_r _ [13, 6, 14, 15, 16, 4, 17, 18, 19, 20, 21, 30, 31, 32, 33, 34, 35, 36, 37, 38] (by decide +kernel) (by decide +kernel)
set_option maxRecDepth 20000 in
theorem gX6_get_X6_length : GoodIn wsX6_get (wsV RX6 70 RX6 yX6_length wsX6_length) := goodIn_app (goodIn_of _ (by decide +kernel)) ggX6_get_X6_length
set_option maxRecDepth 20000 in
theorem ggX6_get_X6_in : GoodIn wsX6_get wsX6_in := goodIn_r _ [9] (by decide +kernel) (by decide +kernel)
set_option maxRecDepth 20000 in
theorem gX6_get_X6_in : GoodIn wsX6_get (va_wsS RX6 24 yX6_in wsX6_in) := goodIn_app (goodIn_of _ (by decide +kernel)) ggX6_get_X6_in
set_option maxRecDepth 20000 in
theorem ggX6_get_X6_value : GoodIn wsX6_get wsX6_value := goodIn_r _ [25, 6, 26, 27, 28, 4, 29, 30, 31, 32, 33, 34, 35, 36, 37, 38] (by decide +kernel) (by decide +kernel)
set_option maxRecDepth 20000 in
theorem gX6_get_X6_value : GoodIn wsX6_get (wsV RX6 124 RX6 yX6_value wsX6_value) := goodIn_app (goodIn_of _ (by decide +kernel)) ggX6_get_X6_value
theorem dX6_get_0 : decode cX6_get 0 = .ok (.aload_n 0, 1) := by decide +kernel
theorem dX6_get_1 : decode cX6_get 1 = .ok (.iload_n 1, 1) := by decide +kernel
theorem dX6_get_2 : decode cX6_get 2 = .ok (.invokevirtual 67, 3) := by decide +kernel
theorem dX6_get_5 : decode cX6_get 5 = .ok (.ifCond .ne 18, 3) := by decide +kernel
theorem dX6_get_8 : decode cX6_get 8 = .ok (.iload_n 2, 1) := by decide +kernel
theorem dX6_get_9 : decode cX6_get 9 = .ok (.iconst 0, 1) := by decide +kernel
theorem dX6_get_10 : decode cX6_get 10 = .ok (.aload_n 0, 1) := by decide +kernel
theorem dX6_get_11 : decode cX6_get 11 = .ok (.iload_n 1, 1) := by decide +kernel
theorem dX6_get_12 : decode cX6_get 12 = .ok (.invokevirtual 70, 3) := by decide +kernel
theorem dX6_get_15 : decode cX6_get 15 = .ok (.iconst 1, 1) := by decide +kernel
theorem dX6_get_16 : decode cX6_get 16 = .ok (.isub, 1) := by decide +kernel
theorem dX6_get_17 : decode cX6_get 17 = .ok (.invokestatic 24, 3) := by decide +kernel
theorem dX6_get_20 : decode cX6_get 20 = .ok (.ifCond .ne 7, 3) := by decide +kernel
theorem dX6_get_23 : decode cX6_get 23 = .ok (.iconst (-1), 1) := by decide +kernel
theorem dX6_get_24 : decode cX6_get 24 = .ok (.goto 9, 3) := by decide +kernel
theorem dX6_get_27 : decode cX6_get 27 = .ok (.aload_n 0, 1) := by decide +kernel
theorem dX6_get_28 : decode cX6_get 28 = .ok (.iload_n 1, 1) := by decide +kernel
theorem dX6_get_29 : decode cX6_get 29 = .ok (.iload_n 2, 1) := by decide +kernel
theorem dX6_get_30 : decode cX6_get 30 = .ok (.invokevirtual 124, 3) := by decide +kernel
theorem dX6_get_33 : decode cX6_get 33 = .ok (.ireturn, 1) := by decide +kernel
set_option maxRecDepth 20000 in
theorem ggX6_sum_X6_length : GoodIn wsX6_sum wsX6_length := goodIn_r _ [5, 6, 7, 8, 9, 4, 10, 11, 12, 13, 14, 23, 24, 25, 26, 27, 28, 29, 30, 31] (by decide +kernel) (by decide +kernel)
set_option maxRecDepth 20000 in
theorem gX6_sum_X6_length : GoodIn wsX6_sum (wsV RX6 70 RX6 yX6_length wsX6_length) := goodIn_app (goodIn_of _ (by decide +kernel)) ggX6_sum_X6_length
set_option maxRecDepth 20000 in
theorem ggX6_sum_X6_value : GoodIn wsX6_sum wsX6_value := goodIn_r _ [18, 6, 19, 20, 21, 4, 22, 23, 24, 25, 26, 27, 28, 29, 30, 31] (by decide +kernel) (by decide +kernel)
set_option maxRecDepth 20000 in
theorem gX6_sum_X6_value : GoodIn wsX6_sum (wsV RX6 124 RX6 yX6_value wsX6_value) := goodIn_app (goodIn_of _ (by decide +kernel)) ggX6_sum_X6_value
theorem dX6_sum_0 : decode cX6_sum 0 = .ok (.iconst 0, 1) := by decide +kernel
theorem dX6_sum_1 : decode cX6_sum 1 = .ok (.istore_n 2, 1) := by decide +kernel
theorem dX6_sum_2 : decode cX6_sum 2 = .ok (.iconst 0, 1) := by decide +kernel
theorem dX6_sum_3 : decode cX6_sum 3 = .ok (.istore_n 3, 1) := by decide +kernel
theorem dX6_sum_4 : decode cX6_sum 4 = .ok (.iload_n 3, 1) := by decide +kernel
theorem dX6_sum_5 : decode cX6_sum 5 = .ok (.aload_n 0, 1) := by decide +kernel
theorem dX6_sum_6 : decode cX6_sum 6 = .ok (.iload_n 1, 1) := by decide +kernel
theorem dX6_sum_7 : decode cX6_sum 7 = .ok (.invokevirtual 70, 3) := by decide +kernel
theorem dX6_sum_10 : decode cX6_sum 10 = .ok (.if_icmp .ge 18, 3) := by decide +kernel
theorem dX6_sum_13 : decode cX6_sum 13 = .ok (.iload_n 2, 1) := by decide +kernel
theorem dX6_sum_14 : decode cX6_sum 14 = .ok (.aload_n 0, 1) := by decide +kernel
theorem dX6_sum_15 : decode cX6_sum 15 = .ok (.iload_n 1, 1) := by decide +kernel
theorem dX6_sum_16 : decode cX6_sum 16 = .ok (.iload_n 3, 1) := by decide +kernel
theorem dX6_sum_17 : decode cX6_sum 17 = .ok (.invokevirtual 124, 3) := by decide +kernel
theorem dX6_sum_20 : decode cX6_sum 20 = .ok (.iadd, 1) := by decide +kernel
theorem dX6_sum_21 : decode cX6_sum 21 = .ok (.istore_n 2, 1) := by decide +kernel
theorem dX6_sum_22 : decode cX6_sum 22 = .ok (.iinc 3 1, 3) := by decide +kernel
theorem dX6_sum_25 : decode cX6_sum 25 = .ok (.goto (-21), 3) := by decide +kernel
theorem dX6_sum_28 : decode cX6_sum 28 = .ok (.iload_n 2, 1) := by decide +kernel
theorem dX6_sum_29 : decode cX6_sum 29 = .ok (.ireturn, 1) := by decide +kernel
set_option maxRecDepth 20000 in
theorem ggX6_greatest_X6_length : GoodIn wsX6_greatest wsX6_length := goodIn_r _ [5, 6, 7, 8, 9, 4, 10, 11, 12, 13, 14, 23, 24, 25, 26, 27, 28, 29, 30, 31] (by decide +kernel) (by decide +kernel)
set_option maxRecDepth 20000 in
theorem gX6_greatest_X6_length : GoodIn wsX6_greatest (wsV RX6 70 RX6 yX6_length wsX6_length) := goodIn_app (goodIn_of _ (by decide +kernel)) ggX6_greatest_X6_length
set_option maxRecDepth 20000 in
theorem ggX6_greatest_X6_value : GoodIn wsX6_greatest wsX6_value := goodIn_r _ [18, 6, 19, 20, 21, 4, 22, 23, 24, 25, 26, 27, 28, 29, 30, 31] (by decide +kernel) (by decide +kernel)
set_option maxRecDepth 20000 in
theorem gX6_greatest_X6_value : GoodIn wsX6_greatest (wsV RX6 124 RX6 yX6_value wsX6_value) := goodIn_app (goodIn_of _ (by decide +kernel)) ggX6_greatest_X6_value
theorem dX6_greatest_0 : decode cX6_greatest 0 = .ok (.bipush (-5), 2) := by decide +kernel
theorem dX6_greatest_2 : decode cX6_greatest 2 = .ok (.istore_n 2, 1) := by decide +kernel
theorem dX6_greatest_3 : decode cX6_greatest 3 = .ok (.iconst 0, 1) := by decide +kernel
theorem dX6_greatest_4 : decode cX6_greatest 4 = .ok (.istore_n 3, 1) := by decide +kernel
theorem dX6_greatest_5 : decode cX6_greatest 5 = .ok (.iload_n 3, 1) := by decide +kernel
theorem dX6_greatest_6 : decode cX6_greatest 6 = .ok (.aload_n 0, 1) := by decide +kernel
theorem dX6_greatest_7 : decode cX6_greatest 7 = .ok (.iload_n 1, 1) := by decide +kernel
theorem dX6_greatest_8 : decode cX6_greatest 8 = .ok (.invokevirtual 70, 3) := by decide +kernel
theorem dX6_greatest_11 : decode cX6_greatest 11 = .ok (.if_icmp .ge 30, 3) := by decide +kernel
theorem dX6_greatest_14 : decode cX6_greatest 14 = .ok (.aload_n 0, 1) := by decide +kernel
theorem dX6_greatest_15 : decode cX6_greatest 15 = .ok (.iload_n 1, 1) := by decide +kernel
theorem dX6_greatest_16 : decode cX6_greatest 16 = .ok (.iload_n 3, 1) := by decide +kernel
theorem dX6_greatest_17 : decode cX6_greatest 17 = .ok (.invokevirtual 124, 3) := by decide +kernel
theorem dX6_greatest_20 : decode cX6_greatest 20 = .ok (.iload_n 2, 1) := by decide +kernel
theorem dX6_greatest_21 : decode cX6_greatest 21 = .ok (.if_icmp .le 12, 3) := by decide +kernel
theorem dX6_greatest_24 : decode cX6_greatest 24 = .ok (.aload_n 0, 1) := by decide +kernel
theorem dX6_greatest_25 : decode cX6_greatest 25 = .ok (.iload_n 1, 1) := by decide +kernel
theorem dX6_greatest_26 : decode cX6_greatest 26 = .ok (.iload_n 3, 1) := by decide +kernel
theorem dX6_greatest_27 : decode cX6_greatest 27 = .ok (.invokevirtual 124, 3) := by decide +kernel
theorem dX6_greatest_30 : decode cX6_greatest 30 = .ok (.goto 4, 3) := by decide +kernel
theorem dX6_greatest_33 : decode cX6_greatest 33 = .ok (.iload_n 2, 1) := by decide +kernel
theorem dX6_greatest_34 : decode cX6_greatest 34 = .ok (.istore_n 2, 1) := by decide +kernel
theorem dX6_greatest_35 : decode cX6_greatest 35 = .ok (.iinc 3 1, 3) := by decide +kernel
theorem dX6_greatest_38 : decode cX6_greatest 38 = .ok (.goto (-33), 3) := by decide +kernel
theorem dX6_greatest_41 : decode cX6_greatest 41 = .ok (.iload_n 2, 1) := by decide +kernel
theorem dX6_greatest_42 : decode cX6_greatest 42 = .ok (.ireturn, 1) := by decide +kernel
set_option maxRecDepth 20000 in
theorem ggX6_vector_X6_no : GoodIn wsX6_vector wsX6_no := goodIn_r _ [5, 6, 7, 8, 4, 9, 53, 54, 55, 56, 57, 58, 59, 60, 61] (by decide +kernel) (by decide +kernel)
set_option maxRecDepth 20000 in
theorem gX6_vector_X6_no : GoodIn wsX6_vector (wsV RX6 67 RX6 yX6_no wsX6_no) := goodIn_app (goodIn_of _ (by decide +kernel)) ggX6_vector_X6_no
set_option maxRecDepth 20000 in
theorem ggX6_vector_X6_rowLength : GoodIn wsX6_vector wsX6_rowLength := goodIn_r _ [13, 6, 53, 54, 55, 56, 57, 58, 59, 60, 61] (by decide +kernel) (by decide +kernel)
set_option maxRecDepth 20000 in
theorem gX6_vector_X6_rowLength : GoodIn wsX6_vector (wsV RX6 32 RX6 yX6_rowLength wsX6_rowLength) := goodIn_app (goodIn_of _ (by decide +kernel)) ggX6_vector_X6_rowLength
set_option maxRecDepth 20000 in
theorem ggX6_vector_X6_leaves : GoodIn wsX6_vector wsX6_leaves := goodIn_r _ [16] (by decide +kernel) (by decide +kernel)
set_option maxRecDepth 20000 in
theorem gX6_vector_X6_leaves : GoodIn wsX6_vector (va_wsS RX6 56 yX6_leaves wsX6_leaves) := goodIn_app (goodIn_of _ (by decide +kernel)) ggX6_vector_X6_leaves
set_option maxRecDepth 20000 in
theorem ggX6_vector_X6_length : GoodIn wsX6_vector wsX6_length := goodIn_r _ [20, 6, 21, 22, 23, 4, 24, 10, 11, 12, 13, 53, 54, 55, 56, 57, 58, 59, 60, 61] (by decide +kernel) (by decide +kernel)
set_option maxRecDepth 20000 in
theorem gX6_vector_X6_length : GoodIn wsX6_vector (wsV RX6 70 RX6 yX6_length wsX6_length) := goodIn_app (goodIn_of _ (by decide +kernel)) ggX6_vector_X6_length
set_option maxRecDepth 20000 in
theorem ggX6_vector_X6_isWindow : GoodIn wsX6_vector wsX6_isWindow := goodIn_r _ [24, 6, 53, 54, 55, 56, 57, 58, 59, 60, 61] (by decide +kernel) (by decide +kernel)
set_option maxRecDepth 20000 in
theorem gX6_vector_X6_isWindow : GoodIn wsX6_vector (wsV RX6 28 RX6 yX6_isWindow wsX6_isWindow) := goodIn_app (goodIn_of _ (by decide +kernel)) ggX6_vector_X6_isWindow
set_option maxRecDepth 20000 in
theorem ggX6_vector_X6_first : GoodIn wsX6_vector wsX6_first := goodIn_r _ [28, 6, 53, 54, 55, 56, 57, 58, 59, 60, 61] (by decide +kernel) (by decide +kernel)
set_option maxRecDepth 20000 in
theorem gX6_vector_X6_first : GoodIn wsX6_vector (wsV RX6 36 RX6 yX6_first wsX6_first) := goodIn_app (goodIn_of _ (by decide +kernel)) ggX6_vector_X6_first
set_option maxRecDepth 20000 in
theorem ggX6_vector_X6_allBlocks : GoodIn wsX6_vector wsX6_allBlocks := goodIn_r _ [31, 32, 33, 4, 34, 35, 36, 37, 38, 39, 40] (by decide +kernel) (by decide +kernel)
set_option maxRecDepth 20000 in
theorem gX6_vector_X6_allBlocks : GoodIn wsX6_vector (va_wsS RX6 127 yX6_allBlocks wsX6_allBlocks) := goodIn_app (goodIn_of _ (by decide +kernel)) ggX6_vector_X6_allBlocks
set_option maxRecDepth 20000 in
theorem ggX6_vector_X6_rootLevel : GoodIn wsX6_vector wsX6_rootLevel := goodIn_r _ [37, 38, 39, 4, 40] (by decide +kernel) (by decide +kernel)
set_option maxRecDepth 20000 in
theorem gX6_vector_X6_rootLevel : GoodIn wsX6_vector (va_wsS RX6 43 yX6_rootLevel wsX6_rootLevel) := goodIn_app (goodIn_of _ (by decide +kernel)) ggX6_vector_X6_rootLevel
set_option maxRecDepth 20000 in
theorem ggX6_vector_X6_sum : GoodIn wsX6_vector wsX6_sum := goodIn_r _ [44, 17, 18, 19, 4, 20, 6, 21, 22, 23, 24, 10, 11, 12, 13, 45, 46, 47, 48, 25, 26, 27, 28, 53, 54, 55, 56, 57, 58, 59, 60, 61] (by decide +kernel) (by decide +kernel)
set_option maxRecDepth 20000 in
theorem gX6_vector_X6_sum : GoodIn wsX6_vector (wsV RX6 130 RX6 yX6_sum wsX6_sum) := goodIn_app (goodIn_of _ (by decide +kernel)) ggX6_vector_X6_sum
set_option maxRecDepth 20000 in
theorem ggX6_vector_X6_greatest : GoodIn wsX6_vector wsX6_greatest := goodIn_r _ [52, 17, 18, 19, 4, 20, 6, 21, 22, 23, 24, 10, 11, 12, 13, 45, 46, 47, 48, 25, 26, 27, 28, 53, 54, 55, 56, 57, 58, 59, 60, 61] (by decide +kernel) (by decide +kernel)
set_option maxRecDepth 20000 in
theorem gX6_vector_X6_greatest : GoodIn wsX6_vector (wsV RX6 133 RX6 yX6_greatest wsX6_greatest) := goodIn_app (goodIn_of _ (by decide +kernel)) ggX6_vector_X6_greatest
theorem dX6_vector_0 : decode cX6_vector 0 = .ok (.aload_n 0, 1) := by decide +kernel
theorem dX6_vector_1 : decode cX6_vector 1 = .ok (.iload_n 1, 1) := by decide +kernel
theorem dX6_vector_2 : decode cX6_vector 2 = .ok (.invokevirtual 67, 3) := by decide +kernel
theorem dX6_vector_5 : decode cX6_vector 5 = .ok (.ifCond .eq 5, 3) := by decide +kernel
theorem dX6_vector_8 : decode cX6_vector 8 = .ok (.iconst (-1), 1) := by decide +kernel
theorem dX6_vector_9 : decode cX6_vector 9 = .ok (.ireturn, 1) := by decide +kernel
theorem dX6_vector_10 : decode cX6_vector 10 = .ok (.aload_n 0, 1) := by decide +kernel
theorem dX6_vector_11 : decode cX6_vector 11 = .ok (.iload_n 1, 1) := by decide +kernel
theorem dX6_vector_12 : decode cX6_vector 12 = .ok (.invokevirtual 32, 3) := by decide +kernel
theorem dX6_vector_15 : decode cX6_vector 15 = .ok (.invokestatic 56, 3) := by decide +kernel
theorem dX6_vector_18 : decode cX6_vector 18 = .ok (.istore_n 3, 1) := by decide +kernel
theorem dX6_vector_19 : decode cX6_vector 19 = .ok (.iload_n 2, 1) := by decide +kernel
theorem dX6_vector_20 : decode cX6_vector 20 = .ok (.tableswitch 131 0 9 #[56, 62, 76, 82, 88, 90, 95, 109, 119, 125], 56) := by decide +kernel
theorem dX6_vector_76 : decode cX6_vector 76 = .ok (.aload_n 0, 1) := by decide +kernel
theorem dX6_vector_77 : decode cX6_vector 77 = .ok (.iload_n 1, 1) := by decide +kernel
theorem dX6_vector_78 : decode cX6_vector 78 = .ok (.invokevirtual 70, 3) := by decide +kernel
theorem dX6_vector_81 : decode cX6_vector 81 = .ok (.ireturn, 1) := by decide +kernel
theorem dX6_vector_82 : decode cX6_vector 82 = .ok (.aload_n 0, 1) := by decide +kernel
theorem dX6_vector_83 : decode cX6_vector 83 = .ok (.iload_n 1, 1) := by decide +kernel
theorem dX6_vector_84 : decode cX6_vector 84 = .ok (.invokevirtual 28, 3) := by decide +kernel
theorem dX6_vector_87 : decode cX6_vector 87 = .ok (.ifCond .eq 7, 3) := by decide +kernel
theorem dX6_vector_90 : decode cX6_vector 90 = .ok (.iconst 1, 1) := by decide +kernel
theorem dX6_vector_91 : decode cX6_vector 91 = .ok (.goto 4, 3) := by decide +kernel
theorem dX6_vector_94 : decode cX6_vector 94 = .ok (.iconst 0, 1) := by decide +kernel
theorem dX6_vector_95 : decode cX6_vector 95 = .ok (.ireturn, 1) := by decide +kernel
theorem dX6_vector_96 : decode cX6_vector 96 = .ok (.aload_n 0, 1) := by decide +kernel
theorem dX6_vector_97 : decode cX6_vector 97 = .ok (.iload_n 1, 1) := by decide +kernel
theorem dX6_vector_98 : decode cX6_vector 98 = .ok (.invokevirtual 36, 3) := by decide +kernel
theorem dX6_vector_101 : decode cX6_vector 101 = .ok (.ireturn, 1) := by decide +kernel
theorem dX6_vector_102 : decode cX6_vector 102 = .ok (.aload_n 0, 1) := by decide +kernel
theorem dX6_vector_103 : decode cX6_vector 103 = .ok (.iload_n 1, 1) := by decide +kernel
theorem dX6_vector_104 : decode cX6_vector 104 = .ok (.invokevirtual 32, 3) := by decide +kernel
theorem dX6_vector_107 : decode cX6_vector 107 = .ok (.ireturn, 1) := by decide +kernel
theorem dX6_vector_108 : decode cX6_vector 108 = .ok (.iload_n 3, 1) := by decide +kernel
theorem dX6_vector_109 : decode cX6_vector 109 = .ok (.ireturn, 1) := by decide +kernel
theorem dX6_vector_110 : decode cX6_vector 110 = .ok (.iload_n 3, 1) := by decide +kernel
theorem dX6_vector_111 : decode cX6_vector 111 = .ok (.invokestatic 127, 3) := by decide +kernel
theorem dX6_vector_114 : decode cX6_vector 114 = .ok (.ireturn, 1) := by decide +kernel
theorem dX6_vector_115 : decode cX6_vector 115 = .ok (.iload_n 3, 1) := by decide +kernel
theorem dX6_vector_116 : decode cX6_vector 116 = .ok (.ifCond .ne 8, 3) := by decide +kernel
theorem dX6_vector_119 : decode cX6_vector 119 = .ok (.bipush (-5), 2) := by decide +kernel
theorem dX6_vector_121 : decode cX6_vector 121 = .ok (.goto 7, 3) := by decide +kernel
theorem dX6_vector_124 : decode cX6_vector 124 = .ok (.iload_n 3, 1) := by decide +kernel
theorem dX6_vector_125 : decode cX6_vector 125 = .ok (.invokestatic 43, 3) := by decide +kernel
theorem dX6_vector_128 : decode cX6_vector 128 = .ok (.ireturn, 1) := by decide +kernel
theorem dX6_vector_129 : decode cX6_vector 129 = .ok (.aload_n 0, 1) := by decide +kernel
theorem dX6_vector_130 : decode cX6_vector 130 = .ok (.iload_n 1, 1) := by decide +kernel
theorem dX6_vector_131 : decode cX6_vector 131 = .ok (.invokevirtual 32, 3) := by decide +kernel
theorem dX6_vector_134 : decode cX6_vector 134 = .ok (.iconst 4, 1) := by decide +kernel
theorem dX6_vector_135 : decode cX6_vector 135 = .ok (.iload_n 3, 1) := by decide +kernel
theorem dX6_vector_136 : decode cX6_vector 136 = .ok (.imul, 1) := by decide +kernel
theorem dX6_vector_137 : decode cX6_vector 137 = .ok (.isub, 1) := by decide +kernel
theorem dX6_vector_138 : decode cX6_vector 138 = .ok (.ireturn, 1) := by decide +kernel
theorem dX6_vector_139 : decode cX6_vector 139 = .ok (.aload_n 0, 1) := by decide +kernel
theorem dX6_vector_140 : decode cX6_vector 140 = .ok (.iload_n 1, 1) := by decide +kernel
theorem dX6_vector_141 : decode cX6_vector 141 = .ok (.invokevirtual 130, 3) := by decide +kernel
theorem dX6_vector_144 : decode cX6_vector 144 = .ok (.ireturn, 1) := by decide +kernel
theorem dX6_vector_145 : decode cX6_vector 145 = .ok (.aload_n 0, 1) := by decide +kernel
theorem dX6_vector_146 : decode cX6_vector 146 = .ok (.iload_n 1, 1) := by decide +kernel
theorem dX6_vector_147 : decode cX6_vector 147 = .ok (.invokevirtual 133, 3) := by decide +kernel
theorem dX6_vector_150 : decode cX6_vector 150 = .ok (.ireturn, 1) := by decide +kernel
theorem dX6_vector_151 : decode cX6_vector 151 = .ok (.bipush (-2), 2) := by decide +kernel
theorem dX6_vector_153 : decode cX6_vector 153 = .ok (.ireturn, 1) := by decide +kernel
set_option maxRecDepth 20000 in
theorem ggX6_block_X6_no : GoodIn wsX6_block wsX6_no := goodIn_r _ [5, 6, 7, 8, 4, 9, 33, 34, 35, 36, 37, 38, 39, 40, 41] (by decide +kernel) (by decide +kernel)
set_option maxRecDepth 20000 in
theorem gX6_block_X6_no : GoodIn wsX6_block (wsV RX6 67 RX6 yX6_no wsX6_no) := goodIn_app (goodIn_of _ (by decide +kernel)) ggX6_block_X6_no
set_option maxRecDepth 20000 in
theorem ggX6_block_X6_rowLength : GoodIn wsX6_block wsX6_rowLength := goodIn_r _ [13, 6, 33, 34, 35, 36, 37, 38, 39, 40, 41] (by decide +kernel) (by decide +kernel)
set_option maxRecDepth 20000 in
theorem gX6_block_X6_rowLength : GoodIn wsX6_block (wsV RX6 32 RX6 yX6_rowLength wsX6_rowLength) := goodIn_app (goodIn_of _ (by decide +kernel)) ggX6_block_X6_rowLength
set_option maxRecDepth 20000 in
theorem ggX6_block_X6_leaves : GoodIn wsX6_block wsX6_leaves := goodIn_r _ [16] (by decide +kernel) (by decide +kernel)
set_option maxRecDepth 20000 in
theorem gX6_block_X6_leaves : GoodIn wsX6_block (va_wsS RX6 56 yX6_leaves wsX6_leaves) := goodIn_app (goodIn_of _ (by decide +kernel)) ggX6_block_X6_leaves
set_option maxRecDepth 20000 in
theorem ggX6_block_X6_blocks : GoodIn wsX6_block wsX6_blocks := goodIn_r _ [19, 20, 21, 4, 22, 23, 24, 25] (by decide +kernel) (by decide +kernel)
set_option maxRecDepth 20000 in
theorem gX6_block_X6_blocks : GoodIn wsX6_block (va_wsS RX6 49 yX6_blocks wsX6_blocks) := goodIn_app (goodIn_of _ (by decide +kernel)) ggX6_block_X6_blocks
set_option maxRecDepth 20000 in
theorem ggX6_block_X6_id : GoodIn wsX6_block wsX6_id := goodIn_r _ [29, 6, 30, 31, 4, 32, 33, 34, 35, 36, 37, 38, 39, 40, 41] (by decide +kernel) (by decide +kernel)
set_option maxRecDepth 20000 in
theorem gX6_block_X6_id : GoodIn wsX6_block (wsV RX6 136 RX6 yX6_id wsX6_id) := goodIn_app (goodIn_of _ (by decide +kernel)) ggX6_block_X6_id
theorem dX6_block_0 : decode cX6_block 0 = .ok (.aload_n 0, 1) := by decide +kernel
theorem dX6_block_1 : decode cX6_block 1 = .ok (.iload_n 1, 1) := by decide +kernel
theorem dX6_block_2 : decode cX6_block 2 = .ok (.invokevirtual 67, 3) := by decide +kernel
theorem dX6_block_5 : decode cX6_block 5 = .ok (.ifCond .eq 5, 3) := by decide +kernel
theorem dX6_block_8 : decode cX6_block 8 = .ok (.iconst (-1), 1) := by decide +kernel
theorem dX6_block_9 : decode cX6_block 9 = .ok (.ireturn, 1) := by decide +kernel
theorem dX6_block_10 : decode cX6_block 10 = .ok (.iload_n 2, 1) := by decide +kernel
theorem dX6_block_11 : decode cX6_block 11 = .ok (.ifCond .lt 7, 3) := by decide +kernel
theorem dX6_block_14 : decode cX6_block 14 = .ok (.iload_n 3, 1) := by decide +kernel
theorem dX6_block_15 : decode cX6_block 15 = .ok (.ifCond .ge 6, 3) := by decide +kernel
theorem dX6_block_18 : decode cX6_block 18 = .ok (.bipush (-2), 2) := by decide +kernel
theorem dX6_block_20 : decode cX6_block 20 = .ok (.ireturn, 1) := by decide +kernel
theorem dX6_block_21 : decode cX6_block 21 = .ok (.aload_n 0, 1) := by decide +kernel
theorem dX6_block_22 : decode cX6_block 22 = .ok (.iload_n 1, 1) := by decide +kernel
theorem dX6_block_23 : decode cX6_block 23 = .ok (.invokevirtual 32, 3) := by decide +kernel
theorem dX6_block_26 : decode cX6_block 26 = .ok (.invokestatic 56, 3) := by decide +kernel
theorem dX6_block_29 : decode cX6_block 29 = .ok (.istore 4, 2) := by decide +kernel
theorem dX6_block_31 : decode cX6_block 31 = .ok (.iload_n 2, 1) := by decide +kernel
theorem dX6_block_32 : decode cX6_block 32 = .ok (.iconst 5, 1) := by decide +kernel
theorem dX6_block_33 : decode cX6_block 33 = .ok (.if_icmp .ge 23, 3) := by decide +kernel
theorem dX6_block_36 : decode cX6_block 36 = .ok (.iload_n 3, 1) := by decide +kernel
theorem dX6_block_37 : decode cX6_block 37 = .ok (.iload 4, 2) := by decide +kernel
theorem dX6_block_39 : decode cX6_block 39 = .ok (.iload_n 2, 1) := by decide +kernel
theorem dX6_block_40 : decode cX6_block 40 = .ok (.invokestatic 49, 3) := by decide +kernel
theorem dX6_block_43 : decode cX6_block 43 = .ok (.if_icmp .ge 13, 3) := by decide +kernel
theorem dX6_block_46 : decode cX6_block 46 = .ok (.aload_n 0, 1) := by decide +kernel
theorem dX6_block_47 : decode cX6_block 47 = .ok (.iload_n 1, 1) := by decide +kernel
theorem dX6_block_48 : decode cX6_block 48 = .ok (.iload_n 2, 1) := by decide +kernel
theorem dX6_block_49 : decode cX6_block 49 = .ok (.iload_n 3, 1) := by decide +kernel
theorem dX6_block_50 : decode cX6_block 50 = .ok (.invokevirtual 136, 3) := by decide +kernel
theorem dX6_block_53 : decode cX6_block 53 = .ok (.goto 5, 3) := by decide +kernel
theorem dX6_block_56 : decode cX6_block 56 = .ok (.bipush (-5), 2) := by decide +kernel
theorem dX6_block_58 : decode cX6_block 58 = .ok (.ireturn, 1) := by decide +kernel
set_option maxRecDepth 20000 in
theorem ggX6_has_X6_rowLength : GoodIn wsX6_has wsX6_rowLength := goodIn_r _ [5, 6, 26, 27, 28, 29, 30, 31, 32, 33, 34] (by decide +kernel) (by decide +kernel)
set_option maxRecDepth 20000 in
theorem gX6_has_X6_rowLength : GoodIn wsX6_has (wsV RX6 32 RX6 yX6_rowLength wsX6_rowLength) := goodIn_app (goodIn_of _ (by decide +kernel)) ggX6_has_X6_rowLength
set_option maxRecDepth 20000 in
theorem ggX6_has_X6_leaves : GoodIn wsX6_has wsX6_leaves := goodIn_r _ [9] (by decide +kernel) (by decide +kernel)
set_option maxRecDepth 20000 in
theorem gX6_has_X6_leaves : GoodIn wsX6_has (va_wsS RX6 56 yX6_leaves wsX6_leaves) := goodIn_app (goodIn_of _ (by decide +kernel)) ggX6_has_X6_leaves
set_option maxRecDepth 20000 in
theorem ggX6_has_X6_blocks : GoodIn wsX6_has wsX6_blocks := goodIn_r _ [12, 13, 14, 4, 15, 16, 17, 18] (by decide +kernel) (by decide +kernel)
set_option maxRecDepth 20000 in
theorem gX6_has_X6_blocks : GoodIn wsX6_has (va_wsS RX6 49 yX6_blocks wsX6_blocks) := goodIn_app (goodIn_of _ (by decide +kernel)) ggX6_has_X6_blocks
set_option maxRecDepth 20000 in
theorem ggX6_has_X6_id : GoodIn wsX6_has wsX6_id := goodIn_r _ [22, 6, 23, 24, 4, 25, 26, 27, 28, 29, 30, 31, 32, 33, 34] (by decide +kernel) (by decide +kernel)
set_option maxRecDepth 20000 in
theorem gX6_has_X6_id : GoodIn wsX6_has (wsV RX6 136 RX6 yX6_id wsX6_id) := goodIn_app (goodIn_of _ (by decide +kernel)) ggX6_has_X6_id
theorem dX6_has_0 : decode cX6_has 0 = .ok (.aload_n 0, 1) := by decide +kernel
theorem dX6_has_1 : decode cX6_has 1 = .ok (.iload_n 1, 1) := by decide +kernel
theorem dX6_has_2 : decode cX6_has 2 = .ok (.invokevirtual 32, 3) := by decide +kernel
theorem dX6_has_5 : decode cX6_has 5 = .ok (.invokestatic 56, 3) := by decide +kernel
theorem dX6_has_8 : decode cX6_has 8 = .ok (.istore_n 3, 1) := by decide +kernel
theorem dX6_has_9 : decode cX6_has 9 = .ok (.iconst 0, 1) := by decide +kernel
theorem dX6_has_10 : decode cX6_has 10 = .ok (.istore 4, 2) := by decide +kernel
theorem dX6_has_12 : decode cX6_has 12 = .ok (.iload 4, 2) := by decide +kernel
theorem dX6_has_14 : decode cX6_has 14 = .ok (.iconst 5, 1) := by decide +kernel
theorem dX6_has_15 : decode cX6_has 15 = .ok (.if_icmp .ge 44, 3) := by decide +kernel
theorem dX6_has_18 : decode cX6_has 18 = .ok (.iconst 0, 1) := by decide +kernel
theorem dX6_has_19 : decode cX6_has 19 = .ok (.istore 5, 2) := by decide +kernel
theorem dX6_has_21 : decode cX6_has 21 = .ok (.iload 5, 2) := by decide +kernel
theorem dX6_has_23 : decode cX6_has 23 = .ok (.iload_n 3, 1) := by decide +kernel
theorem dX6_has_24 : decode cX6_has 24 = .ok (.iload 4, 2) := by decide +kernel
theorem dX6_has_26 : decode cX6_has 26 = .ok (.invokestatic 49, 3) := by decide +kernel
theorem dX6_has_29 : decode cX6_has 29 = .ok (.if_icmp .ge 24, 3) := by decide +kernel
theorem dX6_has_32 : decode cX6_has 32 = .ok (.aload_n 0, 1) := by decide +kernel
theorem dX6_has_33 : decode cX6_has 33 = .ok (.iload_n 1, 1) := by decide +kernel
theorem dX6_has_34 : decode cX6_has 34 = .ok (.iload 4, 2) := by decide +kernel
theorem dX6_has_36 : decode cX6_has 36 = .ok (.iload 5, 2) := by decide +kernel
theorem dX6_has_38 : decode cX6_has 38 = .ok (.invokevirtual 136, 3) := by decide +kernel
theorem dX6_has_41 : decode cX6_has 41 = .ok (.iload_n 2, 1) := by decide +kernel
theorem dX6_has_42 : decode cX6_has 42 = .ok (.if_icmp .ne 5, 3) := by decide +kernel
theorem dX6_has_45 : decode cX6_has 45 = .ok (.iconst 1, 1) := by decide +kernel
theorem dX6_has_46 : decode cX6_has 46 = .ok (.ireturn, 1) := by decide +kernel
theorem dX6_has_47 : decode cX6_has 47 = .ok (.iinc 5 1, 3) := by decide +kernel
theorem dX6_has_50 : decode cX6_has 50 = .ok (.goto (-29), 3) := by decide +kernel
theorem dX6_has_53 : decode cX6_has 53 = .ok (.iinc 4 1, 3) := by decide +kernel
theorem dX6_has_56 : decode cX6_has 56 = .ok (.goto (-44), 3) := by decide +kernel
theorem dX6_has_59 : decode cX6_has 59 = .ok (.iconst 0, 1) := by decide +kernel
theorem dX6_has_60 : decode cX6_has 60 = .ok (.ireturn, 1) := by decide +kernel
set_option maxRecDepth 20000 in
theorem ggX6_sharedOf_X6_rowLength : GoodIn wsX6_sharedOf wsX6_rowLength := goodIn_r _ [5, 6, 41, 42, 43, 44, 45, 46, 47, 48, 49] (by decide +kernel) (by decide +kernel)
set_option maxRecDepth 20000 in
theorem gX6_sharedOf_X6_rowLength : GoodIn wsX6_sharedOf (wsV RX6 32 RX6 yX6_rowLength wsX6_rowLength) := goodIn_app (goodIn_of _ (by decide +kernel)) ggX6_sharedOf_X6_rowLength
set_option maxRecDepth 20000 in
theorem ggX6_sharedOf_X6_leaves : GoodIn wsX6_sharedOf wsX6_leaves := goodIn_r _ [9] (by decide +kernel) (by decide +kernel)
set_option maxRecDepth 20000 in
theorem gX6_sharedOf_X6_leaves : GoodIn wsX6_sharedOf (va_wsS RX6 56 yX6_leaves wsX6_leaves) := goodIn_app (goodIn_of _ (by decide +kernel)) ggX6_sharedOf_X6_leaves
set_option maxRecDepth 20000 in
theorem ggX6_sharedOf_X6_blocks : GoodIn wsX6_sharedOf wsX6_blocks := goodIn_r _ [12, 13, 14, 4, 15, 16, 17, 18] (by decide +kernel) (by decide +kernel)
set_option maxRecDepth 20000 in
theorem gX6_sharedOf_X6_blocks : GoodIn wsX6_sharedOf (va_wsS RX6 49 yX6_blocks wsX6_blocks) := goodIn_app (goodIn_of _ (by decide +kernel)) ggX6_sharedOf_X6_blocks
set_option maxRecDepth 20000 in
theorem ggX6_sharedOf_X6_id : GoodIn wsX6_sharedOf wsX6_id := goodIn_r _ [22, 6, 23, 24, 4, 25, 41, 42, 43, 44, 45, 46, 47, 48, 49] (by decide +kernel) (by decide +kernel)
set_option maxRecDepth 20000 in
theorem gX6_sharedOf_X6_id : GoodIn wsX6_sharedOf (wsV RX6 136 RX6 yX6_id wsX6_id) := goodIn_app (goodIn_of _ (by decide +kernel)) ggX6_sharedOf_X6_id
set_option maxRecDepth 20000 in
theorem ggX6_sharedOf_X6_isOfVector : GoodIn wsX6_sharedOf wsX6_isOfVector := goodIn_r _ [29, 6, 30, 31, 32, 4, 33, 34, 35, 36, 37, 38, 39, 40, 1, 2, 3, 5, 7, 8, 9, 10, 11, 12, 13, 14, 15, 16, 17, 18, 19, 20, 21, 22, 23, 24, 25, 41, 42, 43, 44, 45, 46, 47, 48, 49] (by decide +kernel) (by decide +kernel)
set_option maxRecDepth 20000 in
theorem gX6_sharedOf_X6_isOfVector : GoodIn wsX6_sharedOf (wsV RX6 140 RX6 yX6_isOfVector wsX6_isOfVector) := goodIn_app (goodIn_of _ (by decide +kernel)) ggX6_sharedOf_X6_isOfVector
set_option maxRecDepth 20000 in
theorem ggX6_sharedOf_X6_has : GoodIn wsX6_sharedOf wsX6_has := goodIn_r _ [40, 1, 2, 3, 4, 5, 6, 7, 8, 9, 10, 11, 12, 13, 14, 15, 16, 17, 18, 19, 20, 21, 22, 23, 24, 25, 41, 42, 43, 44, 45, 46, 47, 48, 49] (by decide +kernel) (by decide +kernel)
set_option maxRecDepth 20000 in
theorem gX6_sharedOf_X6_has : GoodIn wsX6_sharedOf (wsV RX6 143 RX6 yX6_has wsX6_has) := goodIn_app (goodIn_of _ (by decide +kernel)) ggX6_sharedOf_X6_has
theorem dX6_sharedOf_0 : decode cX6_sharedOf 0 = .ok (.aload_n 0, 1) := by decide +kernel
theorem dX6_sharedOf_1 : decode cX6_sharedOf 1 = .ok (.iload_n 1, 1) := by decide +kernel
theorem dX6_sharedOf_2 : decode cX6_sharedOf 2 = .ok (.invokevirtual 32, 3) := by decide +kernel
theorem dX6_sharedOf_5 : decode cX6_sharedOf 5 = .ok (.invokestatic 56, 3) := by decide +kernel
theorem dX6_sharedOf_8 : decode cX6_sharedOf 8 = .ok (.istore_n 3, 1) := by decide +kernel
theorem dX6_sharedOf_9 : decode cX6_sharedOf 9 = .ok (.iconst 0, 1) := by decide +kernel
theorem dX6_sharedOf_10 : decode cX6_sharedOf 10 = .ok (.istore 4, 2) := by decide +kernel
theorem dX6_sharedOf_12 : decode cX6_sharedOf 12 = .ok (.iconst 0, 1) := by decide +kernel
theorem dX6_sharedOf_13 : decode cX6_sharedOf 13 = .ok (.istore 5, 2) := by decide +kernel
theorem dX6_sharedOf_15 : decode cX6_sharedOf 15 = .ok (.iload 5, 2) := by decide +kernel
theorem dX6_sharedOf_17 : decode cX6_sharedOf 17 = .ok (.iconst 5, 1) := by decide +kernel
theorem dX6_sharedOf_18 : decode cX6_sharedOf 18 = .ok (.if_icmp .ge 78, 3) := by decide +kernel
theorem dX6_sharedOf_21 : decode cX6_sharedOf 21 = .ok (.iconst 0, 1) := by decide +kernel
theorem dX6_sharedOf_22 : decode cX6_sharedOf 22 = .ok (.istore 6, 2) := by decide +kernel
theorem dX6_sharedOf_24 : decode cX6_sharedOf 24 = .ok (.iload 6, 2) := by decide +kernel
theorem dX6_sharedOf_26 : decode cX6_sharedOf 26 = .ok (.iload_n 3, 1) := by decide +kernel
theorem dX6_sharedOf_27 : decode cX6_sharedOf 27 = .ok (.iload 5, 2) := by decide +kernel
theorem dX6_sharedOf_29 : decode cX6_sharedOf 29 = .ok (.invokestatic 49, 3) := by decide +kernel
theorem dX6_sharedOf_32 : decode cX6_sharedOf 32 = .ok (.if_icmp .ge 58, 3) := by decide +kernel
theorem dX6_sharedOf_35 : decode cX6_sharedOf 35 = .ok (.aload_n 0, 1) := by decide +kernel
theorem dX6_sharedOf_36 : decode cX6_sharedOf 36 = .ok (.iload_n 1, 1) := by decide +kernel
theorem dX6_sharedOf_37 : decode cX6_sharedOf 37 = .ok (.iload 5, 2) := by decide +kernel
theorem dX6_sharedOf_39 : decode cX6_sharedOf 39 = .ok (.iload 6, 2) := by decide +kernel
theorem dX6_sharedOf_41 : decode cX6_sharedOf 41 = .ok (.invokevirtual 136, 3) := by decide +kernel
theorem dX6_sharedOf_44 : decode cX6_sharedOf 44 = .ok (.istore 7, 2) := by decide +kernel
theorem dX6_sharedOf_46 : decode cX6_sharedOf 46 = .ok (.iload 4, 2) := by decide +kernel
theorem dX6_sharedOf_48 : decode cX6_sharedOf 48 = .ok (.iload_n 2, 1) := by decide +kernel
theorem dX6_sharedOf_49 : decode cX6_sharedOf 49 = .ok (.bipush (-5), 2) := by decide +kernel
theorem dX6_sharedOf_51 : decode cX6_sharedOf 51 = .ok (.if_icmp .ne 15, 3) := by decide +kernel
theorem dX6_sharedOf_54 : decode cX6_sharedOf 54 = .ok (.aload_n 0, 1) := by decide +kernel
theorem dX6_sharedOf_55 : decode cX6_sharedOf 55 = .ok (.iload 7, 2) := by decide +kernel
theorem dX6_sharedOf_57 : decode cX6_sharedOf 57 = .ok (.invokevirtual 140, 3) := by decide +kernel
theorem dX6_sharedOf_60 : decode cX6_sharedOf 60 = .ok (.ifCond .eq 20, 3) := by decide +kernel
theorem dX6_sharedOf_63 : decode cX6_sharedOf 63 = .ok (.goto 13, 3) := by decide +kernel
theorem dX6_sharedOf_66 : decode cX6_sharedOf 66 = .ok (.aload_n 0, 1) := by decide +kernel
theorem dX6_sharedOf_67 : decode cX6_sharedOf 67 = .ok (.iload_n 2, 1) := by decide +kernel
theorem dX6_sharedOf_68 : decode cX6_sharedOf 68 = .ok (.iload 7, 2) := by decide +kernel
theorem dX6_sharedOf_70 : decode cX6_sharedOf 70 = .ok (.invokevirtual 143, 3) := by decide +kernel
theorem dX6_sharedOf_73 : decode cX6_sharedOf 73 = .ok (.ifCond .eq 7, 3) := by decide +kernel
theorem dX6_sharedOf_76 : decode cX6_sharedOf 76 = .ok (.iconst 1, 1) := by decide +kernel
theorem dX6_sharedOf_77 : decode cX6_sharedOf 77 = .ok (.goto 4, 3) := by decide +kernel
theorem dX6_sharedOf_80 : decode cX6_sharedOf 80 = .ok (.iconst 0, 1) := by decide +kernel
theorem dX6_sharedOf_81 : decode cX6_sharedOf 81 = .ok (.iadd, 1) := by decide +kernel
theorem dX6_sharedOf_82 : decode cX6_sharedOf 82 = .ok (.istore 4, 2) := by decide +kernel
theorem dX6_sharedOf_84 : decode cX6_sharedOf 84 = .ok (.iinc 6 1, 3) := by decide +kernel
theorem dX6_sharedOf_87 : decode cX6_sharedOf 87 = .ok (.goto (-63), 3) := by decide +kernel
theorem dX6_sharedOf_90 : decode cX6_sharedOf 90 = .ok (.iinc 5 1, 3) := by decide +kernel
theorem dX6_sharedOf_93 : decode cX6_sharedOf 93 = .ok (.goto (-78), 3) := by decide +kernel
theorem dX6_sharedOf_96 : decode cX6_sharedOf 96 = .ok (.iload 4, 2) := by decide +kernel
theorem dX6_sharedOf_98 : decode cX6_sharedOf 98 = .ok (.ireturn, 1) := by decide +kernel
set_option maxRecDepth 20000 in
theorem ggX6_isOfVector_X6_no : GoodIn wsX6_isOfVector wsX6_no := goodIn_r _ [6, 1, 7, 8, 5, 9, 37, 38, 39, 40, 41, 42, 43, 44, 45] (by decide +kernel) (by decide +kernel)
set_option maxRecDepth 20000 in
theorem gX6_isOfVector_X6_no : GoodIn wsX6_isOfVector (wsV RX6 67 RX6 yX6_no wsX6_no) := goodIn_app (goodIn_of _ (by decide +kernel)) ggX6_isOfVector_X6_no
set_option maxRecDepth 20000 in
theorem ggX6_isOfVector_X6_has : GoodIn wsX6_isOfVector wsX6_has := goodIn_r _ [13, 14, 15, 16, 5, 17, 1, 18, 19, 20, 21, 22, 23, 24, 25, 26, 27, 28, 29, 30, 31, 32, 33, 34, 35, 36, 37, 38, 39, 40, 41, 42, 43, 44, 45] (by decide +kernel) (by decide +kernel)
set_option maxRecDepth 20000 in
theorem gX6_isOfVector_X6_has : GoodIn wsX6_isOfVector (wsV RX6 143 RX6 yX6_has wsX6_has) := goodIn_app (goodIn_of _ (by decide +kernel)) ggX6_isOfVector_X6_has
theorem dX6_isOfVector_0 : decode cX6_isOfVector 0 = .ok (.iconst 0, 1) := by decide +kernel
theorem dX6_isOfVector_1 : decode cX6_isOfVector 1 = .ok (.istore_n 2, 1) := by decide +kernel
theorem dX6_isOfVector_2 : decode cX6_isOfVector 2 = .ok (.iload_n 2, 1) := by decide +kernel
theorem dX6_isOfVector_3 : decode cX6_isOfVector 3 = .ok (.aload_n 0, 1) := by decide +kernel
theorem dX6_isOfVector_4 : decode cX6_isOfVector 4 = .ok (.getfield 7, 3) := by decide +kernel
theorem dX6_isOfVector_7 : decode cX6_isOfVector 7 = .ok (.sipush 10171, 3) := by decide +kernel
theorem dX6_isOfVector_10 : decode cX6_isOfVector 10 = .ok (.iaload, 1) := by decide +kernel
theorem dX6_isOfVector_11 : decode cX6_isOfVector 11 = .ok (.if_icmp .ge 28, 3) := by decide +kernel
theorem dX6_isOfVector_14 : decode cX6_isOfVector 14 = .ok (.aload_n 0, 1) := by decide +kernel
theorem dX6_isOfVector_15 : decode cX6_isOfVector 15 = .ok (.iload_n 2, 1) := by decide +kernel
theorem dX6_isOfVector_16 : decode cX6_isOfVector 16 = .ok (.invokevirtual 67, 3) := by decide +kernel
theorem dX6_isOfVector_19 : decode cX6_isOfVector 19 = .ok (.ifCond .ne 14, 3) := by decide +kernel
theorem dX6_isOfVector_22 : decode cX6_isOfVector 22 = .ok (.aload_n 0, 1) := by decide +kernel
theorem dX6_isOfVector_23 : decode cX6_isOfVector 23 = .ok (.iload_n 2, 1) := by decide +kernel
theorem dX6_isOfVector_24 : decode cX6_isOfVector 24 = .ok (.iload_n 1, 1) := by decide +kernel
theorem dX6_isOfVector_25 : decode cX6_isOfVector 25 = .ok (.invokevirtual 143, 3) := by decide +kernel
theorem dX6_isOfVector_28 : decode cX6_isOfVector 28 = .ok (.ifCond .eq 5, 3) := by decide +kernel
theorem dX6_isOfVector_31 : decode cX6_isOfVector 31 = .ok (.iconst 1, 1) := by decide +kernel
theorem dX6_isOfVector_32 : decode cX6_isOfVector 32 = .ok (.ireturn, 1) := by decide +kernel
theorem dX6_isOfVector_33 : decode cX6_isOfVector 33 = .ok (.iinc 2 1, 3) := by decide +kernel
theorem dX6_isOfVector_36 : decode cX6_isOfVector 36 = .ok (.goto (-34), 3) := by decide +kernel
theorem dX6_isOfVector_39 : decode cX6_isOfVector 39 = .ok (.iconst 0, 1) := by decide +kernel
theorem dX6_isOfVector_40 : decode cX6_isOfVector 40 = .ok (.ireturn, 1) := by decide +kernel
set_option maxRecDepth 20000 in
theorem ggX6_shared_X6_no : GoodIn wsX6_shared wsX6_no := goodIn_r _ [5, 6, 7, 8, 4, 9, 45, 46, 47, 48, 49, 50, 51, 52, 53] (by decide +kernel) (by decide +kernel)
set_option maxRecDepth 20000 in
theorem gX6_shared_X6_no : GoodIn wsX6_shared (wsV RX6 67 RX6 yX6_no wsX6_no) := goodIn_app (goodIn_of _ (by decide +kernel)) ggX6_shared_X6_no
set_option maxRecDepth 20000 in
theorem ggX6_shared_X6_sharedOf : GoodIn wsX6_shared wsX6_sharedOf := goodIn_r _ [13, 14, 15, 16, 4, 17, 6, 18, 19, 20, 21, 22, 23, 24, 25, 26, 27, 28, 29, 30, 31, 32, 33, 34, 35, 36, 37, 38, 39, 40, 1, 2, 3, 5, 7, 8, 9, 41, 42, 43, 44, 45, 46, 47, 48, 49, 50, 51, 52, 53] (by decide +kernel) (by decide +kernel)
set_option maxRecDepth 20000 in
theorem gX6_shared_X6_sharedOf : GoodIn wsX6_shared (wsV RX6 147 RX6 yX6_sharedOf wsX6_sharedOf) := goodIn_app (goodIn_of _ (by decide +kernel)) ggX6_shared_X6_sharedOf
theorem dX6_shared_0 : decode cX6_shared 0 = .ok (.aload_n 0, 1) := by decide +kernel
theorem dX6_shared_1 : decode cX6_shared 1 = .ok (.iload_n 1, 1) := by decide +kernel
theorem dX6_shared_2 : decode cX6_shared 2 = .ok (.invokevirtual 67, 3) := by decide +kernel
theorem dX6_shared_5 : decode cX6_shared 5 = .ok (.ifCond .ne 11, 3) := by decide +kernel
theorem dX6_shared_8 : decode cX6_shared 8 = .ok (.aload_n 0, 1) := by decide +kernel
theorem dX6_shared_9 : decode cX6_shared 9 = .ok (.iload_n 2, 1) := by decide +kernel
theorem dX6_shared_10 : decode cX6_shared 10 = .ok (.invokevirtual 67, 3) := by decide +kernel
theorem dX6_shared_13 : decode cX6_shared 13 = .ok (.ifCond .eq 7, 3) := by decide +kernel
theorem dX6_shared_16 : decode cX6_shared 16 = .ok (.iconst (-1), 1) := by decide +kernel
theorem dX6_shared_17 : decode cX6_shared 17 = .ok (.goto 9, 3) := by decide +kernel
theorem dX6_shared_20 : decode cX6_shared 20 = .ok (.aload_n 0, 1) := by decide +kernel
theorem dX6_shared_21 : decode cX6_shared 21 = .ok (.iload_n 1, 1) := by decide +kernel
theorem dX6_shared_22 : decode cX6_shared 22 = .ok (.iload_n 2, 1) := by decide +kernel
theorem dX6_shared_23 : decode cX6_shared 23 = .ok (.invokevirtual 147, 3) := by decide +kernel
theorem dX6_shared_26 : decode cX6_shared 26 = .ok (.ireturn, 1) := by decide +kernel
set_option maxRecDepth 20000 in
theorem ggX6_differ_X6_no : GoodIn wsX6_differ wsX6_no := goodIn_r _ [5, 6, 7, 8, 4, 9, 30, 31, 32, 33, 34, 35, 36, 37, 38] (by decide +kernel) (by decide +kernel)
set_option maxRecDepth 20000 in
theorem gX6_differ_X6_no : GoodIn wsX6_differ (wsV RX6 67 RX6 yX6_no wsX6_no) := goodIn_app (goodIn_of _ (by decide +kernel)) ggX6_differ_X6_no
set_option maxRecDepth 20000 in
theorem ggX6_differ_X6_length : GoodIn wsX6_differ wsX6_length := goodIn_r _ [13, 6, 14, 15, 16, 4, 17, 18, 19, 20, 21, 30, 31, 32, 33, 34, 35, 36, 37, 38] (by decide +kernel) (by decide +kernel)
set_option maxRecDepth 20000 in
theorem gX6_differ_X6_length : GoodIn wsX6_differ (wsV RX6 70 RX6 yX6_length wsX6_length) := goodIn_app (goodIn_of _ (by decide +kernel)) ggX6_differ_X6_length
set_option maxRecDepth 20000 in
theorem ggX6_differ_X6_value : GoodIn wsX6_differ wsX6_value := goodIn_r _ [25, 6, 26, 27, 28, 4, 29, 30, 31, 32, 33, 34, 35, 36, 37, 38] (by decide +kernel) (by decide +kernel)
set_option maxRecDepth 20000 in
theorem gX6_differ_X6_value : GoodIn wsX6_differ (wsV RX6 124 RX6 yX6_value wsX6_value) := goodIn_app (goodIn_of _ (by decide +kernel)) ggX6_differ_X6_value
theorem dX6_differ_0 : decode cX6_differ 0 = .ok (.aload_n 0, 1) := by decide +kernel
theorem dX6_differ_1 : decode cX6_differ 1 = .ok (.iload_n 1, 1) := by decide +kernel
theorem dX6_differ_2 : decode cX6_differ 2 = .ok (.invokevirtual 67, 3) := by decide +kernel
theorem dX6_differ_5 : decode cX6_differ 5 = .ok (.ifCond .ne 11, 3) := by decide +kernel
theorem dX6_differ_8 : decode cX6_differ 8 = .ok (.aload_n 0, 1) := by decide +kernel
theorem dX6_differ_9 : decode cX6_differ 9 = .ok (.iload_n 2, 1) := by decide +kernel
theorem dX6_differ_10 : decode cX6_differ 10 = .ok (.invokevirtual 67, 3) := by decide +kernel
theorem dX6_differ_13 : decode cX6_differ 13 = .ok (.ifCond .eq 5, 3) := by decide +kernel
theorem dX6_differ_16 : decode cX6_differ 16 = .ok (.iconst (-1), 1) := by decide +kernel
theorem dX6_differ_17 : decode cX6_differ 17 = .ok (.ireturn, 1) := by decide +kernel
theorem dX6_differ_18 : decode cX6_differ 18 = .ok (.iconst 0, 1) := by decide +kernel
theorem dX6_differ_19 : decode cX6_differ 19 = .ok (.istore_n 3, 1) := by decide +kernel
theorem dX6_differ_20 : decode cX6_differ 20 = .ok (.iload_n 3, 1) := by decide +kernel
theorem dX6_differ_21 : decode cX6_differ 21 = .ok (.aload_n 0, 1) := by decide +kernel
theorem dX6_differ_22 : decode cX6_differ 22 = .ok (.iload_n 1, 1) := by decide +kernel
theorem dX6_differ_23 : decode cX6_differ 23 = .ok (.invokevirtual 70, 3) := by decide +kernel
theorem dX6_differ_26 : decode cX6_differ 26 = .ok (.if_icmp .ge 33, 3) := by decide +kernel
theorem dX6_differ_29 : decode cX6_differ 29 = .ok (.iload_n 3, 1) := by decide +kernel
theorem dX6_differ_30 : decode cX6_differ 30 = .ok (.aload_n 0, 1) := by decide +kernel
theorem dX6_differ_31 : decode cX6_differ 31 = .ok (.iload_n 2, 1) := by decide +kernel
theorem dX6_differ_32 : decode cX6_differ 32 = .ok (.invokevirtual 70, 3) := by decide +kernel
theorem dX6_differ_35 : decode cX6_differ 35 = .ok (.if_icmp .ge 24, 3) := by decide +kernel
theorem dX6_differ_38 : decode cX6_differ 38 = .ok (.aload_n 0, 1) := by decide +kernel
theorem dX6_differ_39 : decode cX6_differ 39 = .ok (.iload_n 1, 1) := by decide +kernel
theorem dX6_differ_40 : decode cX6_differ 40 = .ok (.iload_n 3, 1) := by decide +kernel
theorem dX6_differ_41 : decode cX6_differ 41 = .ok (.invokevirtual 124, 3) := by decide +kernel
theorem dX6_differ_44 : decode cX6_differ 44 = .ok (.aload_n 0, 1) := by decide +kernel
theorem dX6_differ_45 : decode cX6_differ 45 = .ok (.iload_n 2, 1) := by decide +kernel
theorem dX6_differ_46 : decode cX6_differ 46 = .ok (.iload_n 3, 1) := by decide +kernel
theorem dX6_differ_47 : decode cX6_differ 47 = .ok (.invokevirtual 124, 3) := by decide +kernel
theorem dX6_differ_50 : decode cX6_differ 50 = .ok (.if_icmp .ne 9, 3) := by decide +kernel
theorem dX6_differ_53 : decode cX6_differ 53 = .ok (.iinc 3 1, 3) := by decide +kernel
theorem dX6_differ_56 : decode cX6_differ 56 = .ok (.goto (-36), 3) := by decide +kernel
theorem dX6_differ_59 : decode cX6_differ 59 = .ok (.iload_n 3, 1) := by decide +kernel
theorem dX6_differ_60 : decode cX6_differ 60 = .ok (.aload_n 0, 1) := by decide +kernel
theorem dX6_differ_61 : decode cX6_differ 61 = .ok (.iload_n 1, 1) := by decide +kernel
theorem dX6_differ_62 : decode cX6_differ 62 = .ok (.invokevirtual 70, 3) := by decide +kernel
theorem dX6_differ_65 : decode cX6_differ 65 = .ok (.if_icmp .ne 17, 3) := by decide +kernel
theorem dX6_differ_68 : decode cX6_differ 68 = .ok (.iload_n 3, 1) := by decide +kernel
theorem dX6_differ_69 : decode cX6_differ 69 = .ok (.aload_n 0, 1) := by decide +kernel
theorem dX6_differ_70 : decode cX6_differ 70 = .ok (.iload_n 2, 1) := by decide +kernel
theorem dX6_differ_71 : decode cX6_differ 71 = .ok (.invokevirtual 70, 3) := by decide +kernel
theorem dX6_differ_74 : decode cX6_differ 74 = .ok (.if_icmp .ne 8, 3) := by decide +kernel
theorem dX6_differ_77 : decode cX6_differ 77 = .ok (.bipush (-5), 2) := by decide +kernel
theorem dX6_differ_79 : decode cX6_differ 79 = .ok (.goto 4, 3) := by decide +kernel
theorem dX6_differ_82 : decode cX6_differ 82 = .ok (.iload_n 3, 1) := by decide +kernel
theorem dX6_differ_83 : decode cX6_differ 83 = .ok (.ireturn, 1) := by decide +kernel
set_option maxRecDepth 20000 in
theorem ggX6_find_X6_no : GoodIn wsX6_find wsX6_no := goodIn_r _ [5, 6, 7, 8, 4, 9, 30, 31, 32, 33, 34, 35, 36, 37, 38] (by decide +kernel) (by decide +kernel)
set_option maxRecDepth 20000 in
theorem gX6_find_X6_no : GoodIn wsX6_find (wsV RX6 67 RX6 yX6_no wsX6_no) := goodIn_app (goodIn_of _ (by decide +kernel)) ggX6_find_X6_no
set_option maxRecDepth 20000 in
theorem ggX6_find_X6_length : GoodIn wsX6_find wsX6_length := goodIn_r _ [13, 6, 14, 15, 16, 4, 17, 18, 19, 20, 21, 30, 31, 32, 33, 34, 35, 36, 37, 38] (by decide +kernel) (by decide +kernel)
set_option maxRecDepth 20000 in
theorem gX6_find_X6_length : GoodIn wsX6_find (wsV RX6 70 RX6 yX6_length wsX6_length) := goodIn_app (goodIn_of _ (by decide +kernel)) ggX6_find_X6_length
set_option maxRecDepth 20000 in
theorem ggX6_find_X6_value : GoodIn wsX6_find wsX6_value := goodIn_r _ [25, 6, 26, 27, 28, 4, 29, 30, 31, 32, 33, 34, 35, 36, 37, 38] (by decide +kernel) (by decide +kernel)
set_option maxRecDepth 20000 in
theorem gX6_find_X6_value : GoodIn wsX6_find (wsV RX6 124 RX6 yX6_value wsX6_value) := goodIn_app (goodIn_of _ (by decide +kernel)) ggX6_find_X6_value
theorem dX6_find_0 : decode cX6_find 0 = .ok (.aload_n 0, 1) := by decide +kernel
theorem dX6_find_1 : decode cX6_find 1 = .ok (.iload_n 1, 1) := by decide +kernel
theorem dX6_find_2 : decode cX6_find 2 = .ok (.invokevirtual 67, 3) := by decide +kernel
theorem dX6_find_5 : decode cX6_find 5 = .ok (.ifCond .eq 5, 3) := by decide +kernel
theorem dX6_find_8 : decode cX6_find 8 = .ok (.iconst (-1), 1) := by decide +kernel
theorem dX6_find_9 : decode cX6_find 9 = .ok (.ireturn, 1) := by decide +kernel
theorem dX6_find_10 : decode cX6_find 10 = .ok (.iload_n 3, 1) := by decide +kernel
theorem dX6_find_11 : decode cX6_find 11 = .ok (.ifCond .ge 6, 3) := by decide +kernel
theorem dX6_find_14 : decode cX6_find 14 = .ok (.bipush (-2), 2) := by decide +kernel
theorem dX6_find_16 : decode cX6_find 16 = .ok (.ireturn, 1) := by decide +kernel
theorem dX6_find_17 : decode cX6_find 17 = .ok (.iload_n 3, 1) := by decide +kernel
theorem dX6_find_18 : decode cX6_find 18 = .ok (.istore 4, 2) := by decide +kernel
theorem dX6_find_20 : decode cX6_find 20 = .ok (.iload 4, 2) := by decide +kernel
theorem dX6_find_22 : decode cX6_find 22 = .ok (.aload_n 0, 1) := by decide +kernel
theorem dX6_find_23 : decode cX6_find 23 = .ok (.iload_n 1, 1) := by decide +kernel
theorem dX6_find_24 : decode cX6_find 24 = .ok (.invokevirtual 70, 3) := by decide +kernel
theorem dX6_find_27 : decode cX6_find 27 = .ok (.if_icmp .ge 23, 3) := by decide +kernel
theorem dX6_find_30 : decode cX6_find 30 = .ok (.aload_n 0, 1) := by decide +kernel
theorem dX6_find_31 : decode cX6_find 31 = .ok (.iload_n 1, 1) := by decide +kernel
theorem dX6_find_32 : decode cX6_find 32 = .ok (.iload 4, 2) := by decide +kernel
theorem dX6_find_34 : decode cX6_find 34 = .ok (.invokevirtual 124, 3) := by decide +kernel
theorem dX6_find_37 : decode cX6_find 37 = .ok (.iload_n 2, 1) := by decide +kernel
theorem dX6_find_38 : decode cX6_find 38 = .ok (.if_icmp .ne 6, 3) := by decide +kernel
theorem dX6_find_41 : decode cX6_find 41 = .ok (.iload 4, 2) := by decide +kernel
theorem dX6_find_43 : decode cX6_find 43 = .ok (.ireturn, 1) := by decide +kernel
theorem dX6_find_44 : decode cX6_find 44 = .ok (.iinc 4 1, 3) := by decide +kernel
theorem dX6_find_47 : decode cX6_find 47 = .ok (.goto (-27), 3) := by decide +kernel
theorem dX6_find_50 : decode cX6_find 50 = .ok (.bipush (-5), 2) := by decide +kernel
theorem dX6_find_52 : decode cX6_find 52 = .ok (.ireturn, 1) := by decide +kernel
set_option maxRecDepth 20000 in
theorem ggX6_wouldMake_X6_no : GoodIn wsX6_wouldMake wsX6_no := goodIn_r _ [5, 6, 7, 8, 4, 9, 30, 31, 32, 33, 34, 35, 36, 37, 38] (by decide +kernel) (by decide +kernel)
set_option maxRecDepth 20000 in
theorem gX6_wouldMake_X6_no : GoodIn wsX6_wouldMake (wsV RX6 67 RX6 yX6_no wsX6_no) := goodIn_app (goodIn_of _ (by decide +kernel)) ggX6_wouldMake_X6_no
set_option maxRecDepth 20000 in
theorem ggX6_wouldMake_X6_in : GoodIn wsX6_wouldMake wsX6_in := goodIn_r _ [9] (by decide +kernel) (by decide +kernel)
set_option maxRecDepth 20000 in
theorem gX6_wouldMake_X6_in : GoodIn wsX6_wouldMake (va_wsS RX6 24 yX6_in wsX6_in) := goodIn_app (goodIn_of _ (by decide +kernel)) ggX6_wouldMake_X6_in
set_option maxRecDepth 20000 in
theorem ggX6_wouldMake_X6_rowLength : GoodIn wsX6_wouldMake wsX6_rowLength := goodIn_r _ [13, 6, 30, 31, 32, 33, 34, 35, 36, 37, 38] (by decide +kernel) (by decide +kernel)
set_option maxRecDepth 20000 in
theorem gX6_wouldMake_X6_rowLength : GoodIn wsX6_wouldMake (wsV RX6 32 RX6 yX6_rowLength wsX6_rowLength) := goodIn_app (goodIn_of _ (by decide +kernel)) ggX6_wouldMake_X6_rowLength
set_option maxRecDepth 20000 in
theorem ggX6_wouldMake_X6_leaves : GoodIn wsX6_wouldMake wsX6_leaves := goodIn_r _ [16] (by decide +kernel) (by decide +kernel)
set_option maxRecDepth 20000 in
theorem gX6_wouldMake_X6_leaves : GoodIn wsX6_wouldMake (va_wsS RX6 56 yX6_leaves wsX6_leaves) := goodIn_app (goodIn_of _ (by decide +kernel)) ggX6_wouldMake_X6_leaves
set_option maxRecDepth 20000 in
theorem ggX6_wouldMake_X6_isWindow : GoodIn wsX6_wouldMake wsX6_isWindow := goodIn_r _ [20, 6, 30, 31, 32, 33, 34, 35, 36, 37, 38] (by decide +kernel) (by decide +kernel)
set_option maxRecDepth 20000 in
theorem gX6_wouldMake_X6_isWindow : GoodIn wsX6_wouldMake (wsV RX6 28 RX6 yX6_isWindow wsX6_isWindow) := goodIn_app (goodIn_of _ (by decide +kernel)) ggX6_wouldMake_X6_isWindow
set_option maxRecDepth 20000 in
theorem ggX6_wouldMake_X6_rootLevel : GoodIn wsX6_wouldMake wsX6_rootLevel := goodIn_r _ [23, 24, 25, 4, 26] (by decide +kernel) (by decide +kernel)
set_option maxRecDepth 20000 in
theorem gX6_wouldMake_X6_rootLevel : GoodIn wsX6_wouldMake (va_wsS RX6 43 yX6_rootLevel wsX6_rootLevel) := goodIn_app (goodIn_of _ (by decide +kernel)) ggX6_wouldMake_X6_rootLevel
set_option maxRecDepth 20000 in
theorem ggX6_wouldMake_X6_power : GoodIn wsX6_wouldMake wsX6_power := goodIn_r _ [26] (by decide +kernel) (by decide +kernel)
set_option maxRecDepth 20000 in
theorem gX6_wouldMake_X6_power : GoodIn wsX6_wouldMake (va_wsS RX6 46 yX6_power wsX6_power) := goodIn_app (goodIn_of _ (by decide +kernel)) ggX6_wouldMake_X6_power
set_option maxRecDepth 20000 in
theorem ggX6_wouldMake_X6_blocks : GoodIn wsX6_wouldMake wsX6_blocks := goodIn_r _ [29, 21, 22, 4, 23, 24, 25, 26] (by decide +kernel) (by decide +kernel)
set_option maxRecDepth 20000 in
theorem gX6_wouldMake_X6_blocks : GoodIn wsX6_wouldMake (va_wsS RX6 49 yX6_blocks wsX6_blocks) := goodIn_app (goodIn_of _ (by decide +kernel)) ggX6_wouldMake_X6_blocks
theorem dX6_wouldMake_0 : decode cX6_wouldMake 0 = .ok (.aload_n 0, 1) := by decide +kernel
theorem dX6_wouldMake_1 : decode cX6_wouldMake 1 = .ok (.iload_n 1, 1) := by decide +kernel
theorem dX6_wouldMake_2 : decode cX6_wouldMake 2 = .ok (.invokevirtual 67, 3) := by decide +kernel
theorem dX6_wouldMake_5 : decode cX6_wouldMake 5 = .ok (.ifCond .eq 5, 3) := by decide +kernel
theorem dX6_wouldMake_8 : decode cX6_wouldMake 8 = .ok (.iconst (-1), 1) := by decide +kernel
theorem dX6_wouldMake_9 : decode cX6_wouldMake 9 = .ok (.ireturn, 1) := by decide +kernel
theorem dX6_wouldMake_10 : decode cX6_wouldMake 10 = .ok (.iload_n 2, 1) := by decide +kernel
theorem dX6_wouldMake_11 : decode cX6_wouldMake 11 = .ok (.iconst 0, 1) := by decide +kernel
theorem dX6_wouldMake_12 : decode cX6_wouldMake 12 = .ok (.iconst 2, 1) := by decide +kernel
theorem dX6_wouldMake_13 : decode cX6_wouldMake 13 = .ok (.invokestatic 24, 3) := by decide +kernel
theorem dX6_wouldMake_16 : decode cX6_wouldMake 16 = .ok (.ifCond .ne 6, 3) := by decide +kernel
theorem dX6_wouldMake_19 : decode cX6_wouldMake 19 = .ok (.bipush (-2), 2) := by decide +kernel
theorem dX6_wouldMake_21 : decode cX6_wouldMake 21 = .ok (.ireturn, 1) := by decide +kernel
theorem dX6_wouldMake_22 : decode cX6_wouldMake 22 = .ok (.aload_n 0, 1) := by decide +kernel
theorem dX6_wouldMake_23 : decode cX6_wouldMake 23 = .ok (.iload_n 1, 1) := by decide +kernel
theorem dX6_wouldMake_24 : decode cX6_wouldMake 24 = .ok (.invokevirtual 32, 3) := by decide +kernel
theorem dX6_wouldMake_27 : decode cX6_wouldMake 27 = .ok (.istore_n 3, 1) := by decide +kernel
theorem dX6_wouldMake_28 : decode cX6_wouldMake 28 = .ok (.iload_n 3, 1) := by decide +kernel
theorem dX6_wouldMake_29 : decode cX6_wouldMake 29 = .ok (.invokestatic 56, 3) := by decide +kernel
theorem dX6_wouldMake_32 : decode cX6_wouldMake 32 = .ok (.istore 4, 2) := by decide +kernel
theorem dX6_wouldMake_34 : decode cX6_wouldMake 34 = .ok (.aload_n 0, 1) := by decide +kernel
theorem dX6_wouldMake_35 : decode cX6_wouldMake 35 = .ok (.iload_n 1, 1) := by decide +kernel
theorem dX6_wouldMake_36 : decode cX6_wouldMake 36 = .ok (.invokevirtual 28, 3) := by decide +kernel
theorem dX6_wouldMake_39 : decode cX6_wouldMake 39 = .ok (.ifCond .ne 21, 3) := by decide +kernel
theorem dX6_wouldMake_42 : decode cX6_wouldMake 42 = .ok (.iload_n 2, 1) := by decide +kernel
theorem dX6_wouldMake_43 : decode cX6_wouldMake 43 = .ok (.ifCond .ne 13, 3) := by decide +kernel
theorem dX6_wouldMake_46 : decode cX6_wouldMake 46 = .ok (.iload_n 3, 1) := by decide +kernel
theorem dX6_wouldMake_47 : decode cX6_wouldMake 47 = .ok (.sipush 300, 3) := by decide +kernel
theorem dX6_wouldMake_50 : decode cX6_wouldMake 50 = .ok (.if_icmp .ne 13, 3) := by decide +kernel
theorem dX6_wouldMake_53 : decode cX6_wouldMake 53 = .ok (.goto 7, 3) := by decide +kernel
theorem dX6_wouldMake_56 : decode cX6_wouldMake 56 = .ok (.iload_n 3, 1) := by decide +kernel
theorem dX6_wouldMake_57 : decode cX6_wouldMake 57 = .ok (.ifCond .ne 6, 3) := by decide +kernel
theorem dX6_wouldMake_60 : decode cX6_wouldMake 60 = .ok (.bipush (-4), 2) := by decide +kernel
theorem dX6_wouldMake_62 : decode cX6_wouldMake 62 = .ok (.ireturn, 1) := by decide +kernel
theorem dX6_wouldMake_63 : decode cX6_wouldMake 63 = .ok (.iload_n 2, 1) := by decide +kernel
theorem dX6_wouldMake_64 : decode cX6_wouldMake 64 = .ok (.ifCond .ne 27, 3) := by decide +kernel
theorem dX6_wouldMake_67 : decode cX6_wouldMake 67 = .ok (.iload_n 3, 1) := by decide +kernel
theorem dX6_wouldMake_68 : decode cX6_wouldMake 68 = .ok (.ifCond .le 21, 3) := by decide +kernel
theorem dX6_wouldMake_71 : decode cX6_wouldMake 71 = .ok (.iload_n 3, 1) := by decide +kernel
theorem dX6_wouldMake_72 : decode cX6_wouldMake 72 = .ok (.iconst 4, 1) := by decide +kernel
theorem dX6_wouldMake_73 : decode cX6_wouldMake 73 = .ok (.irem, 1) := by decide +kernel
theorem dX6_wouldMake_74 : decode cX6_wouldMake 74 = .ok (.ifCond .ne 15, 3) := by decide +kernel
theorem dX6_wouldMake_77 : decode cX6_wouldMake 77 = .ok (.iconst 1, 1) := by decide +kernel
theorem dX6_wouldMake_78 : decode cX6_wouldMake 78 = .ok (.iload 4, 2) := by decide +kernel
theorem dX6_wouldMake_80 : decode cX6_wouldMake 80 = .ok (.iconst 1, 1) := by decide +kernel
theorem dX6_wouldMake_81 : decode cX6_wouldMake 81 = .ok (.iadd, 1) := by decide +kernel
theorem dX6_wouldMake_82 : decode cX6_wouldMake 82 = .ok (.invokestatic 43, 3) := by decide +kernel
theorem dX6_wouldMake_85 : decode cX6_wouldMake 85 = .ok (.iadd, 1) := by decide +kernel
theorem dX6_wouldMake_86 : decode cX6_wouldMake 86 = .ok (.goto 4, 3) := by decide +kernel
theorem dX6_wouldMake_89 : decode cX6_wouldMake 89 = .ok (.iconst 0, 1) := by decide +kernel
theorem dX6_wouldMake_90 : decode cX6_wouldMake 90 = .ok (.ireturn, 1) := by decide +kernel
theorem dX6_wouldMake_91 : decode cX6_wouldMake 91 = .ok (.iload_n 2, 1) := by decide +kernel
theorem dX6_wouldMake_92 : decode cX6_wouldMake 92 = .ok (.iconst 2, 1) := by decide +kernel
theorem dX6_wouldMake_93 : decode cX6_wouldMake 93 = .ok (.if_icmp .ne 20, 3) := by decide +kernel
theorem dX6_wouldMake_96 : decode cX6_wouldMake 96 = .ok (.iload 4, 2) := by decide +kernel
theorem dX6_wouldMake_98 : decode cX6_wouldMake 98 = .ok (.ifCond .ne 7, 3) := by decide +kernel
theorem dX6_wouldMake_101 : decode cX6_wouldMake 101 = .ok (.iconst 0, 1) := by decide +kernel
theorem dX6_wouldMake_102 : decode cX6_wouldMake 102 = .ok (.goto 10, 3) := by decide +kernel
theorem dX6_wouldMake_105 : decode cX6_wouldMake 105 = .ok (.iconst 1, 1) := by decide +kernel
theorem dX6_wouldMake_106 : decode cX6_wouldMake 106 = .ok (.iload 4, 2) := by decide +kernel
theorem dX6_wouldMake_108 : decode cX6_wouldMake 108 = .ok (.invokestatic 43, 3) := by decide +kernel
theorem dX6_wouldMake_111 : decode cX6_wouldMake 111 = .ok (.iadd, 1) := by decide +kernel
theorem dX6_wouldMake_112 : decode cX6_wouldMake 112 = .ok (.ireturn, 1) := by decide +kernel
theorem dX6_wouldMake_113 : decode cX6_wouldMake 113 = .ok (.iload_n 3, 1) := by decide +kernel
theorem dX6_wouldMake_114 : decode cX6_wouldMake 114 = .ok (.iconst 1, 1) := by decide +kernel
theorem dX6_wouldMake_115 : decode cX6_wouldMake 115 = .ok (.isub, 1) := by decide +kernel
theorem dX6_wouldMake_116 : decode cX6_wouldMake 116 = .ok (.invokestatic 56, 3) := by decide +kernel
theorem dX6_wouldMake_119 : decode cX6_wouldMake 119 = .ok (.istore 5, 2) := by decide +kernel
theorem dX6_wouldMake_121 : decode cX6_wouldMake 121 = .ok (.iconst 0, 1) := by decide +kernel
theorem dX6_wouldMake_122 : decode cX6_wouldMake 122 = .ok (.istore 6, 2) := by decide +kernel
theorem dX6_wouldMake_124 : decode cX6_wouldMake 124 = .ok (.iconst 1, 1) := by decide +kernel
theorem dX6_wouldMake_125 : decode cX6_wouldMake 125 = .ok (.istore 7, 2) := by decide +kernel
theorem dX6_wouldMake_127 : decode cX6_wouldMake 127 = .ok (.iload 7, 2) := by decide +kernel
theorem dX6_wouldMake_129 : decode cX6_wouldMake 129 = .ok (.iload 5, 2) := by decide +kernel
theorem dX6_wouldMake_131 : decode cX6_wouldMake 131 = .ok (.invokestatic 43, 3) := by decide +kernel
theorem dX6_wouldMake_134 : decode cX6_wouldMake 134 = .ok (.if_icmp .gt 44, 3) := by decide +kernel
theorem dX6_wouldMake_137 : decode cX6_wouldMake 137 = .ok (.iload 5, 2) := by decide +kernel
theorem dX6_wouldMake_139 : decode cX6_wouldMake 139 = .ok (.iload 4, 2) := by decide +kernel
theorem dX6_wouldMake_141 : decode cX6_wouldMake 141 = .ok (.if_icmp .ge 37, 3) := by decide +kernel
theorem dX6_wouldMake_144 : decode cX6_wouldMake 144 = .ok (.iload 6, 2) := by decide +kernel
theorem dX6_wouldMake_146 : decode cX6_wouldMake 146 = .ok (.iload 5, 2) := by decide +kernel
theorem dX6_wouldMake_148 : decode cX6_wouldMake 148 = .ok (.iload 7, 2) := by decide +kernel
theorem dX6_wouldMake_150 : decode cX6_wouldMake 150 = .ok (.invokestatic 46, 3) := by decide +kernel
theorem dX6_wouldMake_153 : decode cX6_wouldMake 153 = .ok (.idiv, 1) := by decide +kernel
theorem dX6_wouldMake_154 : decode cX6_wouldMake 154 = .ok (.iload 5, 2) := by decide +kernel
theorem dX6_wouldMake_156 : decode cX6_wouldMake 156 = .ok (.iload 7, 2) := by decide +kernel
theorem dX6_wouldMake_158 : decode cX6_wouldMake 158 = .ok (.invokestatic 49, 3) := by decide +kernel
theorem dX6_wouldMake_161 : decode cX6_wouldMake 161 = .ok (.if_icmp .ge 7, 3) := by decide +kernel
theorem dX6_wouldMake_164 : decode cX6_wouldMake 164 = .ok (.iconst 1, 1) := by decide +kernel
theorem dX6_wouldMake_165 : decode cX6_wouldMake 165 = .ok (.goto 4, 3) := by decide +kernel
theorem dX6_wouldMake_168 : decode cX6_wouldMake 168 = .ok (.iconst 0, 1) := by decide +kernel
theorem dX6_wouldMake_169 : decode cX6_wouldMake 169 = .ok (.iadd, 1) := by decide +kernel
theorem dX6_wouldMake_170 : decode cX6_wouldMake 170 = .ok (.istore 6, 2) := by decide +kernel
theorem dX6_wouldMake_172 : decode cX6_wouldMake 172 = .ok (.iinc 7 1, 3) := by decide +kernel
theorem dX6_wouldMake_175 : decode cX6_wouldMake 175 = .ok (.goto (-48), 3) := by decide +kernel
theorem dX6_wouldMake_178 : decode cX6_wouldMake 178 = .ok (.iload 6, 2) := by decide +kernel
theorem dX6_wouldMake_180 : decode cX6_wouldMake 180 = .ok (.ireturn, 1) := by decide +kernel
set_option maxRecDepth 20000 in
theorem ggX6_own_X6_rowLength : GoodIn wsX6_own wsX6_rowLength := goodIn_r _ [6, 1, 22, 23, 24, 25, 26, 27, 28, 29, 30] (by decide +kernel) (by decide +kernel)
set_option maxRecDepth 20000 in
theorem gX6_own_X6_rowLength : GoodIn wsX6_own (wsV RX6 32 RX6 yX6_rowLength wsX6_rowLength) := goodIn_app (goodIn_of _ (by decide +kernel)) ggX6_own_X6_rowLength
set_option maxRecDepth 20000 in
theorem ggX6_own_X6_leaves : GoodIn wsX6_own wsX6_leaves := goodIn_r _ [9] (by decide +kernel) (by decide +kernel)
set_option maxRecDepth 20000 in
theorem gX6_own_X6_leaves : GoodIn wsX6_own (va_wsS RX6 56 yX6_leaves wsX6_leaves) := goodIn_app (goodIn_of _ (by decide +kernel)) ggX6_own_X6_leaves
set_option maxRecDepth 20000 in
theorem ggX6_own_X6_blocks : GoodIn wsX6_own wsX6_blocks := goodIn_r _ [12, 13, 14, 5, 15, 16, 17, 18] (by decide +kernel) (by decide +kernel)
set_option maxRecDepth 20000 in
theorem gX6_own_X6_blocks : GoodIn wsX6_own (va_wsS RX6 49 yX6_blocks wsX6_blocks) := goodIn_app (goodIn_of _ (by decide +kernel)) ggX6_own_X6_blocks
set_option maxRecDepth 20000 in
theorem ggX6_own_X6_begins : GoodIn wsX6_own wsX6_begins := goodIn_r _ [21] (by decide +kernel) (by decide +kernel)
set_option maxRecDepth 20000 in
theorem gX6_own_X6_begins : GoodIn wsX6_own (va_wsS RX6 53 yX6_begins wsX6_begins) := goodIn_app (goodIn_of _ (by decide +kernel)) ggX6_own_X6_begins
theorem dX6_own_0 : decode cX6_own 0 = .ok (.aload_n 0, 1) := by decide +kernel
theorem dX6_own_1 : decode cX6_own 1 = .ok (.bipush 24, 2) := by decide +kernel
theorem dX6_own_3 : decode cX6_own 3 = .ok (.invokevirtual 32, 3) := by decide +kernel
theorem dX6_own_6 : decode cX6_own 6 = .ok (.invokestatic 56, 3) := by decide +kernel
theorem dX6_own_9 : decode cX6_own 9 = .ok (.istore_n 1, 1) := by decide +kernel
theorem dX6_own_10 : decode cX6_own 10 = .ok (.iconst 0, 1) := by decide +kernel
theorem dX6_own_11 : decode cX6_own 11 = .ok (.istore_n 2, 1) := by decide +kernel
theorem dX6_own_12 : decode cX6_own 12 = .ok (.iconst 0, 1) := by decide +kernel
theorem dX6_own_13 : decode cX6_own 13 = .ok (.istore_n 3, 1) := by decide +kernel
theorem dX6_own_14 : decode cX6_own 14 = .ok (.iload_n 3, 1) := by decide +kernel
theorem dX6_own_15 : decode cX6_own 15 = .ok (.iconst 5, 1) := by decide +kernel
theorem dX6_own_16 : decode cX6_own 16 = .ok (.if_icmp .ge 47, 3) := by decide +kernel
theorem dX6_own_19 : decode cX6_own 19 = .ok (.iconst 0, 1) := by decide +kernel
theorem dX6_own_20 : decode cX6_own 20 = .ok (.istore 4, 2) := by decide +kernel
theorem dX6_own_22 : decode cX6_own 22 = .ok (.iload 4, 2) := by decide +kernel
theorem dX6_own_24 : decode cX6_own 24 = .ok (.iload_n 1, 1) := by decide +kernel
theorem dX6_own_25 : decode cX6_own 25 = .ok (.iload_n 3, 1) := by decide +kernel
theorem dX6_own_26 : decode cX6_own 26 = .ok (.invokestatic 49, 3) := by decide +kernel
theorem dX6_own_29 : decode cX6_own 29 = .ok (.if_icmp .ge 28, 3) := by decide +kernel
theorem dX6_own_32 : decode cX6_own 32 = .ok (.iload_n 2, 1) := by decide +kernel
theorem dX6_own_33 : decode cX6_own 33 = .ok (.aload_n 0, 1) := by decide +kernel
theorem dX6_own_34 : decode cX6_own 34 = .ok (.getfield 7, 3) := by decide +kernel
theorem dX6_own_37 : decode cX6_own 37 = .ok (.sipush 10174, 3) := by decide +kernel
theorem dX6_own_40 : decode cX6_own 40 = .ok (.iload_n 3, 1) := by decide +kernel
theorem dX6_own_41 : decode cX6_own 41 = .ok (.invokestatic 53, 3) := by decide +kernel
theorem dX6_own_44 : decode cX6_own 44 = .ok (.iadd, 1) := by decide +kernel
theorem dX6_own_45 : decode cX6_own 45 = .ok (.iload 4, 2) := by decide +kernel
theorem dX6_own_47 : decode cX6_own 47 = .ok (.iadd, 1) := by decide +kernel
theorem dX6_own_48 : decode cX6_own 48 = .ok (.iaload, 1) := by decide +kernel
theorem dX6_own_49 : decode cX6_own 49 = .ok (.iadd, 1) := by decide +kernel
theorem dX6_own_50 : decode cX6_own 50 = .ok (.istore_n 2, 1) := by decide +kernel
theorem dX6_own_51 : decode cX6_own 51 = .ok (.iinc 4 1, 3) := by decide +kernel
theorem dX6_own_54 : decode cX6_own 54 = .ok (.goto (-32), 3) := by decide +kernel
theorem dX6_own_57 : decode cX6_own 57 = .ok (.iinc 3 1, 3) := by decide +kernel
theorem dX6_own_60 : decode cX6_own 60 = .ok (.goto (-46), 3) := by decide +kernel
theorem dX6_own_63 : decode cX6_own 63 = .ok (.iload_n 2, 1) := by decide +kernel
theorem dX6_own_64 : decode cX6_own 64 = .ok (.ireturn, 1) := by decide +kernel
set_option maxRecDepth 20000 in
theorem ggX6_edit_X6_in : GoodIn wsX6_edit wsX6_in := goodIn_r _ [4] (by decide +kernel) (by decide +kernel)
set_option maxRecDepth 20000 in
theorem gX6_edit_X6_in : GoodIn wsX6_edit (va_wsS RX6 24 yX6_in wsX6_in) := goodIn_app (goodIn_of _ (by decide +kernel)) ggX6_edit_X6_in
set_option maxRecDepth 20000 in
theorem ggX6_edit_X6_noEdit : GoodIn wsX6_edit wsX6_noEdit := goodIn_r _ [8, 9, 56, 57, 58, 59, 60, 61, 62, 63, 64] (by decide +kernel) (by decide +kernel)
set_option maxRecDepth 20000 in
theorem gX6_edit_X6_noEdit : GoodIn wsX6_edit (wsV RX6 99 RX6 yX6_noEdit wsX6_noEdit) := goodIn_app (goodIn_of _ (by decide +kernel)) ggX6_edit_X6_noEdit
set_option maxRecDepth 20000 in
theorem ggX6_edit_X6_rowLength : GoodIn wsX6_edit wsX6_rowLength := goodIn_r _ [13, 9, 56, 57, 58, 59, 60, 61, 62, 63, 64] (by decide +kernel) (by decide +kernel)
set_option maxRecDepth 20000 in
theorem gX6_edit_X6_rowLength : GoodIn wsX6_edit (wsV RX6 32 RX6 yX6_rowLength wsX6_rowLength) := goodIn_app (goodIn_of _ (by decide +kernel)) ggX6_edit_X6_rowLength
set_option maxRecDepth 20000 in
theorem ggX6_edit_X6_leaves : GoodIn wsX6_edit wsX6_leaves := goodIn_r _ [16] (by decide +kernel) (by decide +kernel)
set_option maxRecDepth 20000 in
theorem gX6_edit_X6_leaves : GoodIn wsX6_edit (va_wsS RX6 56 yX6_leaves wsX6_leaves) := goodIn_app (goodIn_of _ (by decide +kernel)) ggX6_edit_X6_leaves
set_option maxRecDepth 20000 in
theorem ggX6_edit_X6_own : GoodIn wsX6_edit wsX6_own := goodIn_r _ [20, 9, 10, 11, 12, 3, 13, 14, 15, 16, 21, 22, 23, 24, 25, 26, 27, 28, 29, 30, 31, 32, 56, 57, 58, 59, 60, 61, 62, 63, 64] (by decide +kernel) (by decide +kernel)
set_option maxRecDepth 20000 in
theorem gX6_edit_X6_own : GoodIn wsX6_edit (wsV RX6 150 RX6 yX6_own wsX6_own) := goodIn_app (goodIn_of _ (by decide +kernel)) ggX6_edit_X6_own
set_option maxRecDepth 20000 in
theorem ggX6_edit_X6_allBlocks : GoodIn wsX6_edit wsX6_allBlocks := goodIn_r _ [35, 21, 22, 3, 23, 24, 25, 26, 27, 28, 29] (by decide +kernel) (by decide +kernel)
set_option maxRecDepth 20000 in
theorem gX6_edit_X6_allBlocks : GoodIn wsX6_edit (va_wsS RX6 127 yX6_allBlocks wsX6_allBlocks) := goodIn_app (goodIn_of _ (by decide +kernel)) ggX6_edit_X6_allBlocks
set_option maxRecDepth 20000 in
theorem ggX6_edit_X6_sharedOf : GoodIn wsX6_edit wsX6_sharedOf := goodIn_r _ [39, 10, 11, 12, 3, 13, 9, 14, 15, 16, 21, 22, 23, 24, 25, 26, 27, 28, 29, 40, 41, 42, 43, 30, 31, 32, 44, 45, 46, 47, 48, 49, 50, 51, 1, 2, 4, 52, 53, 54, 55, 56, 57, 58, 59, 60, 61, 62, 63, 64] (by decide +kernel) (by decide +kernel)
set_option maxRecDepth 20000 in
theorem gX6_edit_X6_sharedOf : GoodIn wsX6_edit (wsV RX6 147 RX6 yX6_sharedOf wsX6_sharedOf) := goodIn_app (goodIn_of _ (by decide +kernel)) ggX6_edit_X6_sharedOf
set_option maxRecDepth 20000 in
theorem ggX6_edit_X6_rootLevel : GoodIn wsX6_edit wsX6_rootLevel := goodIn_r _ [26, 27, 28, 3, 29] (by decide +kernel) (by decide +kernel)
set_option maxRecDepth 20000 in
theorem gX6_edit_X6_rootLevel : GoodIn wsX6_edit (va_wsS RX6 43 yX6_rootLevel wsX6_rootLevel) := goodIn_app (goodIn_of _ (by decide +kernel)) ggX6_edit_X6_rootLevel
set_option maxRecDepth 20000 in
theorem ggX6_edit_X6_id : GoodIn wsX6_edit wsX6_id := goodIn_r _ [43, 9, 30, 31, 3, 32, 56, 57, 58, 59, 60, 61, 62, 63, 64] (by decide +kernel) (by decide +kernel)
set_option maxRecDepth 20000 in
theorem gX6_edit_X6_id : GoodIn wsX6_edit (wsV RX6 136 RX6 yX6_id wsX6_id) := goodIn_app (goodIn_of _ (by decide +kernel)) ggX6_edit_X6_id
theorem dX6_edit_0 : decode cX6_edit 0 = .ok (.iload_n 1, 1) := by decide +kernel
theorem dX6_edit_1 : decode cX6_edit 1 = .ok (.iconst 0, 1) := by decide +kernel
theorem dX6_edit_2 : decode cX6_edit 2 = .ok (.iconst 4, 1) := by decide +kernel
theorem dX6_edit_3 : decode cX6_edit 3 = .ok (.invokestatic 24, 3) := by decide +kernel
theorem dX6_edit_6 : decode cX6_edit 6 = .ok (.ifCond .ne 6, 3) := by decide +kernel
theorem dX6_edit_9 : decode cX6_edit 9 = .ok (.bipush (-2), 2) := by decide +kernel
theorem dX6_edit_11 : decode cX6_edit 11 = .ok (.ireturn, 1) := by decide +kernel
theorem dX6_edit_12 : decode cX6_edit 12 = .ok (.aload_n 0, 1) := by decide +kernel
theorem dX6_edit_13 : decode cX6_edit 13 = .ok (.invokevirtual 99, 3) := by decide +kernel
theorem dX6_edit_16 : decode cX6_edit 16 = .ok (.ifCond .eq 6, 3) := by decide +kernel
theorem dX6_edit_19 : decode cX6_edit 19 = .ok (.bipush (-4), 2) := by decide +kernel
theorem dX6_edit_21 : decode cX6_edit 21 = .ok (.ireturn, 1) := by decide +kernel
theorem dX6_edit_22 : decode cX6_edit 22 = .ok (.aload_n 0, 1) := by decide +kernel
theorem dX6_edit_23 : decode cX6_edit 23 = .ok (.bipush 24, 2) := by decide +kernel
theorem dX6_edit_25 : decode cX6_edit 25 = .ok (.invokevirtual 32, 3) := by decide +kernel
theorem dX6_edit_28 : decode cX6_edit 28 = .ok (.invokestatic 56, 3) := by decide +kernel
theorem dX6_edit_31 : decode cX6_edit 31 = .ok (.istore_n 2, 1) := by decide +kernel
theorem dX6_edit_32 : decode cX6_edit 32 = .ok (.iload_n 1, 1) := by decide +kernel
theorem dX6_edit_33 : decode cX6_edit 33 = .ok (.tableswitch 57 0 3 #[31, 38, 43, 48], 31) := by decide +kernel
theorem dX6_edit_64 : decode cX6_edit 64 = .ok (.aload_n 0, 1) := by decide +kernel
theorem dX6_edit_65 : decode cX6_edit 65 = .ok (.bipush 24, 2) := by decide +kernel
theorem dX6_edit_67 : decode cX6_edit 67 = .ok (.invokevirtual 32, 3) := by decide +kernel
theorem dX6_edit_70 : decode cX6_edit 70 = .ok (.ireturn, 1) := by decide +kernel
theorem dX6_edit_71 : decode cX6_edit 71 = .ok (.aload_n 0, 1) := by decide +kernel
theorem dX6_edit_72 : decode cX6_edit 72 = .ok (.invokevirtual 150, 3) := by decide +kernel
theorem dX6_edit_75 : decode cX6_edit 75 = .ok (.ireturn, 1) := by decide +kernel
theorem dX6_edit_76 : decode cX6_edit 76 = .ok (.iload_n 2, 1) := by decide +kernel
theorem dX6_edit_77 : decode cX6_edit 77 = .ok (.invokestatic 127, 3) := by decide +kernel
theorem dX6_edit_80 : decode cX6_edit 80 = .ok (.ireturn, 1) := by decide +kernel
theorem dX6_edit_81 : decode cX6_edit 81 = .ok (.aload_n 0, 1) := by decide +kernel
theorem dX6_edit_82 : decode cX6_edit 82 = .ok (.bipush 24, 2) := by decide +kernel
theorem dX6_edit_84 : decode cX6_edit 84 = .ok (.bipush (-5), 2) := by decide +kernel
theorem dX6_edit_86 : decode cX6_edit 86 = .ok (.invokevirtual 147, 3) := by decide +kernel
theorem dX6_edit_89 : decode cX6_edit 89 = .ok (.ireturn, 1) := by decide +kernel
theorem dX6_edit_90 : decode cX6_edit 90 = .ok (.iload_n 2, 1) := by decide +kernel
theorem dX6_edit_91 : decode cX6_edit 91 = .ok (.ifCond .ne 8, 3) := by decide +kernel
theorem dX6_edit_94 : decode cX6_edit 94 = .ok (.bipush (-5), 2) := by decide +kernel
theorem dX6_edit_96 : decode cX6_edit 96 = .ok (.goto 14, 3) := by decide +kernel
theorem dX6_edit_99 : decode cX6_edit 99 = .ok (.aload_n 0, 1) := by decide +kernel
theorem dX6_edit_100 : decode cX6_edit 100 = .ok (.bipush 24, 2) := by decide +kernel
theorem dX6_edit_102 : decode cX6_edit 102 = .ok (.iload_n 2, 1) := by decide +kernel
theorem dX6_edit_103 : decode cX6_edit 103 = .ok (.invokestatic 43, 3) := by decide +kernel
theorem dX6_edit_106 : decode cX6_edit 106 = .ok (.iconst 0, 1) := by decide +kernel
theorem dX6_edit_107 : decode cX6_edit 107 = .ok (.invokevirtual 136, 3) := by decide +kernel
theorem dX6_edit_110 : decode cX6_edit 110 = .ok (.ireturn, 1) := by decide +kernel
set_option maxRecDepth 20000 in
theorem ggX6_used_X6_noEdit : GoodIn wsX6_used wsX6_noEdit := goodIn_r _ [6, 1, 45, 46, 47, 48, 49, 50, 51, 52, 53] (by decide +kernel) (by decide +kernel)
set_option maxRecDepth 20000 in
theorem gX6_used_X6_noEdit : GoodIn wsX6_used (wsV RX6 99 RX6 yX6_noEdit wsX6_noEdit) := goodIn_app (goodIn_of _ (by decide +kernel)) ggX6_used_X6_noEdit
set_option maxRecDepth 20000 in
theorem ggX6_used_X6_has : GoodIn wsX6_used wsX6_has := goodIn_r _ [10, 11, 12, 13, 5, 14, 1, 15, 16, 17, 18, 19, 20, 21, 22, 23, 24, 25, 26, 27, 28, 29, 30, 31, 32, 33, 45, 46, 47, 48, 49, 50, 51, 52, 53] (by decide +kernel) (by decide +kernel)
set_option maxRecDepth 20000 in
theorem gX6_used_X6_has : GoodIn wsX6_used (wsV RX6 143 RX6 yX6_has wsX6_has) := goodIn_app (goodIn_of _ (by decide +kernel)) ggX6_used_X6_has
set_option maxRecDepth 20000 in
theorem ggX6_used_X6_isOfVector : GoodIn wsX6_used wsX6_isOfVector := goodIn_r _ [37, 1, 38, 39, 40, 5, 41, 42, 43, 44, 7, 8, 9, 10, 11, 12, 13, 14, 15, 16, 17, 18, 19, 20, 21, 22, 23, 24, 25, 26, 27, 28, 29, 30, 31, 32, 33, 45, 46, 47, 48, 49, 50, 51, 52, 53] (by decide +kernel) (by decide +kernel)
set_option maxRecDepth 20000 in
theorem gX6_used_X6_isOfVector : GoodIn wsX6_used (wsV RX6 140 RX6 yX6_isOfVector wsX6_isOfVector) := goodIn_app (goodIn_of _ (by decide +kernel)) ggX6_used_X6_isOfVector
theorem dX6_used_0 : decode cX6_used 0 = .ok (.iconst 0, 1) := by decide +kernel
theorem dX6_used_1 : decode cX6_used 1 = .ok (.istore_n 1, 1) := by decide +kernel
theorem dX6_used_2 : decode cX6_used 2 = .ok (.iconst 0, 1) := by decide +kernel
theorem dX6_used_3 : decode cX6_used 3 = .ok (.istore_n 2, 1) := by decide +kernel
theorem dX6_used_4 : decode cX6_used 4 = .ok (.iload_n 2, 1) := by decide +kernel
theorem dX6_used_5 : decode cX6_used 5 = .ok (.aload_n 0, 1) := by decide +kernel
theorem dX6_used_6 : decode cX6_used 6 = .ok (.getfield 7, 3) := by decide +kernel
theorem dX6_used_9 : decode cX6_used 9 = .ok (.sipush 10172, 3) := by decide +kernel
theorem dX6_used_12 : decode cX6_used 12 = .ok (.iaload, 1) := by decide +kernel
theorem dX6_used_13 : decode cX6_used 13 = .ok (.if_icmp .ge 42, 3) := by decide +kernel
theorem dX6_used_16 : decode cX6_used 16 = .ok (.iload_n 1, 1) := by decide +kernel
theorem dX6_used_17 : decode cX6_used 17 = .ok (.aload_n 0, 1) := by decide +kernel
theorem dX6_used_18 : decode cX6_used 18 = .ok (.invokevirtual 99, 3) := by decide +kernel
theorem dX6_used_21 : decode cX6_used 21 = .ok (.ifCond .ne 13, 3) := by decide +kernel
theorem dX6_used_24 : decode cX6_used 24 = .ok (.aload_n 0, 1) := by decide +kernel
theorem dX6_used_25 : decode cX6_used 25 = .ok (.bipush 24, 2) := by decide +kernel
theorem dX6_used_27 : decode cX6_used 27 = .ok (.iload_n 2, 1) := by decide +kernel
theorem dX6_used_28 : decode cX6_used 28 = .ok (.invokevirtual 143, 3) := by decide +kernel
theorem dX6_used_31 : decode cX6_used 31 = .ok (.ifCond .ne 11, 3) := by decide +kernel
theorem dX6_used_34 : decode cX6_used 34 = .ok (.aload_n 0, 1) := by decide +kernel
theorem dX6_used_35 : decode cX6_used 35 = .ok (.iload_n 2, 1) := by decide +kernel
theorem dX6_used_36 : decode cX6_used 36 = .ok (.invokevirtual 140, 3) := by decide +kernel
theorem dX6_used_39 : decode cX6_used 39 = .ok (.ifCond .eq 7, 3) := by decide +kernel
theorem dX6_used_42 : decode cX6_used 42 = .ok (.iconst 1, 1) := by decide +kernel
theorem dX6_used_43 : decode cX6_used 43 = .ok (.goto 4, 3) := by decide +kernel
theorem dX6_used_46 : decode cX6_used 46 = .ok (.iconst 0, 1) := by decide +kernel
theorem dX6_used_47 : decode cX6_used 47 = .ok (.iadd, 1) := by decide +kernel
theorem dX6_used_48 : decode cX6_used 48 = .ok (.istore_n 1, 1) := by decide +kernel
theorem dX6_used_49 : decode cX6_used 49 = .ok (.iinc 2 1, 3) := by decide +kernel
theorem dX6_used_52 : decode cX6_used 52 = .ok (.goto (-48), 3) := by decide +kernel
theorem dX6_used_55 : decode cX6_used 55 = .ok (.iload_n 1, 1) := by decide +kernel
theorem dX6_used_56 : decode cX6_used 56 = .ok (.ireturn, 1) := by decide +kernel
set_option maxRecDepth 20000 in
theorem ggX6_lengths_X6_no : GoodIn wsX6_lengths wsX6_no := goodIn_r _ [6, 1, 7, 8, 5, 9, 22, 23, 24, 25, 26, 27, 28, 29, 30] (by decide +kernel) (by decide +kernel)
set_option maxRecDepth 20000 in
theorem gX6_lengths_X6_no : GoodIn wsX6_lengths (wsV RX6 67 RX6 yX6_no wsX6_no) := goodIn_app (goodIn_of _ (by decide +kernel)) ggX6_lengths_X6_no
set_option maxRecDepth 20000 in
theorem ggX6_lengths_X6_length : GoodIn wsX6_lengths wsX6_length := goodIn_r _ [13, 1, 14, 15, 16, 5, 17, 18, 19, 20, 21, 22, 23, 24, 25, 26, 27, 28, 29, 30] (by decide +kernel) (by decide +kernel)
set_option maxRecDepth 20000 in
theorem gX6_lengths_X6_length : GoodIn wsX6_lengths (wsV RX6 70 RX6 yX6_length wsX6_length) := goodIn_app (goodIn_of _ (by decide +kernel)) ggX6_lengths_X6_length
theorem dX6_lengths_0 : decode cX6_lengths 0 = .ok (.iconst 0, 1) := by decide +kernel
theorem dX6_lengths_1 : decode cX6_lengths 1 = .ok (.istore_n 1, 1) := by decide +kernel
theorem dX6_lengths_2 : decode cX6_lengths 2 = .ok (.iconst 0, 1) := by decide +kernel
theorem dX6_lengths_3 : decode cX6_lengths 3 = .ok (.istore_n 2, 1) := by decide +kernel
theorem dX6_lengths_4 : decode cX6_lengths 4 = .ok (.iload_n 2, 1) := by decide +kernel
theorem dX6_lengths_5 : decode cX6_lengths 5 = .ok (.aload_n 0, 1) := by decide +kernel
theorem dX6_lengths_6 : decode cX6_lengths 6 = .ok (.getfield 7, 3) := by decide +kernel
theorem dX6_lengths_9 : decode cX6_lengths 9 = .ok (.sipush 10171, 3) := by decide +kernel
theorem dX6_lengths_12 : decode cX6_lengths 12 = .ok (.iaload, 1) := by decide +kernel
theorem dX6_lengths_13 : decode cX6_lengths 13 = .ok (.if_icmp .ge 29, 3) := by decide +kernel
theorem dX6_lengths_16 : decode cX6_lengths 16 = .ok (.iload_n 1, 1) := by decide +kernel
theorem dX6_lengths_17 : decode cX6_lengths 17 = .ok (.aload_n 0, 1) := by decide +kernel
theorem dX6_lengths_18 : decode cX6_lengths 18 = .ok (.iload_n 2, 1) := by decide +kernel
theorem dX6_lengths_19 : decode cX6_lengths 19 = .ok (.invokevirtual 67, 3) := by decide +kernel
theorem dX6_lengths_22 : decode cX6_lengths 22 = .ok (.ifCond .eq 7, 3) := by decide +kernel
theorem dX6_lengths_25 : decode cX6_lengths 25 = .ok (.iconst 0, 1) := by decide +kernel
theorem dX6_lengths_26 : decode cX6_lengths 26 = .ok (.goto 8, 3) := by decide +kernel
theorem dX6_lengths_29 : decode cX6_lengths 29 = .ok (.aload_n 0, 1) := by decide +kernel
theorem dX6_lengths_30 : decode cX6_lengths 30 = .ok (.iload_n 2, 1) := by decide +kernel
theorem dX6_lengths_31 : decode cX6_lengths 31 = .ok (.invokevirtual 70, 3) := by decide +kernel
theorem dX6_lengths_34 : decode cX6_lengths 34 = .ok (.iadd, 1) := by decide +kernel
theorem dX6_lengths_35 : decode cX6_lengths 35 = .ok (.istore_n 1, 1) := by decide +kernel
theorem dX6_lengths_36 : decode cX6_lengths 36 = .ok (.iinc 2 1, 3) := by decide +kernel
theorem dX6_lengths_39 : decode cX6_lengths 39 = .ok (.goto (-35), 3) := by decide +kernel
theorem dX6_lengths_42 : decode cX6_lengths 42 = .ok (.iload_n 1, 1) := by decide +kernel
theorem dX6_lengths_43 : decode cX6_lengths 43 = .ok (.ireturn, 1) := by decide +kernel
set_option maxRecDepth 20000 in
theorem ggX6_count_X6_there : GoodIn wsX6_count wsX6_there := goodIn_r _ [8, 1, 67, 68, 69, 70, 71, 72, 73, 74, 75] (by decide +kernel) (by decide +kernel)
set_option maxRecDepth 20000 in
theorem gX6_count_X6_there : GoodIn wsX6_count (wsV RX6 95 RX6 yX6_there wsX6_there) := goodIn_app (goodIn_of _ (by decide +kernel)) ggX6_count_X6_there
set_option maxRecDepth 20000 in
theorem ggX6_count_X6_used : GoodIn wsX6_count wsX6_used := goodIn_r _ [12, 1, 13, 14, 15, 7, 16, 17, 18, 19, 20, 21, 22, 23, 24, 25, 26, 27, 28, 29, 30, 31, 32, 33, 34, 35, 36, 37, 38, 39, 40, 41, 42, 43, 44, 45, 46, 47, 48, 49, 50, 51, 52, 53, 54, 67, 68, 69, 70, 71, 72, 73, 74, 75] (by decide +kernel) (by decide +kernel)
set_option maxRecDepth 20000 in
theorem gX6_count_X6_used : GoodIn wsX6_count (wsV RX6 153 RX6 yX6_used wsX6_used) := goodIn_app (goodIn_of _ (by decide +kernel)) ggX6_count_X6_used
set_option maxRecDepth 20000 in
theorem ggX6_count_X6_lengths : GoodIn wsX6_count wsX6_lengths := goodIn_r _ [58, 1, 48, 49, 50, 7, 51, 52, 53, 54, 59, 60, 61, 62, 63, 64, 65, 66, 21, 22, 23, 24, 67, 68, 69, 70, 71, 72, 73, 74, 75] (by decide +kernel) (by decide +kernel)
set_option maxRecDepth 20000 in
theorem gX6_count_X6_lengths : GoodIn wsX6_count (wsV RX6 156 RX6 yX6_lengths wsX6_lengths) := goodIn_app (goodIn_of _ (by decide +kernel)) ggX6_count_X6_lengths
theorem dX6_count_0 : decode cX6_count 0 = .ok (.iload_n 1, 1) := by decide +kernel
theorem dX6_count_1 : decode cX6_count 1 = .ok (.tableswitch 117 0 8 #[51, 60, 65, 74, 79, 93, 102, 107, 112], 51) := by decide +kernel
theorem dX6_count_52 : decode cX6_count 52 = .ok (.aload_n 0, 1) := by decide +kernel
theorem dX6_count_53 : decode cX6_count 53 = .ok (.getfield 7, 3) := by decide +kernel
theorem dX6_count_56 : decode cX6_count 56 = .ok (.sipush 10171, 3) := by decide +kernel
theorem dX6_count_59 : decode cX6_count 59 = .ok (.iaload, 1) := by decide +kernel
theorem dX6_count_60 : decode cX6_count 60 = .ok (.ireturn, 1) := by decide +kernel
theorem dX6_count_61 : decode cX6_count 61 = .ok (.aload_n 0, 1) := by decide +kernel
theorem dX6_count_62 : decode cX6_count 62 = .ok (.invokevirtual 95, 3) := by decide +kernel
theorem dX6_count_65 : decode cX6_count 65 = .ok (.ireturn, 1) := by decide +kernel
theorem dX6_count_66 : decode cX6_count 66 = .ok (.aload_n 0, 1) := by decide +kernel
theorem dX6_count_67 : decode cX6_count 67 = .ok (.getfield 7, 3) := by decide +kernel
theorem dX6_count_70 : decode cX6_count 70 = .ok (.sipush 10172, 3) := by decide +kernel
theorem dX6_count_73 : decode cX6_count 73 = .ok (.iaload, 1) := by decide +kernel
theorem dX6_count_74 : decode cX6_count 74 = .ok (.ireturn, 1) := by decide +kernel
theorem dX6_count_75 : decode cX6_count 75 = .ok (.aload_n 0, 1) := by decide +kernel
theorem dX6_count_76 : decode cX6_count 76 = .ok (.invokevirtual 153, 3) := by decide +kernel
theorem dX6_count_79 : decode cX6_count 79 = .ok (.ireturn, 1) := by decide +kernel
theorem dX6_count_80 : decode cX6_count 80 = .ok (.aload_n 0, 1) := by decide +kernel
theorem dX6_count_81 : decode cX6_count 81 = .ok (.getfield 7, 3) := by decide +kernel
theorem dX6_count_84 : decode cX6_count 84 = .ok (.sipush 10172, 3) := by decide +kernel
theorem dX6_count_87 : decode cX6_count 87 = .ok (.iaload, 1) := by decide +kernel
theorem dX6_count_88 : decode cX6_count 88 = .ok (.aload_n 0, 1) := by decide +kernel
theorem dX6_count_89 : decode cX6_count 89 = .ok (.invokevirtual 153, 3) := by decide +kernel
theorem dX6_count_92 : decode cX6_count 92 = .ok (.isub, 1) := by decide +kernel
theorem dX6_count_93 : decode cX6_count 93 = .ok (.ireturn, 1) := by decide +kernel
theorem dX6_count_94 : decode cX6_count 94 = .ok (.aload_n 0, 1) := by decide +kernel
theorem dX6_count_95 : decode cX6_count 95 = .ok (.getfield 7, 3) := by decide +kernel
theorem dX6_count_98 : decode cX6_count 98 = .ok (.sipush 10173, 3) := by decide +kernel
theorem dX6_count_101 : decode cX6_count 101 = .ok (.iaload, 1) := by decide +kernel
theorem dX6_count_102 : decode cX6_count 102 = .ok (.ireturn, 1) := by decide +kernel
theorem dX6_count_103 : decode cX6_count 103 = .ok (.aload_n 0, 1) := by decide +kernel
theorem dX6_count_104 : decode cX6_count 104 = .ok (.invokevirtual 156, 3) := by decide +kernel
theorem dX6_count_107 : decode cX6_count 107 = .ok (.ireturn, 1) := by decide +kernel
theorem dX6_count_108 : decode cX6_count 108 = .ok (.aload_n 0, 1) := by decide +kernel
theorem dX6_count_109 : decode cX6_count 109 = .ok (.getfield 39, 3) := by decide +kernel
theorem dX6_count_112 : decode cX6_count 112 = .ok (.ireturn, 1) := by decide +kernel
theorem dX6_count_113 : decode cX6_count 113 = .ok (.aload_n 0, 1) := by decide +kernel
theorem dX6_count_114 : decode cX6_count 114 = .ok (.getfield 102, 3) := by decide +kernel
theorem dX6_count_117 : decode cX6_count 117 = .ok (.ireturn, 1) := by decide +kernel
theorem dX6_count_118 : decode cX6_count 118 = .ok (.bipush (-2), 2) := by decide +kernel
theorem dX6_count_120 : decode cX6_count 120 = .ok (.ireturn, 1) := by decide +kernel
end
section
/-! ===== base: the surroundings of every method, contracts that read and contracts that write, call rows ===== -/
abbrev xG : Type := va_G × ClassId × ClassId × ClassId × ClassId × Nat × Nat × Nat
abbrev xcI (G : xG) : ClassId := G.2.1
abbrev xcC (G : xG) : ClassId := G.2.2.1
abbrev xcV (G : xG) : ClassId := G.2.2.2.1
abbrev xcS (G : xG) : ClassId := G.2.2.2.2.1
abbrev xaS (G : xG) : Nat := G.2.2.2.2.2.1
abbrev xtL (G : xG) : Nat := G.2.2.2.2.2.2.1
abbrev xB0 (G : xG) : Nat := G.2.2.2.2.2.2.2
abbrev xT (G : xG) : List (ClassId × FieldType) := [(xcI G, .int), (xcC G, .char), (xcV G, .object "TailVectors$View"), (xcS G, .object "TailVectors$State")]
def lvN (j : Nat) : Nat := match j with
  | 0 => 0
  | 1 => 74
  | 2 => 93
  | 3 => 98
  | 4 => 100
  | _ => 101
def lvF : Nat → Value := fun j => .int (nI (lvN j))
def xSt (G : xG) : Nat → Prop := fun q => q ≠ xaS G ∧ q ≠ xtL G
def xNf : Cond := .fieldLinkNest "TailVectors$Row" 44 "TailVectors" "LEVEL_STARTS" "[I" "TailVectors"
def xNm : Cond := .methodLinkNest "TailVectors$Row" 56 yX5_rootLevel "TailVectors"
def xE (G : xG) (U : State) : Prop := va_K G.1 vwCl (xT G) U ∧ va_Z "TailVectors" "LEVEL_STARTS" "[I" (.ref (xtL G)) (xSt G) U U.heap ∧ va_T .int (xtL G) 6 lvF (xSt G) U U.heap ∧ (xaS G < xB0 G ∧ xtL G < xB0 G ∧ xB0 G ≤ U.heap.size) ∧ va_Nw xNf U ∧ va_Nw xNm U
theorem xE.go {G : xG} {s U : State} {A : Nat → Prop} {H : Heap} {locs : List Loc} (h : xE G s) (hS : va_S A s.heap H locs) (hA : ∀ q, A q → xB0 G ≤ q) (hU : U.heap = H) (hW : s.WarmedH U.vm) : xE G U := by
  obtain ⟨h1, h2, h3, ⟨h4, h5, h6⟩, h7, h8⟩ := h
  have key : ∀ a : Nat, a < s.heap.size → ¬ xSt G a → U.heap[a]? = s.heap[a]? := by
    intro a ha hn
    rw [hU]
    apply hS.2.1 a ha
    intro hAa
    have h9 := hA a hAa
    apply hn
    constructor
    · intro e1; subst e1; omega
    · intro e2; subst e2; omega
  exact ⟨va_K.moved hW.alike h1, (va_Z.moved hW.alike h2).kept key, (va_T.moved hW.alike h3).kept key, ⟨h4, h5, by rw [hU]; exact Nat.le_trans h6 hS.1⟩, va_Nw.warmF hW h7, va_Nw.warmM hW h8⟩
theorem xE.calling {G : xG} {U : State} (h : xE G U) (a : Array Value) (g : JFrame) (mk : MethodId) : xE G (U.calling g mk a) := by
  obtain ⟨h1, h2, h3, h4, h7, h8⟩ := h
  have hal : U.vm.Alike (U.calling g mk a).vm := Vm.Alike.refl U.vm
  exact ⟨va_K.moved hal h1, va_Z.moved hal h2, va_T.moved hal h3, h4, va_Nw.same rfl rfl h7, va_Nw.same rfl rfl h8⟩
/-- a contract's start: the arguments, the surroundings, what the heap holds -/
def xPc (G : xG) (av : List Value) (Φ : Heap → Prop) : Array Value → State → Prop := fun v U => v = av.toArray ∧ xE G U ∧ Φ U.heap
theorem xPc.blind {G : xG} {av : List Value} {Φ : Heap → Prop} : FrameBlind (xPc G av Φ) := fun a U g mk h => ⟨h.1, h.2.1.calling a g mk, h.2.2⟩
/-- the end of a method that writes or makes: its answer, what the heap holds, what stayed -/
def xQ {σ : Type} (rv : σ → Option Value) (Ψ : σ → Heap → Prop) (A : Nat → Prop) : Array Value → State → Outcome → State → Prop := fun _ st o t => ∃ u : σ, o = .returned (rv u) ∧ Ψ u t.heap ∧ va_F A st t
section XB
variable {p : Program} {l : Launch} {e : Env} {R : Room} {s : State} {m : MethodId} {args : Array Value} {below : List Frame} {meth : Method} {c : Code} {H : Heap} {locs : List Loc} {cells slots : Nat} {Q : State → Prop}
variable {cc : ByteArray} {pc : Nat} {ls : Array Slot} {rest st : List Value} {G : xG} {A : Nat → Prop}
theorem xMet {y : MethodName} {ws ws' : List Cond} {rm : Room} {av : List Value} {Φ : Heap → Prop} {Qc : Array Value → State → Outcome → State → Prop} {mc ms : Nat} {free : Addr → Prop} {nL : Nat} {ret : Option FieldType} (hy : plainName y.cls = true) (hw : ws = Cond.code y cc nL ret :: ws') (hn : (lg_sl av).length ≤ nL)
    (body : ∀ (p : Program) (e : Env) (s : State) (m : MethodId) (below : List Frame) (meth : Method) (c : Code), CallFix p m c cc nL s av.toArray ws y.cls → meth.sig.returnType = ret → meth.locks = false → meth.name = y.name → xE G s → Φ s.heap → ∀ ls : Array Slot, lv_has ls nL (lv_args 0 av) → W p l e rm s m av.toArray below meth c s.heap [] 0 0 (MQ below Qc av.toArray s mc ms free) (F0 m 0 ls [])) : Met l y ws rm (xPc G av Φ) Qc mc ms free := by
  refine Met.ofW (cc := cc) (maxL := nL) (ret := ret) hy hw ?_
  intro p e s m args below meth c s₁ B hml hv
  obtain ⟨rfl, hE, hΦ⟩ := hv
  have h := body p e s m below meth c ⟨B.exec, B.bytes, hml, findClass_of_methodNamed B.named, atoms_spec (ws := ws) B.pre⟩ B.returns B.notSynchronized (name_of_methodNamed B.named B.method).1 hE hΦ _ (lv_entry av hn)
  rw [lg_entry_eq]
  exact h
/-- a call that only reads, and its one answer -/
theorem xrd {r : Value} {a : Array Value} (hr : va_Run p l e R s m args below meth c H locs cells slots 0 0 (F0 m pc ls st) rest (k2_QcV r a) (fun _ => False)) (kk : W p l e R s m args below meth c H locs cells slots Q (F0 m (pc + 3) ls (r :: rest))) : W p l e R s m args below meth c H locs cells slots Q (F0 m pc ls st) := by
  intro T hT X
  obtain ⟨v, st₀, t, T', L, h0, X', hL, e1, e2, ⟨hv, hh⟩, sg⟩ := hr T hT X
  cases hv
  obtain ⟨t2, a1, b1⟩ := kk T' (by rw [e1, hh, h0]) (Stand.forget X' (fun q h => (hL q h).elim))
  exact ⟨t2, sg t2 a1, b1⟩
/-- a call that writes or makes -/
theorem xwr {σ : Type} {rv : σ → Option Value} {Ψ : σ → Heap → Prop} {A1 : Nat → Prop} {a : Array Value} {mc ms : Nat} {free : Nat → Prop} (hr : va_Run p l e R s m args below meth c H locs cells slots mc ms (F0 m pc ls st) rest (xQ rv Ψ A1 a) free) (hS : va_S A s.heap H locs) (hA : ∀ q, A1 q → A q) (hf : ∀ q, free q → A q)
    (kk : ∀ (u : σ) (H1 : Heap) (locs1 : List Loc), Ψ u H1 → H.size ≤ H1.size → (∀ q : Nat, q < H.size → ¬ A1 q → H1[q]? = H[q]?) → va_S A s.heap H1 locs1 → W p l e R s m args below meth c H1 locs1 (cells + mc) (slots + ms) Q (F0 m (pc + 3) ls ((rv u).toList ++ rest))) : W p l e R s m args below meth c H locs cells slots Q (F0 m pc ls st) := by
  intro T hT X
  obtain ⟨v, st₀, t, T', L, h0, X', hL, e1, e2, ⟨u, hv, hp, hz, hk⟩, sg⟩ := hr T hT X
  cases hv
  rw [h0] at hz hk
  rw [← e1] at hz hk hp
  obtain ⟨t2, a1, b1⟩ := kk u T'.heap (locs ++ L) hp hz hk
    ⟨Nat.le_trans hS.1 hz, fun q h1 h2 => by rw [hk q (Nat.lt_of_lt_of_le h1 hS.1) (fun z => h2 (hA q z))]; exact hS.2.1 q h1 h2, fun q hq => by
      rcases List.mem_append.mp hq with h | h
      · exact hS.2.2 q h
      · exact hf _ (hL q h)⟩ T' rfl X'
  exact ⟨t2, sg t2 a1, b1⟩
variable {y : MethodName} {bytes : ByteArray} {maxL nL mc ms n index : Nat} {ret : Option FieldType} {ws : List Cond} {rm : Room} {Qc : Array Value → State → Outcome → State → Prop} {free : Addr → Prop} {Ts : List Cond} {own C : String} {b : Addr} {As : List Value} {Φ : Heap → Prop}
theorem xrunV (S : CallFix p m c cc nL s args Ts own) (hM : Met l y ws rm (xPc G (.ref b :: As) Φ) Qc mc ms free) (cw : CallW R s args own C index y bytes maxL ret ws rm mc ms n) (hE : xE G s) (hS : va_S A s.heap H locs) (hA : ∀ q, A q → xB0 G ≤ q) {wr : va_W} (q0 ci : Nat) {q : vw_C} {fs : List Value} (hP : va_P G.1 vwCl wr H) (he : wr[q0]? = some (b, .inr (ci, fs))) (hc : vwCl[ci]? = some q) (hC : q.1 = C) (hΦ : Φ H)
    (hst : st = As.reverse ++ .ref b :: rest) (hn : As.length = n) (hl : ls.size = nL) (hW : (rest.map fun v => v.category).sum ≤ 8) (hdg : decode cc pc = .ok (.invokevirtual index, 3)) (hf : cells + mc ≤ R.cells ∧ slots + ms ≤ R.slots) : va_Run p l e R s m args below meth c H locs cells slots mc ms (F0 m pc ls st) rest (Qc (Value.ref b :: As).toArray) free :=
  va_runV S hM cw ⟨xPc.blind, by subst hC; exact va_recv hE.1 hP hc he, fun U hU hW => ⟨rfl, hE.go hS hA hU hW, by rw [hU]; exact hΦ⟩⟩ rfl hn hl hst (lv_room hW) hdg hf
theorem xrunS (S : CallFix p m c cc nL s args Ts own) (hM : Met l y ws rm (xPc G As Φ) Qc mc ms free) (cw : CallB R s args own index y bytes maxL ret ws rm mc ms n ∧ (Cond.static y).before args s = true) (hE : xE G s) (hS : va_S A s.heap H locs) (hA : ∀ q, A q → xB0 G ≤ q) (hΦ : Φ H)
    (hst : st = As.reverse ++ rest) (hn : As.length = n) (hl : ls.size = nL) (hW : (rest.map fun v => v.category).sum ≤ 8) (hdg : decode cc pc = .ok (.invokestatic index, 3)) (hf : cells + mc ≤ R.cells ∧ slots + ms ≤ R.slots) : va_Run p l e R s m args below meth c H locs cells slots mc ms (F0 m pc ls st) rest (Qc As.toArray) free :=
  va_runS S hM cw ⟨xPc.blind, fun U hU hW => ⟨rfl, hE.go hS hA hU hW, by rw [hU]; exact hΦ⟩⟩ rfl hn hl hst (lv_room hW) hdg hf
theorem xrunSN {host : String} (S : CallFix p m c cc nL s args Ts own) (hM : Met l y ws rm (xPc G As Φ) Qc mc ms free) (cw : va_CN R s args own index y host bytes maxL ret ws rm mc ms n ∧ (Cond.static y).before args s = true ∧ True) (hE : xE G s) (hS : va_S A s.heap H locs) (hA : ∀ q, A q → xB0 G ≤ q) (hΦ : Φ H)
    (hst : st = As.reverse ++ rest) (hn : As.length = n) (hl : ls.size = nL) (hW : (rest.map fun v => v.category).sum ≤ 8) (hdg : decode cc pc = .ok (.invokestatic index, 3)) (hf : cells + mc ≤ R.cells ∧ slots + ms ≤ R.slots) : va_Run p l e R s m args below meth c H locs cells slots mc ms (F0 m pc ls st) rest (Qc As.toArray) free :=
  va_runSN S hM cw ⟨xPc.blind, fun U hU hW => ⟨rfl, hE.go hS hA hU hW, by rw [hU]; exact hΦ⟩⟩ rfl hn hl hst (lv_room hW) hdg hf
theorem xrunI (S : CallFix p m c cc nL s args Ts own) (hM : Met l y ws rm (xPc G (.ref b :: As) Φ) Qc mc ms free) (cw : CallB R s args own index y bytes maxL none ws rm mc ms n ∧ y.name = "<init>" ∧ (Cond.instanceMethod y).before args s = true) (hE : xE G s) (hS : va_S A s.heap H locs) (hA : ∀ q, A q → xB0 G ≤ q) (hΦ : Φ H)
    (hst : st = As.reverse ++ .ref b :: rest) (hn : As.length = n) (hl : ls.size = nL) (hW : (rest.map fun v => v.category).sum ≤ 8) (hdg : decode cc pc = .ok (.invokespecial index, 3)) (hf : cells + mc ≤ R.cells ∧ slots + ms ≤ R.slots) : va_Run p l e R s m args below meth c H locs cells slots mc ms (F0 m pc ls st) rest (Qc (Value.ref b :: As).toArray) free :=
  va_runI S hM cw ⟨xPc.blind, fun U hU hW => ⟨rfl, hE.go hS hA hU hW, by rw [hU]; exact hΦ⟩⟩ rfl hn hl hst (lv_room hW) hdg hf
/-- the ends of a method that only reads -/
theorem xret_i {v r : Int32} (hx : p.tables.exec = Jvm.exec) (hb : c.code = cc) (hr : meth.sig.returnType = some .int) (hk : meth.locks = false) (hdg : decode cc pc = .ok (.ireturn, 1)) (hv : v = r) : W p l e R s m args below meth c s.heap [] 0 0 (MQ below (k2_QcV (.int r)) args s 0 0 (fun _ => False)) (F0 m pc ls [.int v]) := by
  subst hv
  exact W.iret hx hb hr (fun t ht _ => ⟨rfl, ht⟩) (fun q h => by cases h) hdg hk
theorem xret_z {v r : Int32} (hx : p.tables.exec = Jvm.exec) (hb : c.code = cc) (hr : meth.sig.returnType = some .boolean) (hk : meth.locks = false) (hdg : decode cc pc = .ok (.ireturn, 1)) (h01 : v = 0 ∨ v = 1) (hv : v = r) : W p l e R s m args below meth c s.heap [] 0 0 (MQ below (k2_QcV (.int r)) args s 0 0 (fun _ => False)) (F0 m pc ls [.int v]) := by
  subst hv
  exact W.zret (ty := .boolean) hx hb hr (by rcases h01 with h | h <;> subst h <;> rfl) (fun t ht _ => ⟨rfl, ht⟩) (fun q h => by cases h) hdg hk
theorem xret_c {v r : Int32} (hx : p.tables.exec = Jvm.exec) (hb : c.code = cc) (hr : meth.sig.returnType = some .char) (hk : meth.locks = false) (hdg : decode cc pc = .ok (.ireturn, 1)) (hn : narrow .char (.int v) = .int v) (hv : v = r) : W p l e R s m args below meth c s.heap [] 0 0 (MQ below (k2_QcV (.int r)) args s 0 0 (fun _ => False)) (F0 m pc ls [.int v]) := by
  subst hv
  exact W.zret (ty := .char) hx hb hr hn (fun t ht _ => ⟨rfl, ht⟩) (fun q h => by cases h) hdg hk
theorem xret_a {v r : Value} {n : String} (hx : p.tables.exec = Jvm.exec) (hb : c.code = cc) (hr : meth.sig.returnType = some (.object n)) (hk : meth.locks = false) (hdg : decode cc pc = .ok (.areturn, 1)) (hn : v = .null ∨ ∃ a, v = .ref a) (hv : v = r) : W p l e R s m args below meth c s.heap [] 0 0 (MQ below (k2_QcV r) args s 0 0 (fun _ => False)) (F0 m pc ls [v]) := by
  subst hv
  exact W.aret hx hb hr (Or.inl ⟨n, rfl⟩) hn (fun t ht _ => ⟨rfl, ht⟩) (fun q h => by cases h) hdg hk
variable {σ : Type} {rv : σ → Option Value} {Ψ : σ → Heap → Prop}
/-- the ends of a method that writes or makes -/
theorem xend_i {v : Int32} (u : σ) (hx : p.tables.exec = Jvm.exec) (hb : c.code = cc) (hr : meth.sig.returnType = some .int) (hk : meth.locks = false) (hS : va_S A s.heap H locs) (hA : ∀ q, A q → free q) (hdg : decode cc pc = .ok (.ireturn, 1)) (hv : rv u = some (.int v)) (hΨ : Ψ u H) (hc : cells ≤ mc) (hs : slots ≤ ms) : W p l e R s m args below meth c H locs cells slots (MQ below (xQ rv Ψ A) args s mc ms free) (F0 m pc ls [.int v]) :=
  W.widen hc hs (W.iret hx hb hr (fun t ht _ => ⟨u, by rw [hv], by rw [ht]; exact hΨ, hS.F ht⟩) (fun q h => hA _ (hS.2.2 q h)) hdg hk)
theorem xend_z {v : Int32} (u : σ) (hx : p.tables.exec = Jvm.exec) (hb : c.code = cc) (hr : meth.sig.returnType = some .boolean) (hk : meth.locks = false) (hS : va_S A s.heap H locs) (hA : ∀ q, A q → free q) (hdg : decode cc pc = .ok (.ireturn, 1)) (h01 : v = 0 ∨ v = 1) (hv : rv u = some (.int v)) (hΨ : Ψ u H) (hc : cells ≤ mc) (hs : slots ≤ ms) : W p l e R s m args below meth c H locs cells slots (MQ below (xQ rv Ψ A) args s mc ms free) (F0 m pc ls [.int v]) :=
  W.widen hc hs (W.zret (ty := .boolean) hx hb hr (by rcases h01 with h | h <;> subst h <;> rfl) (fun t ht _ => ⟨u, by rw [hv], by rw [ht]; exact hΨ, hS.F ht⟩) (fun q h => hA _ (hS.2.2 q h)) hdg hk)
theorem xend_v (u : σ) (hx : p.tables.exec = Jvm.exec) (hb : c.code = cc) (hr : meth.sig.returnType = none) (hk : meth.locks = false) (hS : va_S A s.heap H locs) (hA : ∀ q, A q → free q) (hdg : decode cc pc = .ok (.return_, 1)) (hv : rv u = none) (hΨ : Ψ u H) (hc : cells ≤ mc) (hs : slots ≤ ms) : W p l e R s m args below meth c H locs cells slots (MQ below (xQ rv Ψ A) args s mc ms free) (F0 m pc ls []) :=
  W.widen hc hs (W.vret hx hb hr (fun t ht _ => ⟨u, by rw [hv], by rw [ht]; exact hΨ, hS.F ht⟩) (fun q h => hA _ (hS.2.2 q h)) hdg hk)
theorem xend_a {a : Nat} {rt : FieldType} (u : σ) (hx : p.tables.exec = Jvm.exec) (hb : c.code = cc) (hr : meth.sig.returnType = some rt) (hrt : (∃ n, rt = .object n) ∨ ∃ t, rt = .array t) (hk : meth.locks = false) (hS : va_S A s.heap H locs) (hA : ∀ q, A q → free q) (hdg : decode cc pc = .ok (.areturn, 1)) (hv : rv u = some (.ref a)) (hΨ : Ψ u H) (hc : cells ≤ mc) (hs : slots ≤ ms) : W p l e R s m args below meth c H locs cells slots (MQ below (xQ rv Ψ A) args s mc ms free) (F0 m pc ls [.ref a]) :=
  W.widen hc hs (W.aret hx hb hr hrt (Or.inr ⟨a, rfl⟩) (fun t ht _ => ⟨u, by rw [hv], by rw [ht]; exact hΨ, hS.F ht⟩) (fun q h => hA _ (hS.2.2 q h)) hdg hk)
end XB
end
section
/-! ===== rows over small numbers: nI a ===== -/
def updN (f : Nat → Nat) (k v : Nat) : Nat → Nat := fun j => if j = k then v else f j
noncomputable def bI (P : Prop) : Int32 := @ite _ P (Classical.propDecidable P) 1 0
noncomputable def bN (P : Prop) : Nat := @ite _ P (Classical.propDecidable P) 1 0
theorem bI_t {P : Prop} (h : P) : bI P = 1 := by unfold bI; exact if_pos h
theorem bI_f {P : Prop} (h : ¬ P) : bI P = 0 := by unfold bI; exact if_neg h
theorem bN_t {P : Prop} (h : P) : bN P = 1 := by unfold bN; exact if_pos h
theorem bN_f {P : Prop} (h : ¬ P) : bN P = 0 := by unfold bN; exact if_neg h
theorem xb1 {P : Prop} (h : P) : nI 1 = bI P := (bI_t h).symm
theorem xb0 {P : Prop} (h : ¬ P) : nI 0 = bI P := (bI_f h).symm
theorem bI_iff {P R : Prop} (h : P ↔ R) : bI P = bI R := by rw [propext h]
theorem bI_01 (P : Prop) : bI P = 0 ∨ bI P = 1 := (Classical.em P).elim (fun h => Or.inr (bI_t h)) (fun h => Or.inl (bI_f h))
def nf (f : Nat → Nat) : Nat → Int32 := fun j => nI (f j)
theorem updN_s {f : Nat → Nat} {k v : Nat} : updN f k v k = v := if_pos rfl
theorem updN_n {f : Nat → Nat} {k v j : Nat} (h : j ≠ k) : updN f k v j = f j := if_neg h
theorem updN_lt {f : Nat → Nat} {k v B : Nat} (h : ∀ j, f j < B) (hv : v < B) (j : Nat) : updN f k v j < B := by
  unfold updN
  split
  · exact hv
  · exact h j
theorem upd_nf (f : Nat → Nat) (k v : Nat) (hk : k < 2 ^ 31) : upd (nf f) (nI k).toNatClampNeg (nI v) = nf (updN f k v) := by
  funext j
  rw [nI_clamp hk]
  by_cases h : j = k
  · subst h; simp [upd, nf, updN]
  · simp [upd, nf, updN, h]
theorem nI_sub {a b : Nat} (h : b ≤ a) : nI a - nI b = nI (a - b) := pk_sub h
theorem nI_ne {a : Nat} (ha : a < 2 ^ 31) (h : a ≠ 0) : ¬ nI a = 0 := by
  intro q
  have : nI a = nI 0 := q
  exact h ((nI_eq ha (by decide)).mp this)
theorem nI_and31 : ∀ k, k < 32 → nI k &&& 31 = nI k := by decide +kernel
section XN
variable {p : Program} {l : Launch} {e : Env} {R : Room} {s : State} {m : MethodId} {args : Array Value} {below : List Frame} {meth : Method} {c : Code} {H : Heap} {locs : List Loc} {cells slots : Nat} {Q : State → Prop}
variable {cc : ByteArray} {pc : Nat} {ls : Array Slot} {rest : List Value}

theorem n_top {x y : Int32} (h : x = y) (k : W p l e R s m args below meth c H locs cells slots Q (F0 m (pc) ls (.int y :: rest))) : W p l e R s m args below meth c H locs cells slots Q (F0 m (pc) ls (.int x :: rest)) := by subst h; exact k
theorem n_top2 {x y : Int32} {z : Value} (h : x = y) (k : W p l e R s m args below meth c H locs cells slots Q (F0 m (pc) ls (z :: .int y :: rest))) : W p l e R s m args below meth c H locs cells slots Q (F0 m (pc) ls (z :: .int x :: rest)) := by subst h; exact k
theorem n_iadd (hx : p.tables.exec = Jvm.exec) (hb : c.code = cc) {a b : Nat} (hdg : decode cc pc = .ok (.iadd, 1)) (k : W p l e R s m args below meth c H locs cells slots Q (F0 m (pc + 1) ls (.int (nI (a + b)) :: rest))) : W p l e R s m args below meth c H locs cells slots Q (F0 m (pc) ls (.int (nI b) :: .int (nI a) :: rest)) := lv_iadd hx hb hdg (n_top (nI_add a b) k)
theorem n_isub (hx : p.tables.exec = Jvm.exec) (hb : c.code = cc) {a b : Nat} (h : b ≤ a) (hdg : decode cc pc = .ok (.isub, 1)) (k : W p l e R s m args below meth c H locs cells slots Q (F0 m (pc + 1) ls (.int (nI (a - b)) :: rest))) : W p l e R s m args below meth c H locs cells slots Q (F0 m (pc) ls (.int (nI b) :: .int (nI a) :: rest)) := lv_isub hx hb hdg (n_top (nI_sub h) k)
theorem n_imul (hx : p.tables.exec = Jvm.exec) (hb : c.code = cc) {a b : Nat} (hdg : decode cc pc = .ok (.imul, 1)) (k : W p l e R s m args below meth c H locs cells slots Q (F0 m (pc + 1) ls (.int (nI (a * b)) :: rest))) : W p l e R s m args below meth c H locs cells slots Q (F0 m (pc) ls (.int (nI b) :: .int (nI a) :: rest)) := lv_imul hx hb hdg (n_top (pk_mul a b) k)
theorem n_idiv (hx : p.tables.exec = Jvm.exec) (hb : c.code = cc) {a b : Nat} (ha : a < 2 ^ 31) (h0 : 0 < b) (hb2 : b < 2 ^ 31) (hdg : decode cc pc = .ok (.idiv, 1)) (k : W p l e R s m args below meth c H locs cells slots Q (F0 m (pc + 1) ls (.int (nI (a / b)) :: rest))) : W p l e R s m args below meth c H locs cells slots Q (F0 m (pc) ls (.int (nI b) :: .int (nI a) :: rest)) := lv_idiv hx hb hdg (nI_ne hb2 (by omega)) (n_top (pk_div ha h0 hb2) k)
theorem n_irem (hx : p.tables.exec = Jvm.exec) (hb : c.code = cc) {a b : Nat} (ha : a < 2 ^ 31) (h0 : 0 < b) (hb2 : b < 2 ^ 31) (hdg : decode cc pc = .ok (.irem, 1)) (k : W p l e R s m args below meth c H locs cells slots Q (F0 m (pc + 1) ls (.int (nI (a % b)) :: rest))) : W p l e R s m args below meth c H locs cells slots Q (F0 m (pc) ls (.int (nI b) :: .int (nI a) :: rest)) := lv_irem hx hb hdg (nI_ne hb2 (by omega)) (n_top (pk_rem ha h0 hb2) k)
theorem nI_shl {a b : Nat} (hb2 : b < 32) (h : a * 2 ^ b < 2 ^ 32) : nI a <<< (nI b &&& 31) = nI (a * 2 ^ b) := by
  rw [nI_and31 b hb2]
  refine pk_shlN _ b ?_ h
  have : ∀ k, k < 32 → ((nI k).toBitVec.smod 32).toNat = k := by decide +kernel
  exact this b hb2
theorem nI_shr {a b : Nat} (hb2 : b < 32) (h : a < 2 ^ 31) : nI a >>> (nI b &&& 31) = nI (a / 2 ^ b) := by
  rw [nI_and31 b hb2]
  refine pk_shrN h _ b ?_
  have : ∀ k, k < 32 → ((nI k).toBitVec.smod 32).toNat = k := by decide +kernel
  exact this b hb2
theorem n_ishl (hx : p.tables.exec = Jvm.exec) (hb : c.code = cc) {a b : Nat} (h1 : b < 32) (h2 : a * 2 ^ b < 2 ^ 32) (hdg : decode cc pc = .ok (.ishl, 1)) (k : W p l e R s m args below meth c H locs cells slots Q (F0 m (pc + 1) ls (.int (nI (a * 2 ^ b)) :: rest))) : W p l e R s m args below meth c H locs cells slots Q (F0 m (pc) ls (.int (nI b) :: .int (nI a) :: rest)) := lv_ishl hx hb hdg (n_top (nI_shl h1 h2) k)
theorem n_ishr (hx : p.tables.exec = Jvm.exec) (hb : c.code = cc) {a b : Nat} (h1 : b < 32) (h2 : a < 2 ^ 31) (hdg : decode cc pc = .ok (.ishr, 1)) (k : W p l e R s m args below meth c H locs cells slots Q (F0 m (pc + 1) ls (.int (nI (a / 2 ^ b)) :: rest))) : W p l e R s m args below meth c H locs cells slots Q (F0 m (pc) ls (.int (nI b) :: .int (nI a) :: rest)) := lv_ishr hx hb hdg (n_top (nI_shr h1 h2) k)
theorem n_icmp_lt (hx : p.tables.exec = Jvm.exec) (hb : c.code = cc) {a b : Nat} {off : Int} {tgt : Nat} (ha : a < 2 ^ 31) (h2 : b < 2 ^ 31) (hdg : decode cc pc = .ok (.if_icmp .lt off, 3)) (ht : (pc : Int) + off = (tgt : Int)) (kt : a < b → W p l e R s m args below meth c H locs cells slots Q (F0 m (tgt) ls (rest))) (kf : b ≤ a → W p l e R s m args below meth c H locs cells slots Q (F0 m (pc + 3) ls (rest))) : W p l e R s m args below meth c H locs cells slots Q (F0 m (pc) ls (.int (nI b) :: .int (nI a) :: rest)) :=
  lv_icmp_lt hx hb hdg ht (fun h => kt ((nI_ltI ha h2).mp h)) (fun h => kf (Nat.not_lt.mp (fun q => h ((nI_ltI ha h2).mpr q))))
theorem n_if_lt (hx : p.tables.exec = Jvm.exec) (hb : c.code = cc) {a : Nat} {off : Int} {tgt : Nat} (ha : a < 2 ^ 31) (hdg : decode cc pc = .ok (.ifCond .lt off, 3)) (ht : (pc : Int) + off = (tgt : Int)) (kt : a < 0 → W p l e R s m args below meth c H locs cells slots Q (F0 m (tgt) ls (rest))) (kf : 0 ≤ a → W p l e R s m args below meth c H locs cells slots Q (F0 m (pc + 3) ls (rest))) : W p l e R s m args below meth c H locs cells slots Q (F0 m (pc) ls (.int (nI a) :: rest)) :=
  lv_if_lt hx hb hdg ht (fun h => kt (by have h : nI a < nI 0 := h; exact (nI_ltI ha (show (0 : Nat) < 2 ^ 31 by decide)).mp h)) (fun h => kf (by have h : ¬ nI a < nI 0 := h; exact Nat.not_lt.mp (fun q => h ((nI_ltI ha (show (0 : Nat) < 2 ^ 31 by decide)).mpr q))))
theorem n_icmp_ge (hx : p.tables.exec = Jvm.exec) (hb : c.code = cc) {a b : Nat} {off : Int} {tgt : Nat} (ha : a < 2 ^ 31) (h2 : b < 2 ^ 31) (hdg : decode cc pc = .ok (.if_icmp .ge off, 3)) (ht : (pc : Int) + off = (tgt : Int)) (kt : b ≤ a → W p l e R s m args below meth c H locs cells slots Q (F0 m (tgt) ls (rest))) (kf : a < b → W p l e R s m args below meth c H locs cells slots Q (F0 m (pc + 3) ls (rest))) : W p l e R s m args below meth c H locs cells slots Q (F0 m (pc) ls (.int (nI b) :: .int (nI a) :: rest)) :=
  lv_icmp_ge hx hb hdg ht (fun h => kt ((nI_leI h2 ha).mp h)) (fun h => kf (Nat.not_le.mp (fun q => h ((nI_leI h2 ha).mpr q))))
theorem n_if_ge (hx : p.tables.exec = Jvm.exec) (hb : c.code = cc) {a : Nat} {off : Int} {tgt : Nat} (ha : a < 2 ^ 31) (hdg : decode cc pc = .ok (.ifCond .ge off, 3)) (ht : (pc : Int) + off = (tgt : Int)) (kt : 0 ≤ a → W p l e R s m args below meth c H locs cells slots Q (F0 m (tgt) ls (rest))) (kf : a < 0 → W p l e R s m args below meth c H locs cells slots Q (F0 m (pc + 3) ls (rest))) : W p l e R s m args below meth c H locs cells slots Q (F0 m (pc) ls (.int (nI a) :: rest)) :=
  lv_if_ge hx hb hdg ht (fun h => kt (by have h : nI 0 ≤ nI a := h; exact (nI_leI (show (0 : Nat) < 2 ^ 31 by decide) ha).mp h)) (fun h => kf (by have h : ¬ nI 0 ≤ nI a := h; exact Nat.not_le.mp (fun q => h ((nI_leI (show (0 : Nat) < 2 ^ 31 by decide) ha).mpr q))))
theorem n_icmp_gt (hx : p.tables.exec = Jvm.exec) (hb : c.code = cc) {a b : Nat} {off : Int} {tgt : Nat} (ha : a < 2 ^ 31) (h2 : b < 2 ^ 31) (hdg : decode cc pc = .ok (.if_icmp .gt off, 3)) (ht : (pc : Int) + off = (tgt : Int)) (kt : b < a → W p l e R s m args below meth c H locs cells slots Q (F0 m (tgt) ls (rest))) (kf : a ≤ b → W p l e R s m args below meth c H locs cells slots Q (F0 m (pc + 3) ls (rest))) : W p l e R s m args below meth c H locs cells slots Q (F0 m (pc) ls (.int (nI b) :: .int (nI a) :: rest)) :=
  lv_icmp_gt hx hb hdg ht (fun h => kt ((nI_ltI h2 ha).mp h)) (fun h => kf (Nat.not_lt.mp (fun q => h ((nI_ltI h2 ha).mpr q))))
theorem n_if_gt (hx : p.tables.exec = Jvm.exec) (hb : c.code = cc) {a : Nat} {off : Int} {tgt : Nat} (ha : a < 2 ^ 31) (hdg : decode cc pc = .ok (.ifCond .gt off, 3)) (ht : (pc : Int) + off = (tgt : Int)) (kt : 0 < a → W p l e R s m args below meth c H locs cells slots Q (F0 m (tgt) ls (rest))) (kf : a ≤ 0 → W p l e R s m args below meth c H locs cells slots Q (F0 m (pc + 3) ls (rest))) : W p l e R s m args below meth c H locs cells slots Q (F0 m (pc) ls (.int (nI a) :: rest)) :=
  lv_if_gt hx hb hdg ht (fun h => kt (by have h : nI 0 < nI a := h; exact (nI_ltI (show (0 : Nat) < 2 ^ 31 by decide) ha).mp h)) (fun h => kf (by have h : ¬ nI 0 < nI a := h; exact Nat.not_lt.mp (fun q => h ((nI_ltI (show (0 : Nat) < 2 ^ 31 by decide) ha).mpr q))))
theorem n_icmp_le (hx : p.tables.exec = Jvm.exec) (hb : c.code = cc) {a b : Nat} {off : Int} {tgt : Nat} (ha : a < 2 ^ 31) (h2 : b < 2 ^ 31) (hdg : decode cc pc = .ok (.if_icmp .le off, 3)) (ht : (pc : Int) + off = (tgt : Int)) (kt : a ≤ b → W p l e R s m args below meth c H locs cells slots Q (F0 m (tgt) ls (rest))) (kf : b < a → W p l e R s m args below meth c H locs cells slots Q (F0 m (pc + 3) ls (rest))) : W p l e R s m args below meth c H locs cells slots Q (F0 m (pc) ls (.int (nI b) :: .int (nI a) :: rest)) :=
  lv_icmp_le hx hb hdg ht (fun h => kt ((nI_leI ha h2).mp h)) (fun h => kf (Nat.not_le.mp (fun q => h ((nI_leI ha h2).mpr q))))
theorem n_if_le (hx : p.tables.exec = Jvm.exec) (hb : c.code = cc) {a : Nat} {off : Int} {tgt : Nat} (ha : a < 2 ^ 31) (hdg : decode cc pc = .ok (.ifCond .le off, 3)) (ht : (pc : Int) + off = (tgt : Int)) (kt : a ≤ 0 → W p l e R s m args below meth c H locs cells slots Q (F0 m (tgt) ls (rest))) (kf : 0 < a → W p l e R s m args below meth c H locs cells slots Q (F0 m (pc + 3) ls (rest))) : W p l e R s m args below meth c H locs cells slots Q (F0 m (pc) ls (.int (nI a) :: rest)) :=
  lv_if_le hx hb hdg ht (fun h => kt (by have h : nI a ≤ nI 0 := h; exact (nI_leI ha (show (0 : Nat) < 2 ^ 31 by decide)).mp h)) (fun h => kf (by have h : ¬ nI a ≤ nI 0 := h; exact Nat.not_le.mp (fun q => h ((nI_leI ha (show (0 : Nat) < 2 ^ 31 by decide)).mpr q))))
theorem n_icmp_eq (hx : p.tables.exec = Jvm.exec) (hb : c.code = cc) {a b : Nat} {off : Int} {tgt : Nat} (ha : a < 2 ^ 31) (h2 : b < 2 ^ 31) (hdg : decode cc pc = .ok (.if_icmp .eq off, 3)) (ht : (pc : Int) + off = (tgt : Int)) (kt : a = b → W p l e R s m args below meth c H locs cells slots Q (F0 m (tgt) ls (rest))) (kf : a ≠ b → W p l e R s m args below meth c H locs cells slots Q (F0 m (pc + 3) ls (rest))) : W p l e R s m args below meth c H locs cells slots Q (F0 m (pc) ls (.int (nI b) :: .int (nI a) :: rest)) :=
  lv_icmp_eq hx hb hdg ht (fun h => kt ((nI_eq ha h2).mp h)) (fun h => kf (fun q => h (by rw [q])))
theorem n_if_eq (hx : p.tables.exec = Jvm.exec) (hb : c.code = cc) {a : Nat} {off : Int} {tgt : Nat} (ha : a < 2 ^ 31) (hdg : decode cc pc = .ok (.ifCond .eq off, 3)) (ht : (pc : Int) + off = (tgt : Int)) (kt : a = 0 → W p l e R s m args below meth c H locs cells slots Q (F0 m (tgt) ls (rest))) (kf : a ≠ 0 → W p l e R s m args below meth c H locs cells slots Q (F0 m (pc + 3) ls (rest))) : W p l e R s m args below meth c H locs cells slots Q (F0 m (pc) ls (.int (nI a) :: rest)) :=
  lv_if_eq hx hb hdg ht (fun h => kt (by have h : nI a = nI 0 := h; exact (nI_eq ha (show (0 : Nat) < 2 ^ 31 by decide)).mp h)) (fun h => kf (by have h : ¬ nI a = nI 0 := h; exact fun q => h (by rw [q])))
theorem n_icmp_ne (hx : p.tables.exec = Jvm.exec) (hb : c.code = cc) {a b : Nat} {off : Int} {tgt : Nat} (ha : a < 2 ^ 31) (h2 : b < 2 ^ 31) (hdg : decode cc pc = .ok (.if_icmp .ne off, 3)) (ht : (pc : Int) + off = (tgt : Int)) (kt : a ≠ b → W p l e R s m args below meth c H locs cells slots Q (F0 m (tgt) ls (rest))) (kf : a = b → W p l e R s m args below meth c H locs cells slots Q (F0 m (pc + 3) ls (rest))) : W p l e R s m args below meth c H locs cells slots Q (F0 m (pc) ls (.int (nI b) :: .int (nI a) :: rest)) :=
  lv_icmp_ne hx hb hdg ht (fun h => kt (fun q => h (by rw [q]))) (fun h => kf ((nI_eq ha h2).mp h))
theorem n_if_ne (hx : p.tables.exec = Jvm.exec) (hb : c.code = cc) {a : Nat} {off : Int} {tgt : Nat} (ha : a < 2 ^ 31) (hdg : decode cc pc = .ok (.ifCond .ne off, 3)) (ht : (pc : Int) + off = (tgt : Int)) (kt : a ≠ 0 → W p l e R s m args below meth c H locs cells slots Q (F0 m (tgt) ls (rest))) (kf : a = 0 → W p l e R s m args below meth c H locs cells slots Q (F0 m (pc + 3) ls (rest))) : W p l e R s m args below meth c H locs cells slots Q (F0 m (pc) ls (.int (nI a) :: rest)) :=
  lv_if_ne hx hb hdg ht (fun h => kt (by have h : ¬ nI a = nI 0 := h; exact fun q => h (by rw [q]))) (fun h => kf (by have h : nI a = nI 0 := h; exact (nI_eq ha (show (0 : Nat) < 2 ^ 31 by decide)).mp h))
variable {D : va_G} {cl : List vw_C} {tys : List (ClassId × FieldType)} {ws : va_W} {A : Nat → Prop} {H0 : Heap} {a : Nat}
theorem i_iald (hx : p.tables.exec = Jvm.exec) (hb : c.code = cc) (hK : va_K D cl tys s) (hP : va_P D cl ws H) (q0 t0 : Nat) {cA : ClassId} {n : Nat} {f : Nat → Int32} {k : Nat} (ha : ws[q0]? = some (a, .inl (cA, n, .inl f))) (ht : tys[t0]? = some (cA, .int)) (hk : k < n) (hn : n < 2 ^ 31) (hdg : decode cc pc = .ok (.iaload, 1)) (kk : W p l e R s m args below meth c H locs cells slots Q (F0 m (pc + 1) ls (.int (f k) :: rest))) : W p l e R s m args below meth c H locs cells slots Q (F0 m (pc) ls (.int (nI k) :: .ref a :: rest)) := by
  refine va_iald hx hb hK hP q0 t0 ha ht (vp_in_nI hk hn) hdg ?_
  rw [nI_clamp (Nat.lt_trans hk hn)]
  exact kk
theorem n_iald (hx : p.tables.exec = Jvm.exec) (hb : c.code = cc) (hK : va_K D cl tys s) (hP : va_P D cl ws H) (q0 t0 : Nat) {cA : ClassId} {n : Nat} {f : Nat → Nat} {k : Nat} (ha : ws[q0]? = some (a, .inl (cA, n, .inl (nf f)))) (ht : tys[t0]? = some (cA, .int)) (hk : k < n) (hn : n < 2 ^ 31) (hdg : decode cc pc = .ok (.iaload, 1)) (kk : W p l e R s m args below meth c H locs cells slots Q (F0 m (pc + 1) ls (.int (nI (f k)) :: rest))) : W p l e R s m args below meth c H locs cells slots Q (F0 m (pc) ls (.int (nI k) :: .ref a :: rest)) := i_iald hx hb hK hP q0 t0 ha ht hk hn hdg kk
theorem i_cald (hx : p.tables.exec = Jvm.exec) (hb : c.code = cc) (hK : va_K D cl tys s) (hP : va_P D cl ws H) (q0 t0 : Nat) {cA : ClassId} {n : Nat} {f : Nat → Int32} {k : Nat} (ha : ws[q0]? = some (a, .inl (cA, n, .inl f))) (ht : tys[t0]? = some (cA, .char)) (hk : k < n) (hn : n < 2 ^ 31) (hdg : decode cc pc = .ok (.caload, 1)) (kk : W p l e R s m args below meth c H locs cells slots Q (F0 m (pc + 1) ls (.int (f k) :: rest))) : W p l e R s m args below meth c H locs cells slots Q (F0 m (pc) ls (.int (nI k) :: .ref a :: rest)) := by
  refine va_cald hx hb hK hP q0 t0 ha ht (vp_in_nI hk hn) hdg ?_
  rw [nI_clamp (Nat.lt_trans hk hn)]
  exact kk
theorem n_cald (hx : p.tables.exec = Jvm.exec) (hb : c.code = cc) (hK : va_K D cl tys s) (hP : va_P D cl ws H) (q0 t0 : Nat) {cA : ClassId} {n : Nat} {f : Nat → Nat} {k : Nat} (ha : ws[q0]? = some (a, .inl (cA, n, .inl (nf f)))) (ht : tys[t0]? = some (cA, .char)) (hk : k < n) (hn : n < 2 ^ 31) (hdg : decode cc pc = .ok (.caload, 1)) (kk : W p l e R s m args below meth c H locs cells slots Q (F0 m (pc + 1) ls (.int (nI (f k)) :: rest))) : W p l e R s m args below meth c H locs cells slots Q (F0 m (pc) ls (.int (nI k) :: .ref a :: rest)) := i_cald hx hb hK hP q0 t0 ha ht hk hn hdg kk
theorem i_iast (hx : p.tables.exec = Jvm.exec) (hb : c.code = cc) (hK : va_K D cl tys s) (hP : va_P D cl ws H) (hD : va_D A ws) (hS : va_S A H0 H locs) (q0 t0 : Nat) {cA : ClassId} {n : Nat} {f : Nat → Int32} {k : Nat} {x : Int32} (ha : ws[q0]? = some (a, .inl (cA, n, .inl f))) (ht : tys[t0]? = some (cA, .int)) (hk : k < n) (hn : n < 2 ^ 31) (hdg : decode cc pc = .ok (.iastore, 1)) (kk : ∀ (H1 : Heap) (locs1 : List Loc), va_P D cl (ws.set q0 (a, .inl (cA, n, .inl (upd f k x)))) H1 → va_D A (ws.set q0 (a, .inl (cA, n, .inl (upd f k x)))) → va_S A H0 H1 locs1 → W p l e R s m args below meth c H1 locs1 cells slots Q (F0 m (pc + 1) ls (rest))) : W p l e R s m args below meth c H locs cells slots Q (F0 m (pc) ls (.int x :: .int (nI k) :: .ref a :: rest)) := by
  refine va_iast hx hb hK hP hD hS q0 t0 ha ht (vp_in_nI hk hn) hdg ?_
  rw [nI_clamp (Nat.lt_trans hk hn)]
  exact kk
theorem n_iast (hx : p.tables.exec = Jvm.exec) (hb : c.code = cc) (hK : va_K D cl tys s) (hP : va_P D cl ws H) (hD : va_D A ws) (hS : va_S A H0 H locs) (q0 t0 : Nat) {cA : ClassId} {n : Nat} {f : Nat → Nat} {k v : Nat} (ha : ws[q0]? = some (a, .inl (cA, n, .inl (nf f)))) (ht : tys[t0]? = some (cA, .int)) (hk : k < n) (hn : n < 2 ^ 31) (hdg : decode cc pc = .ok (.iastore, 1)) (kk : ∀ (H1 : Heap) (locs1 : List Loc), va_P D cl (ws.set q0 (a, .inl (cA, n, .inl (nf (updN f k v))))) H1 → va_D A (ws.set q0 (a, .inl (cA, n, .inl (nf (updN f k v))))) → va_S A H0 H1 locs1 → W p l e R s m args below meth c H1 locs1 cells slots Q (F0 m (pc + 1) ls (rest))) : W p l e R s m args below meth c H locs cells slots Q (F0 m (pc) ls (.int (nI v) :: .int (nI k) :: .ref a :: rest)) := by
  refine va_iast hx hb hK hP hD hS q0 t0 ha ht (vp_in_nI hk hn) hdg ?_
  rw [upd_nf f k v (Nat.lt_trans hk hn)]
  exact kk
theorem n_cast (hx : p.tables.exec = Jvm.exec) (hb : c.code = cc) (hK : va_K D cl tys s) (hP : va_P D cl ws H) (hD : va_D A ws) (hS : va_S A H0 H locs) (q0 t0 : Nat) {cA : ClassId} {n : Nat} {f : Nat → Nat} {k v : Nat} (ha : ws[q0]? = some (a, .inl (cA, n, .inl (nf f)))) (ht : tys[t0]? = some (cA, .char)) (hk : k < n) (hn : n < 2 ^ 31) (hv : v < 65536) (hdg : decode cc pc = .ok (.castore, 1)) (kk : ∀ (H1 : Heap) (locs1 : List Loc), va_P D cl (ws.set q0 (a, .inl (cA, n, .inl (nf (updN f k v))))) H1 → va_D A (ws.set q0 (a, .inl (cA, n, .inl (nf (updN f k v))))) → va_S A H0 H1 locs1 → W p l e R s m args below meth c H1 locs1 cells slots Q (F0 m (pc + 1) ls (rest))) : W p l e R s m args below meth c H locs cells slots Q (F0 m (pc) ls (.int (nI v) :: .int (nI k) :: .ref a :: rest)) := by
  refine va_cast hx hb hK hP hD hS q0 t0 ha ht (vp_in_nI hk hn) hdg ?_
  have e : vp_nar .char (nI v) = nI v := by unfold vp_nar; rw [(pk_charN hv).1]
  rw [e, upd_nf f k v (Nat.lt_trans hk hn)]
  exact kk
theorem q_aald (hx : p.tables.exec = Jvm.exec) (hb : c.code = cc) (hK : va_K D cl tys s) (hP : va_P D cl ws H) (q0 t0 : Nat) {cA : ClassId} {C : String} {n : Nat} {f : Nat → Option Nat} {k : Nat} (ha : ws[q0]? = some (a, .inl (cA, n, .inr (.inr (.inr (.inr f)))))) (ht : tys[t0]? = some (cA, .object C)) (hk : k < n) (hn : n < 2 ^ 31) (hdg : decode cc pc = .ok (.aaload, 1)) (kk : W p l e R s m args below meth c H locs cells slots Q (F0 m (pc + 1) ls (va_rf (f k) :: rest))) : W p l e R s m args below meth c H locs cells slots Q (F0 m (pc) ls (.int (nI k) :: .ref a :: rest)) := by
  refine va_aldq hx hb hK hP q0 t0 ha ht (vp_in_nI hk hn) hdg ?_
  rw [nI_clamp (Nat.lt_trans hk hn)]
  exact kk
theorem b_if_eq (hx : p.tables.exec = Jvm.exec) (hb : c.code = cc) {P : Prop} {off : Int} {tgt : Nat} (hdg : decode cc pc = .ok (.ifCond .eq off, 3)) (ht : (pc : Int) + off = (tgt : Int)) (kt : ¬ P → W p l e R s m args below meth c H locs cells slots Q (F0 m (tgt) ls (rest))) (kf : P → W p l e R s m args below meth c H locs cells slots Q (F0 m (pc + 3) ls (rest))) : W p l e R s m args below meth c H locs cells slots Q (F0 m (pc) ls (.int (bI P) :: rest)) := by
  refine lv_if_eq hx hb hdg ht (fun h => kt (fun hp => ?_)) (fun h => kf ?_)
  · rw [bI_t hp] at h; exact absurd h (by decide)
  · exact Classical.byContradiction (fun q => h (bI_f q))
theorem b_if_ne (hx : p.tables.exec = Jvm.exec) (hb : c.code = cc) {P : Prop} {off : Int} {tgt : Nat} (hdg : decode cc pc = .ok (.ifCond .ne off, 3)) (ht : (pc : Int) + off = (tgt : Int)) (kt : P → W p l e R s m args below meth c H locs cells slots Q (F0 m (tgt) ls (rest))) (kf : ¬ P → W p l e R s m args below meth c H locs cells slots Q (F0 m (pc + 3) ls (rest))) : W p l e R s m args below meth c H locs cells slots Q (F0 m (pc) ls (.int (bI P) :: rest)) := by
  refine lv_if_ne hx hb hdg ht (fun h => kt ?_) (fun h => kf (fun hp => ?_))
  · exact Classical.byContradiction (fun q => h (bI_f q))
  · rw [bI_t hp] at h; exact absurd h (by decide)
end XN
/-- a loop of a method that only reads -/
theorem xloopR {σ : Type} {C : σ → Array Slot → Prop} (μ : σ → Nat) {W' : Array Slot → Prop} (step : ∀ (x : σ) (ls : Array Slot), C x ls → (∀ (x' : σ) (ls' : Array Slot), μ x' < μ x → C x' ls' → W' ls') → W' ls) (x : σ) (ls : Array Slot) (h : C x ls) : W' ls := by
  suffices key : ∀ (n : Nat) (x : σ) (ls : Array Slot), μ x < n → C x ls → W' ls from key _ x ls (Nat.lt_succ_self _) h
  intro n
  induction n with
  | zero => intro x ls hn; exact absurd hn (Nat.not_lt_zero _)
  | succ n ih => intro x ls hn hC; exact step x ls hC (fun x' ls' hlt hC' => ih x' ls' (by omega) hC')
/-- a loop of a method that writes -/
theorem xloop {σ : Type} {C : σ → Heap → List Loc → Array Slot → Prop} (μ : σ → Nat) {W' : Heap → List Loc → Array Slot → Prop} (step : ∀ (x : σ) (H : Heap) (locs : List Loc) (ls : Array Slot), C x H locs ls → (∀ (x' : σ) (H' : Heap) (locs' : List Loc) (ls' : Array Slot), μ x' < μ x → C x' H' locs' ls' → W' H' locs' ls') → W' H locs ls) (x : σ) (H : Heap) (locs : List Loc) (ls : Array Slot) (h : C x H locs ls) : W' H locs ls := by
  suffices key : ∀ (n : Nat) (x : σ) (H : Heap) (locs : List Loc) (ls : Array Slot), μ x < n → C x H locs ls → W' H locs ls from key _ x H locs ls (Nat.lt_succ_self _) h
  intro n
  induction n with
  | zero => intro x H locs ls hn; exact absurd hn (Nat.not_lt_zero _)
  | succ n ih => intro x H locs ls hn hC; exact step x H locs ls hC (fun x' H' locs' ls' hlt hC' => ih x' H' locs' ls' (by omega) hC')
/-- distinct addresses, none below the border -/
def xDis (B : Nat) (L : List Nat) : Prop := L.Nodup ∧ ∀ q ∈ L, B ≤ q
theorem xDis.to {B : Nat} {L : List Nat} {ws : va_W} (h : xDis B L) (e : ws.map (fun q => q.1) = L) : va_D (fun q => q ∈ L) ws := by
  subst e
  refine ⟨fun i j p q hi hj hpq => ?_, fun k q hk => List.mem_map.mpr ⟨q, List.mem_of_getElem? hk, rfl⟩⟩
  have hn := List.pairwise_iff_getElem.mp h.1
  obtain ⟨hi1, hi2⟩ := List.getElem?_eq_some_iff.mp hi
  obtain ⟨hj1, hj2⟩ := List.getElem?_eq_some_iff.mp hj
  have hi1' : i < (ws.map (fun q => q.1)).length := by simpa using hi1
  have hj1' : j < (ws.map (fun q => q.1)).length := by simpa using hj1
  rcases Nat.lt_trichotomy i j with hlt | heq | hlt
  · exact absurd (by simp [hi2, hj2, hpq]) (hn i j hi1' hj1' hlt)
  · exact heq
  · exact absurd (by simp [hi2, hj2, hpq]) (hn j i hj1' hi1' hlt)
end
section
def rLv (n : Nat) : Nat := if n = 0 then 0 else (n - 1) / 4
def rRt (l : Nat) : Nat := if l ≤ 4 then 1 else if l ≤ 16 then 2 else if l ≤ 64 then 3 else 4
def rRI (l : Nat) : Int32 := if l = 0 then -1 else nI (rRt l)
def rBg (k : Nat) : Nat := if k = 0 then 0 else if k = 1 then 75 else if k = 2 then 94 else if k = 3 then 99 else 101
def rBl (l k : Nat) : Nat := if l = 0 then 0 else if rRt l < k then 0 else (l + 4 ^ k - 1) / 4 ^ k
theorem xpow (k : Nat) : 1 * 2 ^ (2 * k) = 4 ^ k := by rw [Nat.one_mul, Nat.pow_mul]
theorem xpow_lt {k : Nat} (h : k ≤ 8) : 4 ^ k < 2 ^ 24 := by
  have := Nat.pow_le_pow_right (n := 4) (by decide) h
  exact Nat.lt_of_le_of_lt this (by decide)
theorem xpow_lt2 {k : Nat} (h : k ≤ 8) : 1 * 2 ^ (2 * k) < 2 ^ 32 := by rw [xpow]; exact Nat.lt_trans (xpow_lt h) (by decide)

set_option maxHeartbeats 4000000 in
set_option maxRecDepth 100000 in
theorem c_X6_in (l : Launch) (G : xG) (x : Int32) (a : Int32) (b : Int32)  : Met l yX6_in wsX6_in ({ frames := 0, cells := 0, slots := 0, locals := 0 } : Room) (xPc G [.int x, .int a, .int b] (fun _ => True)) (k2_QcV (.int (bI (a ≤ x ∧ x ≤ b)))) 0 0 (fun _ => False) := by
  refine xMet (cc := cX6_in) (nL := 3) (ret := (some (.boolean))) (by decide) rfl (Nat.le_of_ble_eq_true rfl) ?_
  intro p e s m below meth c S hr hk hnm hE hP ls hl
  obtain ⟨hx, hb, hml, hown, hts⟩ := id S
  have hown : s.vm.findClass RX6 = some m.cls := hown
  have hK := hE.1
  have hS : va_S (fun _ : Nat => False) s.heap s.heap [] := va_S.rf
  have hA : ∀ q, (fun _ : Nat => False) q → xB0 G ≤ q := fun _ h => h.elim
  have hl : lv_has ls 3 [(0, .int x), (1, .int a), (2, .int b)] := hl
  refine lv_iload_n hx hb dX6_in_0 rfl (lv_at hl 0 rfl) ?_
  refine lv_iload_n hx hb dX6_in_1 rfl (lv_at hl 1 rfl) ?_
  refine lv_icmp_lt (tgt := 14) hx hb dX6_in_2 (by decide) (fun c_2 => ?_) (fun c_2 => ?_)
  · refine lv_iconst (v := nI 0) hx hb dX6_in_14 rfl ?_
    exact xret_z hx hb hr hk dX6_in_15 (by first | exact Or.inl rfl | exact Or.inr rfl) (xb0 (by simp only [Int32.lt_iff_toInt_lt, Int32.le_iff_toInt_le] at c_2 ⊢; omega))
  · refine lv_iload_n hx hb dX6_in_5 rfl (lv_at hl 0 rfl) ?_
    refine lv_iload_n hx hb dX6_in_6 rfl (lv_at hl 2 rfl) ?_
    refine lv_icmp_gt (tgt := 14) hx hb dX6_in_7 (by decide) (fun c_7 => ?_) (fun c_7 => ?_)
    · refine lv_iconst (v := nI 0) hx hb dX6_in_14 rfl ?_
      exact xret_z hx hb hr hk dX6_in_15 (by first | exact Or.inl rfl | exact Or.inr rfl) (xb0 (by simp only [Int32.lt_iff_toInt_lt, Int32.le_iff_toInt_le] at c_2 c_7 ⊢; omega))
    · refine lv_iconst (v := nI 1) hx hb dX6_in_10 rfl ?_
      refine lv_goto (tgt := 15) hx hb dX6_in_11 (by decide) ?_
      exact xret_z hx hb hr hk dX6_in_15 (by first | exact Or.inl rfl | exact Or.inr rfl) (xb1 (by simp only [Int32.lt_iff_toInt_lt, Int32.le_iff_toInt_le] at c_2 c_7 ⊢; omega))

set_option maxHeartbeats 4000000 in
set_option maxRecDepth 100000 in
theorem c_X6_leaves (l : Launch) (G : xG) (n : Nat) (hn : n < 2 ^ 24) : Met l yX6_leaves wsX6_leaves ({ frames := 0, cells := 0, slots := 0, locals := 0 } : Room) (xPc G [.int (nI n)] (fun _ => True)) (k2_QcV (.int (nI (rLv n)))) 0 0 (fun _ => False) := by
  refine xMet (cc := cX6_leaves) (nL := 1) (ret := (some (.int))) (by decide) rfl (Nat.le_of_ble_eq_true rfl) ?_
  intro p e s m below meth c S hr hk hnm hE hP ls hl
  obtain ⟨hx, hb, hml, hown, hts⟩ := id S
  have hown : s.vm.findClass RX6 = some m.cls := hown
  have hK := hE.1
  have hS : va_S (fun _ : Nat => False) s.heap s.heap [] := va_S.rf
  have hA : ∀ q, (fun _ : Nat => False) q → xB0 G ≤ q := fun _ h => h.elim
  have hl : lv_has ls 1 [(0, .int (nI n))] := hl
  refine lv_iload_n hx hb dX6_leaves_0 rfl (lv_at hl 0 rfl) ?_
  refine n_if_ne (tgt := 8) hx hb (by omega) dX6_leaves_1 (by decide) (fun c_1 => ?_) (fun c_1 => ?_)
  · refine lv_iload_n hx hb dX6_leaves_8 rfl (lv_at hl 0 rfl) ?_
    refine lv_iconst (v := nI 1) hx hb dX6_leaves_9 rfl ?_
    refine n_isub hx hb (by omega) dX6_leaves_10 ?_
    refine lv_iconst (v := nI 4) hx hb dX6_leaves_11 rfl ?_
    refine n_idiv hx hb (by omega) (by omega) (by omega) dX6_leaves_12 ?_
    exact xret_i hx hb hr hk dX6_leaves_13 (by rw [rLv, if_neg c_1])
  · refine lv_iconst (v := nI 0) hx hb dX6_leaves_4 rfl ?_
    refine lv_goto (tgt := 13) hx hb dX6_leaves_5 (by decide) ?_
    exact xret_i hx hb hr hk dX6_leaves_13 (by rw [rLv, if_pos c_1])

set_option maxHeartbeats 4000000 in
set_option maxRecDepth 100000 in
theorem c_X6_power (l : Launch) (G : xG) (k : Nat) (hk8 : k ≤ 8) : Met l yX6_power wsX6_power ({ frames := 0, cells := 0, slots := 0, locals := 0 } : Room) (xPc G [.int (nI k)] (fun _ => True)) (k2_QcV (.int (nI (4 ^ k)))) 0 0 (fun _ => False) := by
  refine xMet (cc := cX6_power) (nL := 1) (ret := (some (.int))) (by decide) rfl (Nat.le_of_ble_eq_true rfl) ?_
  intro p e s m below meth c S hr hk hnm hE hP ls hl
  obtain ⟨hx, hb, hml, hown, hts⟩ := id S
  have hown : s.vm.findClass RX6 = some m.cls := hown
  have hK := hE.1
  have hS : va_S (fun _ : Nat => False) s.heap s.heap [] := va_S.rf
  have hA : ∀ q, (fun _ : Nat => False) q → xB0 G ≤ q := fun _ h => h.elim
  have hl : lv_has ls 1 [(0, .int (nI k))] := hl
  refine lv_iconst (v := nI 1) hx hb dX6_power_0 rfl ?_
  refine lv_iconst (v := nI 2) hx hb dX6_power_1 rfl ?_
  refine lv_iload_n hx hb dX6_power_2 rfl (lv_at hl 0 rfl) ?_
  refine n_imul hx hb dX6_power_3 ?_
  refine n_ishl hx hb (by omega) (xpow_lt2 hk8) dX6_power_4 ?_
  exact xret_i hx hb hr hk dX6_power_5 (by rw [xpow k])

set_option maxHeartbeats 4000000 in
set_option maxRecDepth 100000 in
theorem c_X6_begins (l : Launch) (G : xG) (k : Nat) (hk8 : k ≤ 8) : Met l yX6_begins wsX6_begins ({ frames := 0, cells := 0, slots := 0, locals := 0 } : Room) (xPc G [.int (nI k)] (fun _ => True)) (k2_QcV (.int (nI (rBg k)))) 0 0 (fun _ => False) := by
  refine xMet (cc := cX6_begins) (nL := 1) (ret := (some (.int))) (by decide) rfl (Nat.le_of_ble_eq_true rfl) ?_
  intro p e s m below meth c S hr hk hnm hE hP ls hl
  obtain ⟨hx, hb, hml, hown, hts⟩ := id S
  have hown : s.vm.findClass RX6 = some m.cls := hown
  have hK := hE.1
  have hS : va_S (fun _ : Nat => False) s.heap s.heap [] := va_S.rf
  have hA : ∀ q, (fun _ : Nat => False) q → xB0 G ≤ q := fun _ h => h.elim
  have hl : lv_has ls 1 [(0, .int (nI k))] := hl
  refine lv_iload_n hx hb dX6_begins_0 rfl (lv_at hl 0 rfl) ?_
  refine n_if_ne (tgt := 8) hx hb (by omega) dX6_begins_1 (by decide) (fun c_1 => ?_) (fun c_1 => ?_)
  · refine lv_iload_n hx hb dX6_begins_8 rfl (lv_at hl 0 rfl) ?_
    refine lv_iconst (v := nI 1) hx hb dX6_begins_9 rfl ?_
    refine n_icmp_ne (tgt := 18) hx hb (by omega) (by omega) dX6_begins_10 (by decide) (fun c_10 => ?_) (fun c_10 => ?_)
    · refine lv_iload_n hx hb dX6_begins_18 rfl (lv_at hl 0 rfl) ?_
      refine lv_iconst (v := nI 2) hx hb dX6_begins_19 rfl ?_
      refine n_icmp_ne (tgt := 28) hx hb (by omega) (by omega) dX6_begins_20 (by decide) (fun c_20 => ?_) (fun c_20 => ?_)
      · refine lv_iload_n hx hb dX6_begins_28 rfl (lv_at hl 0 rfl) ?_
        refine lv_iconst (v := nI 3) hx hb dX6_begins_29 rfl ?_
        refine n_icmp_ne (tgt := 38) hx hb (by omega) (by omega) dX6_begins_30 (by decide) (fun c_30 => ?_) (fun c_30 => ?_)
        · refine lv_bipush (v := nI 101) hx hb dX6_begins_38 (by decide) ?_
          exact xret_i hx hb hr hk dX6_begins_40 (by unfold rBg; split <;> simp_all <;> omega)
        · refine lv_bipush (v := nI 99) hx hb dX6_begins_33 (by decide) ?_
          refine lv_goto (tgt := 40) hx hb dX6_begins_35 (by decide) ?_
          exact xret_i hx hb hr hk dX6_begins_40 (by unfold rBg; split <;> simp_all <;> omega)
      · refine lv_bipush (v := nI 94) hx hb dX6_begins_23 (by decide) ?_
        refine lv_goto (tgt := 40) hx hb dX6_begins_25 (by decide) ?_
        exact xret_i hx hb hr hk dX6_begins_40 (by unfold rBg; split <;> simp_all <;> omega)
    · refine lv_bipush (v := nI 75) hx hb dX6_begins_13 (by decide) ?_
      refine lv_goto (tgt := 40) hx hb dX6_begins_15 (by decide) ?_
      exact xret_i hx hb hr hk dX6_begins_40 (by unfold rBg; split <;> simp_all <;> omega)
  · refine lv_iconst (v := nI 0) hx hb dX6_begins_4 rfl ?_
    refine lv_goto (tgt := 40) hx hb dX6_begins_5 (by decide) ?_
    exact xret_i hx hb hr hk dX6_begins_40 (by unfold rBg; split <;> simp_all <;> omega)

theorem rRt_cs (l : Nat) : (l ≤ 4 ∧ rRt l = 1) ∨ (4 < l ∧ l ≤ 16 ∧ rRt l = 2) ∨ (16 < l ∧ l ≤ 64 ∧ rRt l = 3) ∨ (64 < l ∧ rRt l = 4) := by
  unfold rRt
  by_cases h1 : l ≤ 4
  · rw [if_pos h1]; omega
  · rw [if_neg h1]
    by_cases h2 : l ≤ 16
    · rw [if_pos h2]; omega
    · rw [if_neg h2]
      by_cases h3 : l ≤ 64
      · rw [if_pos h3]; omega
      · rw [if_neg h3]; omega
theorem rRt_le (l : Nat) : rRt l ≤ 4 := by have := rRt_cs l; omega
theorem rRt_ge (l : Nat) : 1 ≤ rRt l := by have := rRt_cs l; omega
theorem rRt_pow {l k : Nat} (hl : l ≤ 256) (h1 : 1 ≤ k) (h2 : k ≤ rRt l) (h3 : l ≤ 4 ^ k) : k = rRt l := by
  have h4 := rRt_le l
  have h5 := rRt_cs l
  have : k = 1 ∨ k = 2 ∨ k = 3 ∨ k = 4 := by omega
  rcases this with rfl | rfl | rfl | rfl <;> simp only [Nat.reducePow] at h3 <;> omega
theorem rRt_step {l k : Nat} (hl : l ≤ 256) (h1 : 1 ≤ k) (h2 : k ≤ rRt l) (h3 : 4 ^ k < l) : k + 1 ≤ rRt l := by
  have h4 := rRt_le l
  have h5 := rRt_cs l
  have : k = 1 ∨ k = 2 ∨ k = 3 ∨ k = 4 := by omega
  rcases this with rfl | rfl | rfl | rfl <;> simp only [Nat.reducePow] at h3 <;> omega

set_option maxHeartbeats 4000000 in
set_option maxRecDepth 100000 in
theorem c_X6_rootLevel (l : Launch) (G : xG) (n : Nat) (hn : n ≤ 256) : Met l yX6_rootLevel wsX6_rootLevel ({ frames := 1, cells := 0, slots := 0, locals := 20 } : Room) (xPc G [.int (nI n)] (fun _ => True)) (k2_QcV (.int (rRI n))) 0 0 (fun _ => False) := by
  refine xMet (cc := cX6_rootLevel) (nL := 2) (ret := (some (.int))) (by decide) rfl (Nat.le_of_ble_eq_true rfl) ?_
  intro p e s m below meth c S hr hk hnm hE hP ls hl
  obtain ⟨hx, hb, hml, hown, hts⟩ := id S
  have hown : s.vm.findClass RX6 = some m.cls := hown
  have hK := hE.1
  have hS : va_S (fun _ : Nat => False) s.heap s.heap [] := va_S.rf
  have hA : ∀ q, (fun _ : Nat => False) q → xB0 G ≤ q := fun _ h => h.elim
  have hl : lv_has ls 2 [(0, .int (nI n))] := hl
  refine lv_iload_n hx hb dX6_rootLevel_0 rfl (lv_at hl 0 rfl) ?_
  refine n_if_ne (tgt := 6) hx hb (by omega) dX6_rootLevel_1 (by decide) (fun c_1 => ?_) (fun c_1 => ?_)
  · refine lv_iconst (v := nI 1) hx hb dX6_rootLevel_6 rfl ?_
    refine lv_istore_n (lv' := [(1, .int (nI 1)), (0, .int (nI n))]) hx hb dX6_rootLevel_7 rfl hl (by decide) rfl (fun ls hl => ?_)
    have hl : lv_has ls 2 [(1, .int (nI 1)), (0, .int (nI n))] := lv_sub hl [0, 1] rfl
    refine xloopR (σ := Nat) (C := (fun (x_ : Nat) ls => 1 ≤ x_ ∧ x_ ≤ rRt n ∧ n ≠ 0 ∧ lv_has ls 2 [(1, .int (nI x_)), (0, .int (nI n))])) (μ := (fun (x_ : Nat) => 5 - x_)) (W' := fun ls => W p l e _ s m _ below meth c _ _ _ _ _ (F0 m 8 ls [])) ?_ 1 _ ⟨(by omega), (rRt_ge n), c_1, hl⟩
    intro x_ ls hC ih_8
    obtain ⟨k, rfl⟩ : ∃ z, z = x_ := ⟨x_, rfl⟩
    obtain ⟨hk1, hk2, hne, hl⟩ := hC
    have hk1 : 1 ≤ k := hk1
    have hk2 : k ≤ rRt n := hk2
    have hne : n ≠ 0 := hne
    have hl : lv_has ls 2 [(1, .int (nI k)), (0, .int (nI n))] := hl
    refine id ?_
    refine lv_iload_n hx hb dX6_rootLevel_8 rfl (lv_at hl 0 rfl) ?_
    refine xrd (xrunS (As := [.int (nI k)]) (rest := []) S (c_X6_power l G k (by have := rRt_le n; omega)) (va_cwS 1 hts gX6_rootLevel_X6_power rfl rfl rfl (by decide +kernel) ⟨Nat.le_of_ble_eq_true rfl, Nat.le_of_ble_eq_true rfl⟩) hE hS hA trivial rfl rfl hl.1 (Nat.le_of_ble_eq_true rfl) dX6_rootLevel_9 ⟨Nat.le_of_ble_eq_true rfl, Nat.le_of_ble_eq_true rfl⟩) ?_
    refine lv_iload_n hx hb dX6_rootLevel_12 rfl (lv_at hl 1 rfl) ?_
    refine n_icmp_ge (tgt := 22) hx hb (Nat.lt_of_lt_of_le (xpow_lt (k := k) (by have := rRt_le n; omega)) (by decide)) (by omega) dX6_rootLevel_13 (by decide) (fun c_13 => ?_) (fun c_13 => ?_)
    · refine lv_iload_n hx hb dX6_rootLevel_22 rfl (lv_at hl 0 rfl) ?_
      exact xret_i hx hb hr hk dX6_rootLevel_23 (by rw [rRI, if_neg hne, ← rRt_pow hn hk1 hk2 c_13])
    · refine lv_iinc (v := nI (k + 1)) (lv' := [(1, .int (nI (k + 1))), (0, .int (nI n))]) hx hb dX6_rootLevel_16 hl (k := 0) rfl (nI_add k 1) (by decide) rfl (fun ls hl => ?_)
      refine lv_goto (tgt := 8) hx hb dX6_rootLevel_19 (by decide) ?_
      have hl : lv_has ls 2 [(1, .int (nI (k + 1))), (0, .int (nI n))] := lv_sub hl [0, 1] rfl
      exact ih_8 (k + 1) _ (by show 5 - (k + 1) < 5 - k; have := rRt_le n; omega) ⟨(by omega), (rRt_step hn hk1 hk2 c_13), hne, hl⟩
  · refine lv_iconst (v := (-1)) hx hb dX6_rootLevel_4 rfl ?_
    exact xret_i hx hb hr hk dX6_rootLevel_5 (by rw [rRI, if_pos c_1])

def sumN (f : Nat → Nat) : Nat → Nat
  | 0 => 0
  | k + 1 => sumN f k + f k
def mxI (f : Nat → Nat) : Nat → Int32
  | 0 => -5
  | k + 1 => if mxI f k < nI (f k) then nI (f k) else mxI f k
def lstN (P : Nat → Bool) : Nat → Nat → Nat
  | 0, k => k
  | n + 1, k => if P k = true then k else lstN P n (k + 1)
theorem lstN_stop {P : Nat → Bool} {n k : Nat} (h : P k = true ∨ n = 0) : lstN P n k = k := by
  cases n with
  | zero => rfl
  | succ n =>
    rcases h with h | h
    · exact if_pos h
    · omega
theorem lstN_go {P : Nat → Bool} {n k : Nat} (h : ¬ P k = true) (hn : 0 < n) : lstN P n k = lstN P (n - 1) (k + 1) := by
  cases n with
  | zero => omega
  | succ n => exact if_neg h
theorem rRI_le {n k : Nat} (hk : k < 2 ^ 24) : nI k ≤ rRI n ↔ n ≠ 0 ∧ k ≤ rRt n := by
  unfold rRI
  by_cases h : n = 0
  · rw [if_pos h, Int32.le_iff_toInt_le, nI_toInt (by omega)]
    constructor
    · intro h2
      have : (-1 : Int32).toInt = -1 := rfl
      omega
    · intro h2; exact absurd h h2.1
  · rw [if_neg h, nI_leI (by omega) (by have := rRt_le n; omega)]
    exact ⟨fun q => ⟨h, q⟩, fun q => q.2⟩
theorem rBl_pos {n k : Nat} (h : n ≠ 0 ∧ k ≤ rRt n) : (n + 4 ^ k - 1) / 4 ^ k = rBl n k := by
  rw [rBl, if_neg h.1, if_neg (Nat.not_lt.mpr h.2)]
theorem rBl_neg {n k : Nat} (h : ¬ (n ≠ 0 ∧ k ≤ rRt n)) : 0 = rBl n k := by
  rw [rBl]
  by_cases h1 : n = 0
  · rw [if_pos h1]
  · rw [if_neg h1, if_pos (Nat.not_le.mp (fun q => h ⟨h1, q⟩))]
theorem rBl_bd {n k q : Nat} (hn : n ≤ 75) (hk : k < 5) (hq : q < rBl n k) : rBg k + q < 102 := by
  unfold rBl at hq
  split at hq
  · omega
  · split at hq
    · omega
    · rcases (show k = 0 ∨ k = 1 ∨ k = 2 ∨ k = 3 ∨ k = 4 by omega) with rfl | rfl | rfl | rfl | rfl <;> simp only [Nat.reducePow] at hq <;> simp [rBg] <;> omega
theorem rLv_le {n : Nat} (h : n ≤ 300) : rLv n ≤ 74 := by unfold rLv; split <;> omega
abbrev rNo (N : Nat → Nat) (x : Int32) : Prop := ¬ (nI 0 ≤ x ∧ x ≤ nI (N 10171 - 1)) ∨ N (10075 + 4 * x.toNatClampNeg) = 0
theorem xin_of {x : Int32} {n : Nat} (hn : n < 2 ^ 24) (h : nI 0 ≤ x ∧ x ≤ nI n) : ∃ k : Nat, k ≤ n ∧ x = nI k := by
  have h0 : ¬ x < 0 := Int32.not_lt.mpr h.1
  obtain ⟨j, hj, rfl⟩ := nI_of h0
  exact ⟨j, (nI_leI hj (by omega)).mp h.2, rfl⟩
theorem rNo_not {N : Nat → Nat} {x : Int32} (h1 : 1 ≤ N 10171) (h2 : N 10171 ≤ 24) (h : ¬ rNo N x) : ∃ k : Nat, x = nI k ∧ k < N 10171 ∧ N (10075 + 4 * k) ≠ 0 := by
  have ha : nI 0 ≤ x ∧ x ≤ nI (N 10171 - 1) := Classical.byContradiction (fun q => h (Or.inl q))
  obtain ⟨k, hk, rfl⟩ := xin_of (by omega) ha
  refine ⟨k, rfl, by omega, fun q => h (Or.inr ?_)⟩
  rw [nI_clamp (by omega)]
  exact q
def rLen (N : Nat → Nat) (k : Nat) : Nat := if N (10075 + 4 * k + 1) = 1 then N (10075 + 4 * k + 3) else N (403 * k)
def rVal (N : Nat → Nat) (k j : Nat) : Nat := N (403 * k + 1 + N (10075 + 4 * k + 2) + j)
def rId (N : Nat → Nat) (r k j : Nat) : Nat := N (403 * r + 301 + rBg k + j)
theorem rLen_lt {N : Nat → Nat} (hN : ∀ j, N j < 2 ^ 24) (k : Nat) : rLen N k < 2 ^ 24 := by unfold rLen; split <;> exact hN _

set_option maxHeartbeats 4000000 in
set_option maxRecDepth 100000 in
theorem c_X6_blocks (l : Launch) (G : xG) (n : Nat) (k : Nat) (hn : n ≤ 256) (hk8 : k ≤ 8) : Met l yX6_blocks wsX6_blocks ({ frames := 2, cells := 0, slots := 0, locals := 41 } : Room) (xPc G [.int (nI n), .int (nI k)] (fun _ => True)) (k2_QcV (.int (nI (rBl n k)))) 0 0 (fun _ => False) := by
  refine xMet (cc := cX6_blocks) (nL := 2) (ret := (some (.int))) (by decide) rfl (Nat.le_of_ble_eq_true rfl) ?_
  intro p e s m below meth c S hr hk hnm hE hP ls hl
  obtain ⟨hx, hb, hml, hown, hts⟩ := id S
  have hown : s.vm.findClass RX6 = some m.cls := hown
  have hK := hE.1
  have hS : va_S (fun _ : Nat => False) s.heap s.heap [] := va_S.rf
  have hA : ∀ q, (fun _ : Nat => False) q → xB0 G ≤ q := fun _ h => h.elim
  have hl : lv_has ls 2 [(0, .int (nI n)), (1, .int (nI k))] := hl
  refine lv_iload_n hx hb dX6_blocks_0 rfl (lv_at hl 1 rfl) ?_
  refine lv_iload_n hx hb dX6_blocks_1 rfl (lv_at hl 0 rfl) ?_
  refine xrd (xrunS (As := [.int (nI n)]) (rest := [.int (nI k)]) S (c_X6_rootLevel l G n (by omega)) (va_cwS 1 hts gX6_blocks_X6_rootLevel rfl rfl rfl (by decide +kernel) ⟨Nat.le_of_ble_eq_true rfl, Nat.le_of_ble_eq_true rfl⟩) hE hS hA trivial rfl rfl hl.1 (Nat.le_of_ble_eq_true rfl) dX6_blocks_2 ⟨Nat.le_of_ble_eq_true rfl, Nat.le_of_ble_eq_true rfl⟩) ?_
  refine lv_icmp_le (tgt := 12) hx hb dX6_blocks_5 (by decide) (fun c_5 => ?_) (fun c_5 => ?_)
  · have c_5 := (rRI_le (by omega)).mp c_5
    refine lv_iload_n hx hb dX6_blocks_12 rfl (lv_at hl 0 rfl) ?_
    refine lv_iload_n hx hb dX6_blocks_13 rfl (lv_at hl 1 rfl) ?_
    refine xrd (xrunS (As := [.int (nI k)]) (rest := [.int (nI n)]) S (c_X6_power l G k (by omega)) (va_cwS 1 hts gX6_blocks_X6_power rfl rfl rfl (by decide +kernel) ⟨Nat.le_of_ble_eq_true rfl, Nat.le_of_ble_eq_true rfl⟩) hE hS hA trivial rfl rfl hl.1 (Nat.le_of_ble_eq_true rfl) dX6_blocks_14 ⟨Nat.le_of_ble_eq_true rfl, Nat.le_of_ble_eq_true rfl⟩) ?_
    refine n_iadd hx hb dX6_blocks_17 ?_
    refine lv_iconst (v := nI 1) hx hb dX6_blocks_18 rfl ?_
    refine n_isub hx hb (by have := Nat.pow_pos (n := k) (show 0 < 4 by decide); omega) dX6_blocks_19 ?_
    refine lv_iload_n hx hb dX6_blocks_20 rfl (lv_at hl 1 rfl) ?_
    refine xrd (xrunS (As := [.int (nI k)]) (rest := [.int (nI ((n + (4 ^ k)) - 1))]) S (c_X6_power l G k (by omega)) (va_cwS 1 hts gX6_blocks_X6_power rfl rfl rfl (by decide +kernel) ⟨Nat.le_of_ble_eq_true rfl, Nat.le_of_ble_eq_true rfl⟩) hE hS hA trivial rfl rfl hl.1 (Nat.le_of_ble_eq_true rfl) dX6_blocks_21 ⟨Nat.le_of_ble_eq_true rfl, Nat.le_of_ble_eq_true rfl⟩) ?_
    refine n_idiv hx hb (by have := xpow_lt hk8; omega) (Nat.pow_pos (by decide)) (by have := xpow_lt hk8; omega) dX6_blocks_24 ?_
    exact xret_i hx hb hr hk dX6_blocks_25 (by rw [rBl_pos c_5])
  · have c_5 : ¬ (n ≠ 0 ∧ k ≤ rRt n) := fun q => c_5 ((rRI_le (by omega)).mpr q)
    refine lv_iconst (v := nI 0) hx hb dX6_blocks_8 rfl ?_
    refine lv_goto (tgt := 25) hx hb dX6_blocks_9 (by decide) ?_
    exact xret_i hx hb hr hk dX6_blocks_25 (by rw [← rBl_neg c_5])

set_option maxHeartbeats 4000000 in
set_option maxRecDepth 100000 in
theorem c_X6_allBlocks (l : Launch) (G : xG) (n : Nat) (hn : n ≤ 256) : Met l yX6_allBlocks wsX6_allBlocks ({ frames := 3, cells := 0, slots := 0, locals := 62 } : Room) (xPc G [.int (nI n)] (fun _ => True)) (k2_QcV (.int (nI (sumN (rBl n) 5)))) 0 0 (fun _ => False) := by
  refine xMet (cc := cX6_allBlocks) (nL := 3) (ret := (some (.int))) (by decide) rfl (Nat.le_of_ble_eq_true rfl) ?_
  intro p e s m below meth c S hr hk hnm hE hP ls hl
  obtain ⟨hx, hb, hml, hown, hts⟩ := id S
  have hown : s.vm.findClass RX6 = some m.cls := hown
  have hK := hE.1
  have hS : va_S (fun _ : Nat => False) s.heap s.heap [] := va_S.rf
  have hA : ∀ q, (fun _ : Nat => False) q → xB0 G ≤ q := fun _ h => h.elim
  have hl : lv_has ls 3 [(0, .int (nI n))] := hl
  refine lv_iconst (v := nI 0) hx hb dX6_allBlocks_0 rfl ?_
  refine lv_istore_n (lv' := [(1, .int (nI 0)), (0, .int (nI n))]) hx hb dX6_allBlocks_1 rfl hl (by decide) rfl (fun ls hl => ?_)
  refine lv_iconst (v := nI 0) hx hb dX6_allBlocks_2 rfl ?_
  refine lv_istore_n (lv' := [(2, .int (nI 0)), (1, .int (nI 0)), (0, .int (nI n))]) hx hb dX6_allBlocks_3 rfl hl (by decide) rfl (fun ls hl => ?_)
  have hl : lv_has ls 3 [(2, .int (nI 0)), (1, .int (nI (sumN (rBl n) 0))), (0, .int (nI n))] := lv_sub hl [0, 1, 2] rfl
  refine xloopR (σ := Nat) (C := (fun (x_ : Nat) ls => x_ ≤ 5 ∧ lv_has ls 3 [(2, .int (nI x_)), (1, .int (nI (sumN (rBl n) x_))), (0, .int (nI n))])) (μ := (fun (x_ : Nat) => 5 - x_)) (W' := fun ls => W p l e _ s m _ below meth c _ _ _ _ _ (F0 m 4 ls [])) ?_ 0 _ ⟨(by omega), hl⟩
  intro x_ ls hC ih_4
  obtain ⟨k, rfl⟩ : ∃ z, z = x_ := ⟨x_, rfl⟩
  obtain ⟨hk5, hl⟩ := hC
  have hk5 : k ≤ 5 := hk5
  have hl : lv_has ls 3 [(2, .int (nI k)), (1, .int (nI (sumN (rBl n) k))), (0, .int (nI n))] := hl
  refine id ?_
  refine lv_iload_n hx hb dX6_allBlocks_4 rfl (lv_at hl 0 rfl) ?_
  refine lv_iconst (v := nI 5) hx hb dX6_allBlocks_5 rfl ?_
  refine n_icmp_ge (tgt := 23) hx hb (by omega) (by omega) dX6_allBlocks_6 (by decide) (fun c_6 => ?_) (fun c_6 => ?_)
  · refine lv_iload_n hx hb dX6_allBlocks_23 rfl (lv_at hl 1 rfl) ?_
    exact xret_i hx hb hr hk dX6_allBlocks_24 (by rw [show k = 5 by omega])
  · refine lv_iload_n hx hb dX6_allBlocks_9 rfl (lv_at hl 1 rfl) ?_
    refine lv_iload_n hx hb dX6_allBlocks_10 rfl (lv_at hl 2 rfl) ?_
    refine lv_iload_n hx hb dX6_allBlocks_11 rfl (lv_at hl 0 rfl) ?_
    refine xrd (xrunS (As := [.int (nI n), .int (nI k)]) (rest := [.int (nI (sumN (rBl n) k))]) S (c_X6_blocks l G n k hn (by omega)) (va_cwS 2 hts gX6_allBlocks_X6_blocks rfl rfl rfl (by decide +kernel) ⟨Nat.le_of_ble_eq_true rfl, Nat.le_of_ble_eq_true rfl⟩) hE hS hA trivial rfl rfl hl.1 (Nat.le_of_ble_eq_true rfl) dX6_allBlocks_12 ⟨Nat.le_of_ble_eq_true rfl, Nat.le_of_ble_eq_true rfl⟩) ?_
    refine n_iadd hx hb dX6_allBlocks_15 ?_
    refine lv_istore_n (lv' := [(1, .int (nI ((sumN (rBl n) k) + (rBl n k)))), (2, .int (nI k)), (0, .int (nI n))]) hx hb dX6_allBlocks_16 rfl hl (by decide) rfl (fun ls hl => ?_)
    refine lv_iinc (v := nI (k + 1)) (lv' := [(2, .int (nI (k + 1))), (1, .int (nI ((sumN (rBl n) k) + (rBl n k)))), (0, .int (nI n))]) hx hb dX6_allBlocks_17 hl (k := 1) rfl (nI_add k 1) (by decide) rfl (fun ls hl => ?_)
    refine lv_goto (tgt := 4) hx hb dX6_allBlocks_20 (by decide) ?_
    have hl : lv_has ls 3 [(2, .int (nI (k + 1))), (1, .int (nI (sumN (rBl n) (k + 1)))), (0, .int (nI n))] := lv_sub hl [0, 1, 2] rfl
    exact ih_4 (k + 1) _ (by show 5 - (k + 1) < 5 - k; omega) ⟨(by omega), hl⟩

theorem hw_X6_no_f7 : Cond.fieldLink RX6 7 "TailVectorsModel" "now" "[I" ∈ wsX6_no := by decide +kernel
theorem hi_X6_no_RX6 : ∀ w ∈ u_ws RX6 TX6 9, w ∈ wsX6_no := by decide +kernel
set_option maxHeartbeats 4000000 in
set_option maxRecDepth 100000 in
theorem c_X6_no (l : Launch) (G : xG) (m0 : Nat) (aN : Nat) (aH : Nat) (aS : Nat) (aT : Nat) (N : Nat → Nat) (Hs : Nat → Nat) (Sl : Nat → Nat) (tx : Nat → Nat) (kept : Nat) (fil : Nat) (ty : Nat) (at_ : Nat) (nu : Nat) (x : Int32) (hN : ∀ j, N j < 2 ^ 24) (hev : 1 ≤ N 10171) (hev2 : N 10171 ≤ 24) : Met l yX6_no wsX6_no ({ frames := 1, cells := 0, slots := 0, locals := 22 } : Room) (xPc G [.ref m0, .int x] (fun H => va_P G.1 vwCl [(m0, .inr (6, [.ref aN, .ref aH, .int (nI kept), .ref aS, .int (nI fil), .int (nI ty), .ref aT, .int (nI at_), .int (nI nu)])), (aN, .inl (xcI G, 10276, .inl (nf N))), (aH, .inl (xcI G, 41104, .inl (nf Hs))), (aS, .inl (xcI G, 10276, .inl (nf Sl))), (aT, .inl (xcC G, 60, .inl (nf tx)))] H)) (k2_QcV (.int (bI (rNo N x)))) 0 0 (fun _ => False) := by
  refine xMet (cc := cX6_no) (nL := 2) (ret := (some (.boolean))) (by decide) rfl (Nat.le_of_ble_eq_true rfl) ?_
  intro p e s m below meth c S hr hk hnm hE hP ls hl
  obtain ⟨hx, hb, hml, hown, hts⟩ := id S
  have hown : s.vm.findClass RX6 = some m.cls := hown
  have hK := hE.1
  have hS : va_S (fun _ : Nat => False) s.heap s.heap [] := va_S.rf
  have hA : ∀ q, (fun _ : Nat => False) q → xB0 G ≤ q := fun _ h => h.elim
  have hP : va_P G.1 vwCl [(m0, .inr (6, [.ref aN, .ref aH, .int (nI kept), .ref aS, .int (nI fil), .int (nI ty), .ref aT, .int (nI at_), .int (nI nu)])), (aN, .inl (xcI G, 10276, .inl (nf N))), (aH, .inl (xcI G, 41104, .inl (nf Hs))), (aS, .inl (xcI G, 10276, .inl (nf Sl))), (aT, .inl (xcC G, 60, .inl (nf tx)))] s.heap := hP
  have hl : lv_has ls 2 [(0, .ref m0), (1, .int x)] := hl
  refine lv_iload_n hx hb dX6_no_0 rfl (lv_at hl 1 rfl) ?_
  refine lv_iconst (v := nI 0) hx hb dX6_no_1 rfl ?_
  refine lv_aload_n hx hb dX6_no_2 rfl (lv_at hl 0 rfl) ?_
  refine va_get (D := G.1) (ci := 6) (v := .ref aN) (C := RX6) (T := TX6) (N := 9) hx hb hts hi_X6_no_RX6 hown hK hP 0 rfl rfl 0 (by decide) (hts _ hw_X6_no_f7) (fun _ h9 => h9) rfl dX6_no_3 ?_
  refine lv_sipush (v := nI 10171) hx hb dX6_no_6 (by decide) ?_
  refine n_iald hx hb hK hP 1 0 rfl rfl (by omega) (by decide) dX6_no_9 ?_
  refine lv_iconst (v := nI 1) hx hb dX6_no_10 rfl ?_
  refine n_isub hx hb (by have := hN 10171; omega) dX6_no_11 ?_
  refine xrd (xrunS (As := [.int x, .int (nI 0), .int (nI ((N 10171) - 1))]) (rest := []) S (c_X6_in l G x (nI 0) (nI ((N 10171) - 1)) ) (va_cwS 3 hts gX6_no_X6_in rfl rfl rfl (by decide +kernel) ⟨Nat.le_of_ble_eq_true rfl, Nat.le_of_ble_eq_true rfl⟩) hE hS hA trivial rfl rfl hl.1 (Nat.le_of_ble_eq_true rfl) dX6_no_12 ⟨Nat.le_of_ble_eq_true rfl, Nat.le_of_ble_eq_true rfl⟩) ?_
  refine b_if_eq (tgt := 33) hx hb dX6_no_15 (by decide) (fun c_15 => ?_) (fun c_15 => ?_)
  · refine lv_iconst (v := nI 1) hx hb dX6_no_33 rfl ?_
    refine lv_goto (tgt := 38) hx hb dX6_no_34 (by decide) ?_
    exact xret_z hx hb hr hk dX6_no_38 (by first | exact Or.inl rfl | exact Or.inr rfl) (xb1 (Or.inl c_15))
  · have c_15b := c_15
    obtain ⟨k, hk24, rfl⟩ := xin_of (by omega) c_15
    refine lv_aload_n hx hb dX6_no_18 rfl (lv_at hl 0 rfl) ?_
    refine va_get (D := G.1) (ci := 6) (v := .ref aN) (C := RX6) (T := TX6) (N := 9) hx hb hts hi_X6_no_RX6 hown hK hP 0 rfl rfl 0 (by decide) (hts _ hw_X6_no_f7) (fun _ h9 => h9) rfl dX6_no_19 ?_
    refine lv_sipush (v := nI 10075) hx hb dX6_no_22 (by decide) ?_
    refine lv_iconst (v := nI 4) hx hb dX6_no_25 rfl ?_
    refine lv_iload_n hx hb dX6_no_26 rfl (lv_at hl 1 rfl) ?_
    refine n_imul hx hb dX6_no_27 ?_
    refine n_iadd hx hb dX6_no_28 ?_
    refine n_iald hx hb hK hP 1 0 rfl rfl (by omega) (by decide) dX6_no_29 ?_
    refine n_if_ne (tgt := 37) hx hb (by have := hN (10075 + 4 * k); omega) dX6_no_30 (by decide) (fun c_30 => ?_) (fun c_30 => ?_)
    · refine lv_iconst (v := nI 0) hx hb dX6_no_37 rfl ?_
      exact xret_z hx hb hr hk dX6_no_38 (by first | exact Or.inl rfl | exact Or.inr rfl) (xb0 (fun q => q.elim (fun z => z c_15b) (fun z => by rw [nI_clamp (by omega)] at z; exact c_30 z)))
    · refine lv_iconst (v := nI 1) hx hb dX6_no_33 rfl ?_
      refine lv_goto (tgt := 38) hx hb dX6_no_34 (by decide) ?_
      exact xret_z hx hb hr hk dX6_no_38 (by first | exact Or.inl rfl | exact Or.inr rfl) (xb1 (Or.inr (by rw [nI_clamp (by omega)]; exact c_30)))

theorem hw_X6_isWindow_f7 : Cond.fieldLink RX6 7 "TailVectorsModel" "now" "[I" ∈ wsX6_isWindow := by decide +kernel
theorem hi_X6_isWindow_RX6 : ∀ w ∈ u_ws RX6 TX6 9, w ∈ wsX6_isWindow := by decide +kernel
set_option maxHeartbeats 4000000 in
set_option maxRecDepth 100000 in
theorem c_X6_isWindow (l : Launch) (G : xG) (m0 : Nat) (aN : Nat) (aH : Nat) (aS : Nat) (aT : Nat) (N : Nat → Nat) (Hs : Nat → Nat) (Sl : Nat → Nat) (tx : Nat → Nat) (kept : Nat) (fil : Nat) (ty : Nat) (at_ : Nat) (nu : Nat) (k : Nat) (hN : ∀ j, N j < 2 ^ 24) (hk24 : k ≤ 24) : Met l yX6_isWindow wsX6_isWindow ({ frames := 0, cells := 0, slots := 0, locals := 0 } : Room) (xPc G [.ref m0, .int (nI k)] (fun H => va_P G.1 vwCl [(m0, .inr (6, [.ref aN, .ref aH, .int (nI kept), .ref aS, .int (nI fil), .int (nI ty), .ref aT, .int (nI at_), .int (nI nu)])), (aN, .inl (xcI G, 10276, .inl (nf N))), (aH, .inl (xcI G, 41104, .inl (nf Hs))), (aS, .inl (xcI G, 10276, .inl (nf Sl))), (aT, .inl (xcC G, 60, .inl (nf tx)))] H)) (k2_QcV (.int (bI (N (10075 + 4 * k + 1) = 1)))) 0 0 (fun _ => False) := by
  refine xMet (cc := cX6_isWindow) (nL := 2) (ret := (some (.boolean))) (by decide) rfl (Nat.le_of_ble_eq_true rfl) ?_
  intro p e s m below meth c S hr hk hnm hE hP ls hl
  obtain ⟨hx, hb, hml, hown, hts⟩ := id S
  have hown : s.vm.findClass RX6 = some m.cls := hown
  have hK := hE.1
  have hS : va_S (fun _ : Nat => False) s.heap s.heap [] := va_S.rf
  have hA : ∀ q, (fun _ : Nat => False) q → xB0 G ≤ q := fun _ h => h.elim
  have hP : va_P G.1 vwCl [(m0, .inr (6, [.ref aN, .ref aH, .int (nI kept), .ref aS, .int (nI fil), .int (nI ty), .ref aT, .int (nI at_), .int (nI nu)])), (aN, .inl (xcI G, 10276, .inl (nf N))), (aH, .inl (xcI G, 41104, .inl (nf Hs))), (aS, .inl (xcI G, 10276, .inl (nf Sl))), (aT, .inl (xcC G, 60, .inl (nf tx)))] s.heap := hP
  have hl : lv_has ls 2 [(0, .ref m0), (1, .int (nI k))] := hl
  refine lv_aload_n hx hb dX6_isWindow_0 rfl (lv_at hl 0 rfl) ?_
  refine va_get (D := G.1) (ci := 6) (v := .ref aN) (C := RX6) (T := TX6) (N := 9) hx hb hts hi_X6_isWindow_RX6 hown hK hP 0 rfl rfl 0 (by decide) (hts _ hw_X6_isWindow_f7) (fun _ h9 => h9) rfl dX6_isWindow_1 ?_
  refine lv_sipush (v := nI 10075) hx hb dX6_isWindow_4 (by decide) ?_
  refine lv_iconst (v := nI 4) hx hb dX6_isWindow_7 rfl ?_
  refine lv_iload_n hx hb dX6_isWindow_8 rfl (lv_at hl 1 rfl) ?_
  refine n_imul hx hb dX6_isWindow_9 ?_
  refine n_iadd hx hb dX6_isWindow_10 ?_
  refine lv_iconst (v := nI 1) hx hb dX6_isWindow_11 rfl ?_
  refine n_iadd hx hb dX6_isWindow_12 ?_
  refine n_iald hx hb hK hP 1 0 rfl rfl (by omega) (by decide) dX6_isWindow_13 ?_
  refine lv_iconst (v := nI 1) hx hb dX6_isWindow_14 rfl ?_
  refine n_icmp_ne (tgt := 22) hx hb (by have := hN ((10075 + (4 * k)) + 1); omega) (by omega) dX6_isWindow_15 (by decide) (fun c_15 => ?_) (fun c_15 => ?_)
  · refine lv_iconst (v := nI 0) hx hb dX6_isWindow_22 rfl ?_
    exact xret_z hx hb hr hk dX6_isWindow_23 (by first | exact Or.inl rfl | exact Or.inr rfl) (xb0 (by omega))
  · refine lv_iconst (v := nI 1) hx hb dX6_isWindow_18 rfl ?_
    refine lv_goto (tgt := 23) hx hb dX6_isWindow_19 (by decide) ?_
    exact xret_z hx hb hr hk dX6_isWindow_23 (by first | exact Or.inl rfl | exact Or.inr rfl) (xb1 (by omega))

theorem hw_X6_first_f7 : Cond.fieldLink RX6 7 "TailVectorsModel" "now" "[I" ∈ wsX6_first := by decide +kernel
theorem hi_X6_first_RX6 : ∀ w ∈ u_ws RX6 TX6 9, w ∈ wsX6_first := by decide +kernel
set_option maxHeartbeats 4000000 in
set_option maxRecDepth 100000 in
theorem c_X6_first (l : Launch) (G : xG) (m0 : Nat) (aN : Nat) (aH : Nat) (aS : Nat) (aT : Nat) (N : Nat → Nat) (Hs : Nat → Nat) (Sl : Nat → Nat) (tx : Nat → Nat) (kept : Nat) (fil : Nat) (ty : Nat) (at_ : Nat) (nu : Nat) (k : Nat) (hN : ∀ j, N j < 2 ^ 24) (hk24 : k ≤ 24) : Met l yX6_first wsX6_first ({ frames := 0, cells := 0, slots := 0, locals := 0 } : Room) (xPc G [.ref m0, .int (nI k)] (fun H => va_P G.1 vwCl [(m0, .inr (6, [.ref aN, .ref aH, .int (nI kept), .ref aS, .int (nI fil), .int (nI ty), .ref aT, .int (nI at_), .int (nI nu)])), (aN, .inl (xcI G, 10276, .inl (nf N))), (aH, .inl (xcI G, 41104, .inl (nf Hs))), (aS, .inl (xcI G, 10276, .inl (nf Sl))), (aT, .inl (xcC G, 60, .inl (nf tx)))] H)) (k2_QcV (.int (nI (N (10075 + 4 * k + 2))))) 0 0 (fun _ => False) := by
  refine xMet (cc := cX6_first) (nL := 2) (ret := (some (.int))) (by decide) rfl (Nat.le_of_ble_eq_true rfl) ?_
  intro p e s m below meth c S hr hk hnm hE hP ls hl
  obtain ⟨hx, hb, hml, hown, hts⟩ := id S
  have hown : s.vm.findClass RX6 = some m.cls := hown
  have hK := hE.1
  have hS : va_S (fun _ : Nat => False) s.heap s.heap [] := va_S.rf
  have hA : ∀ q, (fun _ : Nat => False) q → xB0 G ≤ q := fun _ h => h.elim
  have hP : va_P G.1 vwCl [(m0, .inr (6, [.ref aN, .ref aH, .int (nI kept), .ref aS, .int (nI fil), .int (nI ty), .ref aT, .int (nI at_), .int (nI nu)])), (aN, .inl (xcI G, 10276, .inl (nf N))), (aH, .inl (xcI G, 41104, .inl (nf Hs))), (aS, .inl (xcI G, 10276, .inl (nf Sl))), (aT, .inl (xcC G, 60, .inl (nf tx)))] s.heap := hP
  have hl : lv_has ls 2 [(0, .ref m0), (1, .int (nI k))] := hl
  refine lv_aload_n hx hb dX6_first_0 rfl (lv_at hl 0 rfl) ?_
  refine va_get (D := G.1) (ci := 6) (v := .ref aN) (C := RX6) (T := TX6) (N := 9) hx hb hts hi_X6_first_RX6 hown hK hP 0 rfl rfl 0 (by decide) (hts _ hw_X6_first_f7) (fun _ h9 => h9) rfl dX6_first_1 ?_
  refine lv_sipush (v := nI 10075) hx hb dX6_first_4 (by decide) ?_
  refine lv_iconst (v := nI 4) hx hb dX6_first_7 rfl ?_
  refine lv_iload_n hx hb dX6_first_8 rfl (lv_at hl 1 rfl) ?_
  refine n_imul hx hb dX6_first_9 ?_
  refine n_iadd hx hb dX6_first_10 ?_
  refine lv_iconst (v := nI 2) hx hb dX6_first_11 rfl ?_
  refine n_iadd hx hb dX6_first_12 ?_
  refine n_iald hx hb hK hP 1 0 rfl rfl (by omega) (by decide) dX6_first_13 ?_
  exact xret_i hx hb hr hk dX6_first_14 rfl

theorem hw_X6_rowLength_f7 : Cond.fieldLink RX6 7 "TailVectorsModel" "now" "[I" ∈ wsX6_rowLength := by decide +kernel
theorem hi_X6_rowLength_RX6 : ∀ w ∈ u_ws RX6 TX6 9, w ∈ wsX6_rowLength := by decide +kernel
set_option maxHeartbeats 4000000 in
set_option maxRecDepth 100000 in
theorem c_X6_rowLength (l : Launch) (G : xG) (m0 : Nat) (aN : Nat) (aH : Nat) (aS : Nat) (aT : Nat) (N : Nat → Nat) (Hs : Nat → Nat) (Sl : Nat → Nat) (tx : Nat → Nat) (kept : Nat) (fil : Nat) (ty : Nat) (at_ : Nat) (nu : Nat) (k : Nat) (hN : ∀ j, N j < 2 ^ 24) (hk24 : k ≤ 24) : Met l yX6_rowLength wsX6_rowLength ({ frames := 0, cells := 0, slots := 0, locals := 0 } : Room) (xPc G [.ref m0, .int (nI k)] (fun H => va_P G.1 vwCl [(m0, .inr (6, [.ref aN, .ref aH, .int (nI kept), .ref aS, .int (nI fil), .int (nI ty), .ref aT, .int (nI at_), .int (nI nu)])), (aN, .inl (xcI G, 10276, .inl (nf N))), (aH, .inl (xcI G, 41104, .inl (nf Hs))), (aS, .inl (xcI G, 10276, .inl (nf Sl))), (aT, .inl (xcC G, 60, .inl (nf tx)))] H)) (k2_QcV (.int (nI (N (403 * k))))) 0 0 (fun _ => False) := by
  refine xMet (cc := cX6_rowLength) (nL := 2) (ret := (some (.int))) (by decide) rfl (Nat.le_of_ble_eq_true rfl) ?_
  intro p e s m below meth c S hr hk hnm hE hP ls hl
  obtain ⟨hx, hb, hml, hown, hts⟩ := id S
  have hown : s.vm.findClass RX6 = some m.cls := hown
  have hK := hE.1
  have hS : va_S (fun _ : Nat => False) s.heap s.heap [] := va_S.rf
  have hA : ∀ q, (fun _ : Nat => False) q → xB0 G ≤ q := fun _ h => h.elim
  have hP : va_P G.1 vwCl [(m0, .inr (6, [.ref aN, .ref aH, .int (nI kept), .ref aS, .int (nI fil), .int (nI ty), .ref aT, .int (nI at_), .int (nI nu)])), (aN, .inl (xcI G, 10276, .inl (nf N))), (aH, .inl (xcI G, 41104, .inl (nf Hs))), (aS, .inl (xcI G, 10276, .inl (nf Sl))), (aT, .inl (xcC G, 60, .inl (nf tx)))] s.heap := hP
  have hl : lv_has ls 2 [(0, .ref m0), (1, .int (nI k))] := hl
  refine lv_aload_n hx hb dX6_rowLength_0 rfl (lv_at hl 0 rfl) ?_
  refine va_get (D := G.1) (ci := 6) (v := .ref aN) (C := RX6) (T := TX6) (N := 9) hx hb hts hi_X6_rowLength_RX6 hown hK hP 0 rfl rfl 0 (by decide) (hts _ hw_X6_rowLength_f7) (fun _ h9 => h9) rfl dX6_rowLength_1 ?_
  refine lv_sipush (v := nI 403) hx hb dX6_rowLength_4 (by decide) ?_
  refine lv_iload_n hx hb dX6_rowLength_7 rfl (lv_at hl 1 rfl) ?_
  refine n_imul hx hb dX6_rowLength_8 ?_
  refine n_iald hx hb hK hP 1 0 rfl rfl (by omega) (by decide) dX6_rowLength_9 ?_
  exact xret_i hx hb hr hk dX6_rowLength_10 rfl

theorem hw_X6_length_f7 : Cond.fieldLink RX6 7 "TailVectorsModel" "now" "[I" ∈ wsX6_length := by decide +kernel
theorem hi_X6_length_RX6 : ∀ w ∈ u_ws RX6 TX6 9, w ∈ wsX6_length := by decide +kernel
set_option maxHeartbeats 4000000 in
set_option maxRecDepth 100000 in
theorem c_X6_length (l : Launch) (G : xG) (m0 : Nat) (aN : Nat) (aH : Nat) (aS : Nat) (aT : Nat) (N : Nat → Nat) (Hs : Nat → Nat) (Sl : Nat → Nat) (tx : Nat → Nat) (kept : Nat) (fil : Nat) (ty : Nat) (at_ : Nat) (nu : Nat) (k : Nat) (hN : ∀ j, N j < 2 ^ 24) (hk24 : k ≤ 24) : Met l yX6_length wsX6_length ({ frames := 1, cells := 0, slots := 0, locals := 21 } : Room) (xPc G [.ref m0, .int (nI k)] (fun H => va_P G.1 vwCl [(m0, .inr (6, [.ref aN, .ref aH, .int (nI kept), .ref aS, .int (nI fil), .int (nI ty), .ref aT, .int (nI at_), .int (nI nu)])), (aN, .inl (xcI G, 10276, .inl (nf N))), (aH, .inl (xcI G, 41104, .inl (nf Hs))), (aS, .inl (xcI G, 10276, .inl (nf Sl))), (aT, .inl (xcC G, 60, .inl (nf tx)))] H)) (k2_QcV (.int (nI (rLen N k)))) 0 0 (fun _ => False) := by
  refine xMet (cc := cX6_length) (nL := 2) (ret := (some (.int))) (by decide) rfl (Nat.le_of_ble_eq_true rfl) ?_
  intro p e s m below meth c S hr hk hnm hE hP ls hl
  obtain ⟨hx, hb, hml, hown, hts⟩ := id S
  have hown : s.vm.findClass RX6 = some m.cls := hown
  have hK := hE.1
  have hS : va_S (fun _ : Nat => False) s.heap s.heap [] := va_S.rf
  have hA : ∀ q, (fun _ : Nat => False) q → xB0 G ≤ q := fun _ h => h.elim
  have hP : va_P G.1 vwCl [(m0, .inr (6, [.ref aN, .ref aH, .int (nI kept), .ref aS, .int (nI fil), .int (nI ty), .ref aT, .int (nI at_), .int (nI nu)])), (aN, .inl (xcI G, 10276, .inl (nf N))), (aH, .inl (xcI G, 41104, .inl (nf Hs))), (aS, .inl (xcI G, 10276, .inl (nf Sl))), (aT, .inl (xcC G, 60, .inl (nf tx)))] s.heap := hP
  have hl : lv_has ls 2 [(0, .ref m0), (1, .int (nI k))] := hl
  refine lv_aload_n hx hb dX6_length_0 rfl (lv_at hl 0 rfl) ?_
  refine lv_iload_n hx hb dX6_length_1 rfl (lv_at hl 1 rfl) ?_
  refine xrd (xrunV (As := [.int (nI k)]) (rest := []) S (c_X6_isWindow l G m0 aN aH aS aT N Hs Sl tx kept fil ty at_ nu k hN (by omega)) (cwV 1 hts gX6_length_X6_isWindow rfl rfl rfl (by decide +kernel) ⟨Nat.le_of_ble_eq_true rfl, Nat.le_of_ble_eq_true rfl⟩) hE hS hA 0 6 hP rfl rfl rfl hP rfl rfl hl.1 (Nat.le_of_ble_eq_true rfl) dX6_length_2 ⟨Nat.le_of_ble_eq_true rfl, Nat.le_of_ble_eq_true rfl⟩) ?_
  refine b_if_eq (tgt := 25) hx hb dX6_length_5 (by decide) (fun c_5 => ?_) (fun c_5 => ?_)
  · refine lv_aload_n hx hb dX6_length_25 rfl (lv_at hl 0 rfl) ?_
    refine lv_iload_n hx hb dX6_length_26 rfl (lv_at hl 1 rfl) ?_
    refine xrd (xrunV (As := [.int (nI k)]) (rest := []) S (c_X6_rowLength l G m0 aN aH aS aT N Hs Sl tx kept fil ty at_ nu k hN (by omega)) (cwV 1 hts gX6_length_X6_rowLength rfl rfl rfl (by decide +kernel) ⟨Nat.le_of_ble_eq_true rfl, Nat.le_of_ble_eq_true rfl⟩) hE hS hA 0 6 hP rfl rfl rfl hP rfl rfl hl.1 (Nat.le_of_ble_eq_true rfl) dX6_length_27 ⟨Nat.le_of_ble_eq_true rfl, Nat.le_of_ble_eq_true rfl⟩) ?_
    exact xret_i hx hb hr hk dX6_length_30 (by rw [rLen, if_neg c_5])
  · refine lv_aload_n hx hb dX6_length_8 rfl (lv_at hl 0 rfl) ?_
    refine va_get (D := G.1) (ci := 6) (v := .ref aN) (C := RX6) (T := TX6) (N := 9) hx hb hts hi_X6_length_RX6 hown hK hP 0 rfl rfl 0 (by decide) (hts _ hw_X6_length_f7) (fun _ h9 => h9) rfl dX6_length_9 ?_
    refine lv_sipush (v := nI 10075) hx hb dX6_length_12 (by decide) ?_
    refine lv_iconst (v := nI 4) hx hb dX6_length_15 rfl ?_
    refine lv_iload_n hx hb dX6_length_16 rfl (lv_at hl 1 rfl) ?_
    refine n_imul hx hb dX6_length_17 ?_
    refine n_iadd hx hb dX6_length_18 ?_
    refine lv_iconst (v := nI 3) hx hb dX6_length_19 rfl ?_
    refine n_iadd hx hb dX6_length_20 ?_
    refine n_iald hx hb hK hP 1 0 rfl rfl (by omega) (by decide) dX6_length_21 ?_
    refine lv_goto (tgt := 30) hx hb dX6_length_22 (by decide) ?_
    exact xret_i hx hb hr hk dX6_length_30 (by rw [rLen, if_pos c_5])

theorem hw_X6_value_f7 : Cond.fieldLink RX6 7 "TailVectorsModel" "now" "[I" ∈ wsX6_value := by decide +kernel
theorem hi_X6_value_RX6 : ∀ w ∈ u_ws RX6 TX6 9, w ∈ wsX6_value := by decide +kernel
set_option maxHeartbeats 4000000 in
set_option maxRecDepth 100000 in
theorem c_X6_value (l : Launch) (G : xG) (m0 : Nat) (aN : Nat) (aH : Nat) (aS : Nat) (aT : Nat) (N : Nat → Nat) (Hs : Nat → Nat) (Sl : Nat → Nat) (tx : Nat → Nat) (kept : Nat) (fil : Nat) (ty : Nat) (at_ : Nat) (nu : Nat) (k : Nat) (j : Nat) (hN : ∀ j, N j < 2 ^ 24) (hk24 : k ≤ 24) (hix : 403 * k + 1 + N (10075 + 4 * k + 2) + j < 10276) : Met l yX6_value wsX6_value ({ frames := 1, cells := 0, slots := 0, locals := 21 } : Room) (xPc G [.ref m0, .int (nI k), .int (nI j)] (fun H => va_P G.1 vwCl [(m0, .inr (6, [.ref aN, .ref aH, .int (nI kept), .ref aS, .int (nI fil), .int (nI ty), .ref aT, .int (nI at_), .int (nI nu)])), (aN, .inl (xcI G, 10276, .inl (nf N))), (aH, .inl (xcI G, 41104, .inl (nf Hs))), (aS, .inl (xcI G, 10276, .inl (nf Sl))), (aT, .inl (xcC G, 60, .inl (nf tx)))] H)) (k2_QcV (.int (nI (rVal N k j)))) 0 0 (fun _ => False) := by
  refine xMet (cc := cX6_value) (nL := 3) (ret := (some (.int))) (by decide) rfl (Nat.le_of_ble_eq_true rfl) ?_
  intro p e s m below meth c S hr hk hnm hE hP ls hl
  obtain ⟨hx, hb, hml, hown, hts⟩ := id S
  have hown : s.vm.findClass RX6 = some m.cls := hown
  have hK := hE.1
  have hS : va_S (fun _ : Nat => False) s.heap s.heap [] := va_S.rf
  have hA : ∀ q, (fun _ : Nat => False) q → xB0 G ≤ q := fun _ h => h.elim
  have hP : va_P G.1 vwCl [(m0, .inr (6, [.ref aN, .ref aH, .int (nI kept), .ref aS, .int (nI fil), .int (nI ty), .ref aT, .int (nI at_), .int (nI nu)])), (aN, .inl (xcI G, 10276, .inl (nf N))), (aH, .inl (xcI G, 41104, .inl (nf Hs))), (aS, .inl (xcI G, 10276, .inl (nf Sl))), (aT, .inl (xcC G, 60, .inl (nf tx)))] s.heap := hP
  have hl : lv_has ls 3 [(0, .ref m0), (1, .int (nI k)), (2, .int (nI j))] := hl
  refine lv_aload_n hx hb dX6_value_0 rfl (lv_at hl 0 rfl) ?_
  refine va_get (D := G.1) (ci := 6) (v := .ref aN) (C := RX6) (T := TX6) (N := 9) hx hb hts hi_X6_value_RX6 hown hK hP 0 rfl rfl 0 (by decide) (hts _ hw_X6_value_f7) (fun _ h9 => h9) rfl dX6_value_1 ?_
  refine lv_sipush (v := nI 403) hx hb dX6_value_4 (by decide) ?_
  refine lv_iload_n hx hb dX6_value_7 rfl (lv_at hl 1 rfl) ?_
  refine n_imul hx hb dX6_value_8 ?_
  refine lv_iconst (v := nI 1) hx hb dX6_value_9 rfl ?_
  refine n_iadd hx hb dX6_value_10 ?_
  refine lv_aload_n hx hb dX6_value_11 rfl (lv_at hl 0 rfl) ?_
  refine lv_iload_n hx hb dX6_value_12 rfl (lv_at hl 1 rfl) ?_
  refine xrd (xrunV (As := [.int (nI k)]) (rest := [.int (nI ((403 * k) + 1)), .ref aN]) S (c_X6_first l G m0 aN aH aS aT N Hs Sl tx kept fil ty at_ nu k hN (by omega)) (cwV 1 hts gX6_value_X6_first rfl rfl rfl (by decide +kernel) ⟨Nat.le_of_ble_eq_true rfl, Nat.le_of_ble_eq_true rfl⟩) hE hS hA 0 6 hP rfl rfl rfl hP rfl rfl hl.1 (Nat.le_of_ble_eq_true rfl) dX6_value_13 ⟨Nat.le_of_ble_eq_true rfl, Nat.le_of_ble_eq_true rfl⟩) ?_
  refine n_iadd hx hb dX6_value_16 ?_
  refine lv_iload_n hx hb dX6_value_17 rfl (lv_at hl 2 rfl) ?_
  refine n_iadd hx hb dX6_value_18 ?_
  refine n_iald hx hb hK hP 1 0 rfl rfl hix (by decide) dX6_value_19 ?_
  exact xret_i hx hb hr hk dX6_value_20 rfl

theorem hw_X6_id_f7 : Cond.fieldLink RX6 7 "TailVectorsModel" "now" "[I" ∈ wsX6_id := by decide +kernel
theorem hi_X6_id_RX6 : ∀ w ∈ u_ws RX6 TX6 9, w ∈ wsX6_id := by decide +kernel
set_option maxHeartbeats 4000000 in
set_option maxRecDepth 100000 in
theorem c_X6_id (l : Launch) (G : xG) (m0 : Nat) (aN : Nat) (aH : Nat) (aS : Nat) (aT : Nat) (N : Nat → Nat) (Hs : Nat → Nat) (Sl : Nat → Nat) (tx : Nat → Nat) (kept : Nat) (fil : Nat) (ty : Nat) (at_ : Nat) (nu : Nat) (r : Nat) (k : Nat) (j : Nat) (hN : ∀ j, N j < 2 ^ 24) (hk8 : k ≤ 8) (hix : 403 * r + 301 + rBg k + j < 10276) : Met l yX6_id wsX6_id ({ frames := 1, cells := 0, slots := 0, locals := 20 } : Room) (xPc G [.ref m0, .int (nI r), .int (nI k), .int (nI j)] (fun H => va_P G.1 vwCl [(m0, .inr (6, [.ref aN, .ref aH, .int (nI kept), .ref aS, .int (nI fil), .int (nI ty), .ref aT, .int (nI at_), .int (nI nu)])), (aN, .inl (xcI G, 10276, .inl (nf N))), (aH, .inl (xcI G, 41104, .inl (nf Hs))), (aS, .inl (xcI G, 10276, .inl (nf Sl))), (aT, .inl (xcC G, 60, .inl (nf tx)))] H)) (k2_QcV (.int (nI (rId N r k j)))) 0 0 (fun _ => False) := by
  refine xMet (cc := cX6_id) (nL := 4) (ret := (some (.int))) (by decide) rfl (Nat.le_of_ble_eq_true rfl) ?_
  intro p e s m below meth c S hr hk hnm hE hP ls hl
  obtain ⟨hx, hb, hml, hown, hts⟩ := id S
  have hown : s.vm.findClass RX6 = some m.cls := hown
  have hK := hE.1
  have hS : va_S (fun _ : Nat => False) s.heap s.heap [] := va_S.rf
  have hA : ∀ q, (fun _ : Nat => False) q → xB0 G ≤ q := fun _ h => h.elim
  have hP : va_P G.1 vwCl [(m0, .inr (6, [.ref aN, .ref aH, .int (nI kept), .ref aS, .int (nI fil), .int (nI ty), .ref aT, .int (nI at_), .int (nI nu)])), (aN, .inl (xcI G, 10276, .inl (nf N))), (aH, .inl (xcI G, 41104, .inl (nf Hs))), (aS, .inl (xcI G, 10276, .inl (nf Sl))), (aT, .inl (xcC G, 60, .inl (nf tx)))] s.heap := hP
  have hl : lv_has ls 4 [(0, .ref m0), (1, .int (nI r)), (2, .int (nI k)), (3, .int (nI j))] := hl
  refine lv_aload_n hx hb dX6_id_0 rfl (lv_at hl 0 rfl) ?_
  refine va_get (D := G.1) (ci := 6) (v := .ref aN) (C := RX6) (T := TX6) (N := 9) hx hb hts hi_X6_id_RX6 hown hK hP 0 rfl rfl 0 (by decide) (hts _ hw_X6_id_f7) (fun _ h9 => h9) rfl dX6_id_1 ?_
  refine lv_sipush (v := nI 403) hx hb dX6_id_4 (by decide) ?_
  refine lv_iload_n hx hb dX6_id_7 rfl (lv_at hl 1 rfl) ?_
  refine n_imul hx hb dX6_id_8 ?_
  refine lv_sipush (v := nI 301) hx hb dX6_id_9 (by decide) ?_
  refine n_iadd hx hb dX6_id_12 ?_
  refine lv_iload_n hx hb dX6_id_13 rfl (lv_at hl 2 rfl) ?_
  refine xrd (xrunS (As := [.int (nI k)]) (rest := [.int (nI ((403 * r) + 301)), .ref aN]) S (c_X6_begins l G k (by omega)) (va_cwS 1 hts gX6_id_X6_begins rfl rfl rfl (by decide +kernel) ⟨Nat.le_of_ble_eq_true rfl, Nat.le_of_ble_eq_true rfl⟩) hE hS hA trivial rfl rfl hl.1 (Nat.le_of_ble_eq_true rfl) dX6_id_14 ⟨Nat.le_of_ble_eq_true rfl, Nat.le_of_ble_eq_true rfl⟩) ?_
  refine n_iadd hx hb dX6_id_17 ?_
  refine lv_iload_n hx hb dX6_id_18 rfl (lv_at hl 3 rfl) ?_
  refine n_iadd hx hb dX6_id_19 ?_
  refine n_iald hx hb hK hP 1 0 rfl rfl hix (by decide) dX6_id_20 ?_
  exact xret_i hx hb hr hk dX6_id_21 rfl

theorem hw_X6_isFull_f7 : Cond.fieldLink RX6 7 "TailVectorsModel" "now" "[I" ∈ wsX6_isFull := by decide +kernel
theorem hi_X6_isFull_RX6 : ∀ w ∈ u_ws RX6 TX6 9, w ∈ wsX6_isFull := by decide +kernel
set_option maxHeartbeats 4000000 in
set_option maxRecDepth 100000 in
theorem c_X6_isFull (l : Launch) (G : xG) (m0 : Nat) (aN : Nat) (aH : Nat) (aS : Nat) (aT : Nat) (N : Nat → Nat) (Hs : Nat → Nat) (Sl : Nat → Nat) (tx : Nat → Nat) (kept : Nat) (fil : Nat) (ty : Nat) (at_ : Nat) (nu : Nat) (hN : ∀ j, N j < 2 ^ 24) : Met l yX6_isFull wsX6_isFull ({ frames := 0, cells := 0, slots := 0, locals := 0 } : Room) (xPc G [.ref m0] (fun H => va_P G.1 vwCl [(m0, .inr (6, [.ref aN, .ref aH, .int (nI kept), .ref aS, .int (nI fil), .int (nI ty), .ref aT, .int (nI at_), .int (nI nu)])), (aN, .inl (xcI G, 10276, .inl (nf N))), (aH, .inl (xcI G, 41104, .inl (nf Hs))), (aS, .inl (xcI G, 10276, .inl (nf Sl))), (aT, .inl (xcC G, 60, .inl (nf tx)))] H)) (k2_QcV (.int (bI (N 10171 = 24)))) 0 0 (fun _ => False) := by
  refine xMet (cc := cX6_isFull) (nL := 1) (ret := (some (.boolean))) (by decide) rfl (Nat.le_of_ble_eq_true rfl) ?_
  intro p e s m below meth c S hr hk hnm hE hP ls hl
  obtain ⟨hx, hb, hml, hown, hts⟩ := id S
  have hown : s.vm.findClass RX6 = some m.cls := hown
  have hK := hE.1
  have hS : va_S (fun _ : Nat => False) s.heap s.heap [] := va_S.rf
  have hA : ∀ q, (fun _ : Nat => False) q → xB0 G ≤ q := fun _ h => h.elim
  have hP : va_P G.1 vwCl [(m0, .inr (6, [.ref aN, .ref aH, .int (nI kept), .ref aS, .int (nI fil), .int (nI ty), .ref aT, .int (nI at_), .int (nI nu)])), (aN, .inl (xcI G, 10276, .inl (nf N))), (aH, .inl (xcI G, 41104, .inl (nf Hs))), (aS, .inl (xcI G, 10276, .inl (nf Sl))), (aT, .inl (xcC G, 60, .inl (nf tx)))] s.heap := hP
  have hl : lv_has ls 1 [(0, .ref m0)] := hl
  refine lv_aload_n hx hb dX6_isFull_0 rfl (lv_at hl 0 rfl) ?_
  refine va_get (D := G.1) (ci := 6) (v := .ref aN) (C := RX6) (T := TX6) (N := 9) hx hb hts hi_X6_isFull_RX6 hown hK hP 0 rfl rfl 0 (by decide) (hts _ hw_X6_isFull_f7) (fun _ h9 => h9) rfl dX6_isFull_1 ?_
  refine lv_sipush (v := nI 10171) hx hb dX6_isFull_4 (by decide) ?_
  refine n_iald hx hb hK hP 1 0 rfl rfl (by omega) (by decide) dX6_isFull_7 ?_
  refine lv_bipush (v := nI 24) hx hb dX6_isFull_8 (by decide) ?_
  refine n_icmp_ne (tgt := 17) hx hb (by have := hN 10171; omega) (by omega) dX6_isFull_10 (by decide) (fun c_10 => ?_) (fun c_10 => ?_)
  · refine lv_iconst (v := nI 0) hx hb dX6_isFull_17 rfl ?_
    exact xret_z hx hb hr hk dX6_isFull_18 (by first | exact Or.inl rfl | exact Or.inr rfl) (xb0 (by omega))
  · refine lv_iconst (v := nI 1) hx hb dX6_isFull_13 rfl ?_
    refine lv_goto (tgt := 18) hx hb dX6_isFull_14 (by decide) ?_
    exact xret_z hx hb hr hk dX6_isFull_18 (by first | exact Or.inl rfl | exact Or.inr rfl) (xb1 (by omega))

theorem hw_X6_noEdit_f7 : Cond.fieldLink RX6 7 "TailVectorsModel" "now" "[I" ∈ wsX6_noEdit := by decide +kernel
theorem hi_X6_noEdit_RX6 : ∀ w ∈ u_ws RX6 TX6 9, w ∈ wsX6_noEdit := by decide +kernel
set_option maxHeartbeats 4000000 in
set_option maxRecDepth 100000 in
theorem c_X6_noEdit (l : Launch) (G : xG) (m0 : Nat) (aN : Nat) (aH : Nat) (aS : Nat) (aT : Nat) (N : Nat → Nat) (Hs : Nat → Nat) (Sl : Nat → Nat) (tx : Nat → Nat) (kept : Nat) (fil : Nat) (ty : Nat) (at_ : Nat) (nu : Nat) (hN : ∀ j, N j < 2 ^ 24) : Met l yX6_noEdit wsX6_noEdit ({ frames := 0, cells := 0, slots := 0, locals := 0 } : Room) (xPc G [.ref m0] (fun H => va_P G.1 vwCl [(m0, .inr (6, [.ref aN, .ref aH, .int (nI kept), .ref aS, .int (nI fil), .int (nI ty), .ref aT, .int (nI at_), .int (nI nu)])), (aN, .inl (xcI G, 10276, .inl (nf N))), (aH, .inl (xcI G, 41104, .inl (nf Hs))), (aS, .inl (xcI G, 10276, .inl (nf Sl))), (aT, .inl (xcC G, 60, .inl (nf tx)))] H)) (k2_QcV (.int (bI (N 10173 = 0)))) 0 0 (fun _ => False) := by
  refine xMet (cc := cX6_noEdit) (nL := 1) (ret := (some (.boolean))) (by decide) rfl (Nat.le_of_ble_eq_true rfl) ?_
  intro p e s m below meth c S hr hk hnm hE hP ls hl
  obtain ⟨hx, hb, hml, hown, hts⟩ := id S
  have hown : s.vm.findClass RX6 = some m.cls := hown
  have hK := hE.1
  have hS : va_S (fun _ : Nat => False) s.heap s.heap [] := va_S.rf
  have hA : ∀ q, (fun _ : Nat => False) q → xB0 G ≤ q := fun _ h => h.elim
  have hP : va_P G.1 vwCl [(m0, .inr (6, [.ref aN, .ref aH, .int (nI kept), .ref aS, .int (nI fil), .int (nI ty), .ref aT, .int (nI at_), .int (nI nu)])), (aN, .inl (xcI G, 10276, .inl (nf N))), (aH, .inl (xcI G, 41104, .inl (nf Hs))), (aS, .inl (xcI G, 10276, .inl (nf Sl))), (aT, .inl (xcC G, 60, .inl (nf tx)))] s.heap := hP
  have hl : lv_has ls 1 [(0, .ref m0)] := hl
  refine lv_aload_n hx hb dX6_noEdit_0 rfl (lv_at hl 0 rfl) ?_
  refine va_get (D := G.1) (ci := 6) (v := .ref aN) (C := RX6) (T := TX6) (N := 9) hx hb hts hi_X6_noEdit_RX6 hown hK hP 0 rfl rfl 0 (by decide) (hts _ hw_X6_noEdit_f7) (fun _ h9 => h9) rfl dX6_noEdit_1 ?_
  refine lv_sipush (v := nI 10173) hx hb dX6_noEdit_4 (by decide) ?_
  refine n_iald hx hb hK hP 1 0 rfl rfl (by omega) (by decide) dX6_noEdit_7 ?_
  refine n_if_ne (tgt := 15) hx hb (by have := hN 10173; omega) dX6_noEdit_8 (by decide) (fun c_8 => ?_) (fun c_8 => ?_)
  · refine lv_iconst (v := nI 0) hx hb dX6_noEdit_15 rfl ?_
    exact xret_z hx hb hr hk dX6_noEdit_16 (by first | exact Or.inl rfl | exact Or.inr rfl) (xb0 (by omega))
  · refine lv_iconst (v := nI 1) hx hb dX6_noEdit_11 rfl ?_
    refine lv_goto (tgt := 16) hx hb dX6_noEdit_12 (by decide) ?_
    exact xret_z hx hb hr hk dX6_noEdit_16 (by first | exact Or.inl rfl | exact Or.inr rfl) (xb1 (by omega))
end
section
theorem zz_last : True := trivial
end
