section
-- ===== PART A: goes FIRST, ahead of the names: the tables' words, and 'selects' of the private methods out of them =====
/-- a private method of a class that the tables say can be made, by its rows of tables_1 -/
def lw_okq (q : MethodName × Nat) : Prop := (q.1.cls ≠ "java/lang/invoke/MethodHandle" ∧ q.1.cls ≠ "java/lang/invoke/VarHandle") ∧ Cond.instantiable q.1.cls q.2 ∈ tables_1 ∧ Cond.privateMethod q.1 ∈ tables_1 ∧ Cond.instanceMethod q.1 ∈ tables_1
theorem lw_p0 : lw_okq (⟨"RisingPiles", "recorded", "(I)I"⟩, 10) := ⟨⟨by decide +kernel, by decide +kernel⟩, List.mem_of_getElem? (i := 14) (by decide +kernel), List.mem_of_getElem? (i := 283) (by decide +kernel), List.mem_of_getElem? (i := 284) (by decide +kernel)⟩
theorem lw_p1 : lw_okq (⟨"RisingPiles$History", "dropOldest", "()V"⟩, 2) := ⟨⟨by decide +kernel, by decide +kernel⟩, List.mem_of_getElem? (i := 120) (by decide +kernel), List.mem_of_getElem? (i := 291) (by decide +kernel), List.mem_of_getElem? (i := 292) (by decide +kernel)⟩
theorem lw_p2 : lw_okq (⟨"RisingPiles$History", "stateAt", "(I)LRisingPiles$State;"⟩, 2) := ⟨⟨by decide +kernel, by decide +kernel⟩, List.mem_of_getElem? (i := 120) (by decide +kernel), List.mem_of_getElem? (i := 295) (by decide +kernel), List.mem_of_getElem? (i := 296) (by decide +kernel)⟩
theorem lw_p3 : lw_okq (⟨"RisingPiles$Piles", "has", "(I)Z"⟩, 8) := ⟨⟨by decide +kernel, by decide +kernel⟩, List.mem_of_getElem? (i := 28) (by decide +kernel), List.mem_of_getElem? (i := 316) (by decide +kernel), List.mem_of_getElem? (i := 317) (by decide +kernel)⟩
theorem lw_p4 : lw_okq (⟨"RisingPiles$Roads", "setLength", "(III)V"⟩, 2) := ⟨⟨by decide +kernel, by decide +kernel⟩, List.mem_of_getElem? (i := 82) (by decide +kernel), List.mem_of_getElem? (i := 406) (by decide +kernel), List.mem_of_getElem? (i := 407) (by decide +kernel)⟩
theorem lw_p5 : lw_okq (⟨"RisingPiles$Orders", "readOrder", "(LRisingPiles$Text;)Z"⟩, 5) := ⟨⟨by decide +kernel, by decide +kernel⟩, List.mem_of_getElem? (i := 150) (by decide +kernel), List.mem_of_getElem? (i := 442) (by decide +kernel), List.mem_of_getElem? (i := 443) (by decide +kernel)⟩
theorem lw_p6 : lw_okq (⟨"RisingPiles$Orders", "readComeIn", "(LRisingPiles$Text;)Z"⟩, 5) := ⟨⟨by decide +kernel, by decide +kernel⟩, List.mem_of_getElem? (i := 150) (by decide +kernel), List.mem_of_getElem? (i := 450) (by decide +kernel), List.mem_of_getElem? (i := 451) (by decide +kernel)⟩
theorem lw_p7 : lw_okq (⟨"RisingPiles$Orders", "readNumber", "(LRisingPiles$Text;I)I"⟩, 5) := ⟨⟨by decide +kernel, by decide +kernel⟩, List.mem_of_getElem? (i := 150) (by decide +kernel), List.mem_of_getElem? (i := 455) (by decide +kernel), List.mem_of_getElem? (i := 456) (by decide +kernel)⟩
theorem lw_p8 : lw_okq (⟨"RisingPiles$Orders", "put", "(CII)Z"⟩, 5) := ⟨⟨by decide +kernel, by decide +kernel⟩, List.mem_of_getElem? (i := 150) (by decide +kernel), List.mem_of_getElem? (i := 462) (by decide +kernel), List.mem_of_getElem? (i := 463) (by decide +kernel)⟩
theorem lw_p9 : lw_okq (⟨"RisingPiles$Orders", "readComeOut", "()Z"⟩, 5) := ⟨⟨by decide +kernel, by decide +kernel⟩, List.mem_of_getElem? (i := 150) (by decide +kernel), List.mem_of_getElem? (i := 466) (by decide +kernel), List.mem_of_getElem? (i := 467) (by decide +kernel)⟩
theorem lw_p10 : lw_okq (⟨"RisingPiles$Orders", "readTakeBack", "(LRisingPiles$Text;)Z"⟩, 5) := ⟨⟨by decide +kernel, by decide +kernel⟩, List.mem_of_getElem? (i := 150) (by decide +kernel), List.mem_of_getElem? (i := 470) (by decide +kernel), List.mem_of_getElem? (i := 471) (by decide +kernel)⟩
theorem lw_p11 : lw_okq (⟨"RisingPiles$Orders", "readMakeLess", "(LRisingPiles$Text;)Z"⟩, 5) := ⟨⟨by decide +kernel, by decide +kernel⟩, List.mem_of_getElem? (i := 150) (by decide +kernel), List.mem_of_getElem? (i := 474) (by decide +kernel), List.mem_of_getElem? (i := 475) (by decide +kernel)⟩
theorem lw_p12 : lw_okq (⟨"RisingPiles$Orders", "has", "(I)Z"⟩, 5) := ⟨⟨by decide +kernel, by decide +kernel⟩, List.mem_of_getElem? (i := 150) (by decide +kernel), List.mem_of_getElem? (i := 486) (by decide +kernel), List.mem_of_getElem? (i := 487) (by decide +kernel)⟩
theorem lw_p13 : lw_okq (⟨"RisingPiles$Piles", "rankAt", "(I)I"⟩, 8) := ⟨⟨by decide +kernel, by decide +kernel⟩, List.mem_of_getElem? (i := 28) (by decide +kernel), List.mem_of_getElem? (i := 587) (by decide +kernel), List.mem_of_getElem? (i := 588) (by decide +kernel)⟩
theorem lw_p14 : lw_okq (⟨"RisingPiles$Search", "clear", "()V"⟩, 5) := ⟨⟨by decide +kernel, by decide +kernel⟩, List.mem_of_getElem? (i := 172) (by decide +kernel), List.mem_of_getElem? (i := 621) (by decide +kernel), List.mem_of_getElem? (i := 622) (by decide +kernel)⟩
theorem lw_p15 : lw_okq (⟨"RisingPiles$Search", "bringIn", "(II)V"⟩, 5) := ⟨⟨by decide +kernel, by decide +kernel⟩, List.mem_of_getElem? (i := 172) (by decide +kernel), List.mem_of_getElem? (i := 629) (by decide +kernel), List.mem_of_getElem? (i := 630) (by decide +kernel)⟩
def lw_privs_1 : List (MethodName × Nat) := [(⟨"RisingPiles", "recorded", "(I)I"⟩, 10), (⟨"RisingPiles$History", "dropOldest", "()V"⟩, 2), (⟨"RisingPiles$History", "stateAt", "(I)LRisingPiles$State;"⟩, 2), (⟨"RisingPiles$Piles", "has", "(I)Z"⟩, 8), (⟨"RisingPiles$Roads", "setLength", "(III)V"⟩, 2), (⟨"RisingPiles$Orders", "readOrder", "(LRisingPiles$Text;)Z"⟩, 5), (⟨"RisingPiles$Orders", "readComeIn", "(LRisingPiles$Text;)Z"⟩, 5), (⟨"RisingPiles$Orders", "readNumber", "(LRisingPiles$Text;I)I"⟩, 5), (⟨"RisingPiles$Orders", "put", "(CII)Z"⟩, 5), (⟨"RisingPiles$Orders", "readComeOut", "()Z"⟩, 5), (⟨"RisingPiles$Orders", "readTakeBack", "(LRisingPiles$Text;)Z"⟩, 5), (⟨"RisingPiles$Orders", "readMakeLess", "(LRisingPiles$Text;)Z"⟩, 5), (⟨"RisingPiles$Orders", "has", "(I)Z"⟩, 5), (⟨"RisingPiles$Piles", "rankAt", "(I)I"⟩, 8), (⟨"RisingPiles$Search", "clear", "()V"⟩, 5), (⟨"RisingPiles$Search", "bringIn", "(II)V"⟩, 5)]
theorem lw_r1 : ∀ q ∈ lw_privs_1, lw_okq q := List.forall_mem_cons.mpr ⟨lw_p0, List.forall_mem_cons.mpr ⟨lw_p1, List.forall_mem_cons.mpr ⟨lw_p2, List.forall_mem_cons.mpr ⟨lw_p3, List.forall_mem_cons.mpr ⟨lw_p4, List.forall_mem_cons.mpr ⟨lw_p5, List.forall_mem_cons.mpr ⟨lw_p6, List.forall_mem_cons.mpr ⟨lw_p7, List.forall_mem_cons.mpr ⟨lw_p8, List.forall_mem_cons.mpr ⟨lw_p9, List.forall_mem_cons.mpr ⟨lw_p10, List.forall_mem_cons.mpr ⟨lw_p11, List.forall_mem_cons.mpr ⟨lw_p12, List.forall_mem_cons.mpr ⟨lw_p13, List.forall_mem_cons.mpr ⟨lw_p14, List.forall_mem_cons.mpr ⟨lw_p15, fun _ h => absurd h List.not_mem_nil⟩⟩⟩⟩⟩⟩⟩⟩⟩⟩⟩⟩⟩⟩⟩⟩
theorem lw_p16 : lw_okq (⟨"RisingPiles$Search", "letOut", "(LRisingPiles$Roads;)V"⟩, 5) := ⟨⟨by decide +kernel, by decide +kernel⟩, List.mem_of_getElem? (i := 172) (by decide +kernel), List.mem_of_getElem? (i := 635) (by decide +kernel), List.mem_of_getElem? (i := 636) (by decide +kernel)⟩
theorem lw_p17 : lw_okq (⟨"RisingPiles$Search", "followRoads", "(IILRisingPiles$Roads;)V"⟩, 5) := ⟨⟨by decide +kernel, by decide +kernel⟩, List.mem_of_getElem? (i := 172) (by decide +kernel), List.mem_of_getElem? (i := 646) (by decide +kernel), List.mem_of_getElem? (i := 647) (by decide +kernel)⟩
theorem lw_p18 : lw_okq (⟨"RisingPilesModel", "records", "()V"⟩, 15) := ⟨⟨by decide +kernel, by decide +kernel⟩, List.mem_of_getElem? (i := 703) (by decide +kernel), List.mem_of_getElem? (i := 770) (by decide +kernel), List.mem_of_getElem? (i := 771) (by decide +kernel)⟩
theorem lw_p19 : lw_okq (⟨"RisingPilesModel", "recordsRow", "([I)V"⟩, 15) := ⟨⟨by decide +kernel, by decide +kernel⟩, List.mem_of_getElem? (i := 703) (by decide +kernel), List.mem_of_getElem? (i := 774) (by decide +kernel), List.mem_of_getElem? (i := 775) (by decide +kernel)⟩
theorem lw_p20 : lw_okq (⟨"RisingPilesModel", "mayIn", "(II)I"⟩, 15) := ⟨⟨by decide +kernel, by decide +kernel⟩, List.mem_of_getElem? (i := 703) (by decide +kernel), List.mem_of_getElem? (i := 782) (by decide +kernel), List.mem_of_getElem? (i := 783) (by decide +kernel)⟩
theorem lw_p21 : lw_okq (⟨"RisingPilesModel", "mayLess", "(II)I"⟩, 15) := ⟨⟨by decide +kernel, by decide +kernel⟩, List.mem_of_getElem? (i := 703) (by decide +kernel), List.mem_of_getElem? (i := 844) (by decide +kernel), List.mem_of_getElem? (i := 845) (by decide +kernel)⟩
theorem lw_p22 : lw_okq (⟨"RisingPilesModel", "makesLess", "(II)I"⟩, 15) := ⟨⟨by decide +kernel, by decide +kernel⟩, List.mem_of_getElem? (i := 703) (by decide +kernel), List.mem_of_getElem? (i := 851) (by decide +kernel), List.mem_of_getElem? (i := 852) (by decide +kernel)⟩
theorem lw_p23 : lw_okq (⟨"RisingPilesModel", "takesBack", "(I)I"⟩, 15) := ⟨⟨by decide +kernel, by decide +kernel⟩, List.mem_of_getElem? (i := 703) (by decide +kernel), List.mem_of_getElem? (i := 859) (by decide +kernel), List.mem_of_getElem? (i := 860) (by decide +kernel)⟩
theorem lw_p24 : lw_okq (⟨"RisingPilesModel", "roads", "()I"⟩, 15) := ⟨⟨by decide +kernel, by decide +kernel⟩, List.mem_of_getElem? (i := 703) (by decide +kernel), List.mem_of_getElem? (i := 873) (by decide +kernel), List.mem_of_getElem? (i := 874) (by decide +kernel)⟩
theorem lw_p25 : lw_okq (⟨"RisingPilesModel", "isText", "()Z"⟩, 15) := ⟨⟨by decide +kernel, by decide +kernel⟩, List.mem_of_getElem? (i := 703) (by decide +kernel), List.mem_of_getElem? (i := 893) (by decide +kernel), List.mem_of_getElem? (i := 894) (by decide +kernel)⟩
theorem lw_p26 : lw_okq (⟨"RisingPilesModel", "readsOrder", "()Z"⟩, 15) := ⟨⟨by decide +kernel, by decide +kernel⟩, List.mem_of_getElem? (i := 703) (by decide +kernel), List.mem_of_getElem? (i := 897) (by decide +kernel), List.mem_of_getElem? (i := 898) (by decide +kernel)⟩
theorem lw_p27 : lw_okq (⟨"RisingPilesModel", "takes", "(C)Z"⟩, 15) := ⟨⟨by decide +kernel, by decide +kernel⟩, List.mem_of_getElem? (i := 703) (by decide +kernel), List.mem_of_getElem? (i := 901) (by decide +kernel), List.mem_of_getElem? (i := 902) (by decide +kernel)⟩
theorem lw_p28 : lw_okq (⟨"RisingPilesModel", "sees", "(CC)Z"⟩, 15) := ⟨⟨by decide +kernel, by decide +kernel⟩, List.mem_of_getElem? (i := 703) (by decide +kernel), List.mem_of_getElem? (i := 905) (by decide +kernel), List.mem_of_getElem? (i := 906) (by decide +kernel)⟩
theorem lw_p29 : lw_okq (⟨"RisingPilesModel", "laysOrder", "(CII)Z"⟩, 15) := ⟨⟨by decide +kernel, by decide +kernel⟩, List.mem_of_getElem? (i := 703) (by decide +kernel), List.mem_of_getElem? (i := 909) (by decide +kernel), List.mem_of_getElem? (i := 910) (by decide +kernel)⟩
theorem lw_p30 : lw_okq (⟨"RisingPilesModel", "number", "(I)I"⟩, 15) := ⟨⟨by decide +kernel, by decide +kernel⟩, List.mem_of_getElem? (i := 703) (by decide +kernel), List.mem_of_getElem? (i := 913) (by decide +kernel), List.mem_of_getElem? (i := 914) (by decide +kernel)⟩
theorem lw_p31 : lw_okq (⟨"RisingPilesModel", "does", "(III)I"⟩, 15) := ⟨⟨by decide +kernel, by decide +kernel⟩, List.mem_of_getElem? (i := 703) (by decide +kernel), List.mem_of_getElem? (i := 917) (by decide +kernel), List.mem_of_getElem? (i := 918) (by decide +kernel)⟩
def lw_privs_2 : List (MethodName × Nat) := [(⟨"RisingPiles$Search", "letOut", "(LRisingPiles$Roads;)V"⟩, 5), (⟨"RisingPiles$Search", "followRoads", "(IILRisingPiles$Roads;)V"⟩, 5), (⟨"RisingPilesModel", "records", "()V"⟩, 15), (⟨"RisingPilesModel", "recordsRow", "([I)V"⟩, 15), (⟨"RisingPilesModel", "mayIn", "(II)I"⟩, 15), (⟨"RisingPilesModel", "mayLess", "(II)I"⟩, 15), (⟨"RisingPilesModel", "makesLess", "(II)I"⟩, 15), (⟨"RisingPilesModel", "takesBack", "(I)I"⟩, 15), (⟨"RisingPilesModel", "roads", "()I"⟩, 15), (⟨"RisingPilesModel", "isText", "()Z"⟩, 15), (⟨"RisingPilesModel", "readsOrder", "()Z"⟩, 15), (⟨"RisingPilesModel", "takes", "(C)Z"⟩, 15), (⟨"RisingPilesModel", "sees", "(CC)Z"⟩, 15), (⟨"RisingPilesModel", "laysOrder", "(CII)Z"⟩, 15), (⟨"RisingPilesModel", "number", "(I)I"⟩, 15), (⟨"RisingPilesModel", "does", "(III)I"⟩, 15)]
theorem lw_r2 : ∀ q ∈ lw_privs_2, lw_okq q := List.forall_mem_cons.mpr ⟨lw_p16, List.forall_mem_cons.mpr ⟨lw_p17, List.forall_mem_cons.mpr ⟨lw_p18, List.forall_mem_cons.mpr ⟨lw_p19, List.forall_mem_cons.mpr ⟨lw_p20, List.forall_mem_cons.mpr ⟨lw_p21, List.forall_mem_cons.mpr ⟨lw_p22, List.forall_mem_cons.mpr ⟨lw_p23, List.forall_mem_cons.mpr ⟨lw_p24, List.forall_mem_cons.mpr ⟨lw_p25, List.forall_mem_cons.mpr ⟨lw_p26, List.forall_mem_cons.mpr ⟨lw_p27, List.forall_mem_cons.mpr ⟨lw_p28, List.forall_mem_cons.mpr ⟨lw_p29, List.forall_mem_cons.mpr ⟨lw_p30, List.forall_mem_cons.mpr ⟨lw_p31, fun _ h => absurd h List.not_mem_nil⟩⟩⟩⟩⟩⟩⟩⟩⟩⟩⟩⟩⟩⟩⟩⟩
theorem lw_p32 : lw_okq (⟨"RisingPilesModel", "placeIn", "(I)I"⟩, 15) := ⟨⟨by decide +kernel, by decide +kernel⟩, List.mem_of_getElem? (i := 703) (by decide +kernel), List.mem_of_getElem? (i := 929) (by decide +kernel), List.mem_of_getElem? (i := 930) (by decide +kernel)⟩
theorem lw_p33 : lw_okq (⟨"RisingPilesModel", "nextOf", "(I)I"⟩, 15) := ⟨⟨by decide +kernel, by decide +kernel⟩, List.mem_of_getElem? (i := 703) (by decide +kernel), List.mem_of_getElem? (i := 944) (by decide +kernel), List.mem_of_getElem? (i := 945) (by decide +kernel)⟩
theorem lw_p34 : lw_okq (⟨"RisingPilesModel", "rankedNow", "(I)I"⟩, 15) := ⟨⟨by decide +kernel, by decide +kernel⟩, List.mem_of_getElem? (i := 703) (by decide +kernel), List.mem_of_getElem? (i := 952) (by decide +kernel), List.mem_of_getElem? (i := 953) (by decide +kernel)⟩
theorem lw_p35 : lw_okq (⟨"RisingPilesModel", "searches", "(I)V"⟩, 15) := ⟨⟨by decide +kernel, by decide +kernel⟩, List.mem_of_getElem? (i := 703) (by decide +kernel), List.mem_of_getElem? (i := 972) (by decide +kernel), List.mem_of_getElem? (i := 973) (by decide +kernel)⟩
theorem lw_p36 : lw_okq (⟨"RisingPilesModel", "roadsFrom", "(II)V"⟩, 15) := ⟨⟨by decide +kernel, by decide +kernel⟩, List.mem_of_getElem? (i := 703) (by decide +kernel), List.mem_of_getElem? (i := 976) (by decide +kernel), List.mem_of_getElem? (i := 977) (by decide +kernel)⟩
theorem lw_p37 : lw_okq (⟨"RisingPilesModel", "searched", "(II)I"⟩, 15) := ⟨⟨by decide +kernel, by decide +kernel⟩, List.mem_of_getElem? (i := 703) (by decide +kernel), List.mem_of_getElem? (i := 984) (by decide +kernel), List.mem_of_getElem? (i := 985) (by decide +kernel)⟩
theorem lw_p38 : lw_okq (⟨"RisingPilesModel", "pilesFull", "()I"⟩, 15) := ⟨⟨by decide +kernel, by decide +kernel⟩, List.mem_of_getElem? (i := 703) (by decide +kernel), List.mem_of_getElem? (i := 992) (by decide +kernel), List.mem_of_getElem? (i := 993) (by decide +kernel)⟩
def lw_privs_3 : List (MethodName × Nat) := [(⟨"RisingPilesModel", "placeIn", "(I)I"⟩, 15), (⟨"RisingPilesModel", "nextOf", "(I)I"⟩, 15), (⟨"RisingPilesModel", "rankedNow", "(I)I"⟩, 15), (⟨"RisingPilesModel", "searches", "(I)V"⟩, 15), (⟨"RisingPilesModel", "roadsFrom", "(II)V"⟩, 15), (⟨"RisingPilesModel", "searched", "(II)I"⟩, 15), (⟨"RisingPilesModel", "pilesFull", "()I"⟩, 15)]
theorem lw_r3 : ∀ q ∈ lw_privs_3, lw_okq q := List.forall_mem_cons.mpr ⟨lw_p32, List.forall_mem_cons.mpr ⟨lw_p33, List.forall_mem_cons.mpr ⟨lw_p34, List.forall_mem_cons.mpr ⟨lw_p35, List.forall_mem_cons.mpr ⟨lw_p36, List.forall_mem_cons.mpr ⟨lw_p37, List.forall_mem_cons.mpr ⟨lw_p38, fun _ h => absurd h List.not_mem_nil⟩⟩⟩⟩⟩⟩⟩
def lw_privs : List (MethodName × Nat) := lw_privs_1 ++ (lw_privs_2 ++ (lw_privs_3))
def lw_tbl : List Cond := k2_sels lw_privs ++ tables_1
theorem lw_privs_ok : ∀ q ∈ lw_privs, lw_okq q := by
  show ∀ q ∈ lw_privs_1 ++ (lw_privs_2 ++ (lw_privs_3)), lw_okq q
  exact List.forall_mem_append.mpr ⟨lw_r1, List.forall_mem_append.mpr ⟨lw_r2, lw_r3⟩⟩

def rz_tbl : List Cond := lw_tbl.filter goodWord
theorem rz_in {w : Cond} (h : w ∈ lw_tbl) (g : goodWord w = true) : w ∈ rz_tbl := List.mem_filter.mpr ⟨h, g⟩
theorem rz_goodIn {ws : List Cond} (h : ∀ w ∈ ws, w ∈ rz_tbl) : GoodIn rz_tbl ws := fun w hw => ⟨h w hw, good_of_word (List.mem_filter.mp (h w hw)).2⟩
-- names: the classes by number, their fields in the order of the slots, their types
def rz_R0 : String := "RisingPiles$History"
def rz_T0 : u_T := fun k => match k with
  | 0 => ("RisingPiles$History", "states", "[LRisingPiles$State;", true)
  | _ => ("RisingPiles$History", "held", "I", false)
def rz_ty0 : Nat → FieldType := fun k => match k with
  | 0 => .array (.object "RisingPiles$State")
  | _ => .int
theorem rz_nm0 : ∀ a, a < 2 → ∀ b, b < 2 → a ≠ b → (rz_T0 a).2.1 ≠ (rz_T0 b).2.1 := by decide +kernel
theorem rz_tok0 : ∀ k, k < 2 → parseFieldDescriptor (rz_T0 k).2.2.1 = some (rz_ty0 k) := by decide +kernel
theorem rz_lay0 : ∀ w ∈ u_ws rz_R0 rz_T0 2, w ∈ rz_tbl := by decide +kernel
def rz_R1 : String := "RisingPiles$Latest"
def rz_T1 : u_T := fun k => match k with
  | 0 => ("RisingPiles$Latest", "numbers", "[I", true)
  | 1 => ("RisingPiles$Latest", "keys", "[I", true)
  | 2 => ("RisingPiles$Latest", "values", "[I", true)
  | 3 => ("RisingPiles$Latest", "moves", "[I", true)
  | _ => ("RisingPiles$Latest", "held", "I", false)
def rz_ty1 : Nat → FieldType := fun k => match k with
  | 0 => .array .int
  | 1 => .array .int
  | 2 => .array .int
  | 3 => .array .int
  | _ => .int
theorem rz_nm1 : ∀ a, a < 5 → ∀ b, b < 5 → a ≠ b → (rz_T1 a).2.1 ≠ (rz_T1 b).2.1 := by decide +kernel
theorem rz_tok1 : ∀ k, k < 5 → parseFieldDescriptor (rz_T1 k).2.2.1 = some (rz_ty1 k) := by decide +kernel
theorem rz_lay1 : ∀ w ∈ u_ws rz_R1 rz_T1 5, w ∈ rz_tbl := by decide +kernel
def rz_R2 : String := "RisingPiles$Orders"
def rz_T2 : u_T := fun k => match k with
  | 0 => ("RisingPiles$Orders", "kinds", "[C", true)
  | 1 => ("RisingPiles$Orders", "firsts", "[I", true)
  | 2 => ("RisingPiles$Orders", "seconds", "[I", true)
  | 3 => ("RisingPiles$Orders", "held", "I", false)
  | _ => ("RisingPiles$Orders", "place", "I", false)
def rz_ty2 : Nat → FieldType := fun k => match k with
  | 0 => .array .char
  | 1 => .array .int
  | 2 => .array .int
  | 3 => .int
  | _ => .int
theorem rz_nm2 : ∀ a, a < 5 → ∀ b, b < 5 → a ≠ b → (rz_T2 a).2.1 ≠ (rz_T2 b).2.1 := by decide +kernel
theorem rz_tok2 : ∀ k, k < 5 → parseFieldDescriptor (rz_T2 k).2.2.1 = some (rz_ty2 k) := by decide +kernel
theorem rz_lay2 : ∀ w ∈ u_ws rz_R2 rz_T2 5, w ∈ rz_tbl := by decide +kernel
def rz_R3 : String := "RisingPiles$Piles"
def rz_T3 : u_T := fun k => match k with
  | 0 => ("RisingPiles$Piles", "numbers", "[I", true)
  | 1 => ("RisingPiles$Piles", "keys", "[I", true)
  | 2 => ("RisingPiles$Piles", "values", "[I", true)
  | 3 => ("RisingPiles$Piles", "moves", "[I", true)
  | 4 => ("RisingPiles$Piles", "piles", "[I", true)
  | 5 => ("RisingPiles$Piles", "held", "I", false)
  | 6 => ("RisingPiles$Piles", "floor", "I", false)
  | _ => ("RisingPiles$Piles", "allMoves", "I", false)
def rz_ty3 : Nat → FieldType := fun k => match k with
  | 0 => .array .int
  | 1 => .array .int
  | 2 => .array .int
  | 3 => .array .int
  | 4 => .array .int
  | 5 => .int
  | 6 => .int
  | _ => .int
theorem rz_nm3 : ∀ a, a < 8 → ∀ b, b < 8 → a ≠ b → (rz_T3 a).2.1 ≠ (rz_T3 b).2.1 := by decide +kernel
theorem rz_tok3 : ∀ k, k < 8 → parseFieldDescriptor (rz_T3 k).2.2.1 = some (rz_ty3 k) := by decide +kernel
theorem rz_lay3 : ∀ w ∈ u_ws rz_R3 rz_T3 8, w ∈ rz_tbl := by decide +kernel
def rz_R4 : String := "RisingPiles$Roads"
def rz_T4 : u_T := fun k => match k with
  | 0 => ("RisingPiles$Roads", "lengths", "[I", true)
  | _ => ("RisingPiles$Roads", "laid", "I", false)
def rz_ty4 : Nat → FieldType := fun k => match k with
  | 0 => .array .int
  | _ => .int
theorem rz_nm4 : ∀ a, a < 2 → ∀ b, b < 2 → a ≠ b → (rz_T4 a).2.1 ≠ (rz_T4 b).2.1 := by decide +kernel
theorem rz_tok4 : ∀ k, k < 2 → parseFieldDescriptor (rz_T4 k).2.2.1 = some (rz_ty4 k) := by decide +kernel
theorem rz_lay4 : ∀ w ∈ u_ws rz_R4 rz_T4 2, w ∈ rz_tbl := by decide +kernel
def rz_R5 : String := "RisingPiles$Search"
def rz_T5 : u_T := fun k => match k with
  | 0 => ("RisingPiles$Search", "piles", "LRisingPiles$Piles;", true)
  | 1 => ("RisingPiles$Search", "distances", "[I", true)
  | 2 => ("RisingPiles$Search", "townsDone", "I", false)
  | 3 => ("RisingPiles$Search", "cameIn", "I", false)
  | _ => ("RisingPiles$Search", "greatest", "I", false)
def rz_ty5 : Nat → FieldType := fun k => match k with
  | 0 => .object "RisingPiles$Piles"
  | 1 => .array .int
  | 2 => .int
  | 3 => .int
  | _ => .int
theorem rz_nm5 : ∀ a, a < 5 → ∀ b, b < 5 → a ≠ b → (rz_T5 a).2.1 ≠ (rz_T5 b).2.1 := by decide +kernel
theorem rz_tok5 : ∀ k, k < 5 → parseFieldDescriptor (rz_T5 k).2.2.1 = some (rz_ty5 k) := by decide +kernel
theorem rz_lay5 : ∀ w ∈ u_ws rz_R5 rz_T5 5, w ∈ rz_tbl := by decide +kernel
def rz_R6 : String := "RisingPiles$State"
def rz_T6 : u_T := fun k => match k with
  | 0 => ("RisingPiles$State", "piles", "LRisingPiles$Piles;", true)
  | 1 => ("RisingPiles$State", "latest", "LRisingPiles$Latest;", true)
  | 2 => ("RisingPiles$State", "roads", "LRisingPiles$Roads;", true)
  | 3 => ("RisingPiles$State", "cameIn", "I", false)
  | 4 => ("RisingPiles$State", "cameOut", "I", false)
  | _ => ("RisingPiles$State", "takenBack", "I", false)
def rz_ty6 : Nat → FieldType := fun k => match k with
  | 0 => .object "RisingPiles$Piles"
  | 1 => .object "RisingPiles$Latest"
  | 2 => .object "RisingPiles$Roads"
  | 3 => .int
  | 4 => .int
  | _ => .int
theorem rz_nm6 : ∀ a, a < 6 → ∀ b, b < 6 → a ≠ b → (rz_T6 a).2.1 ≠ (rz_T6 b).2.1 := by decide +kernel
theorem rz_tok6 : ∀ k, k < 6 → parseFieldDescriptor (rz_T6 k).2.2.1 = some (rz_ty6 k) := by decide +kernel
theorem rz_lay6 : ∀ w ∈ u_ws rz_R6 rz_T6 6, w ∈ rz_tbl := by decide +kernel
def rz_R7 : String := "RisingPiles$Text"
def rz_T7 : u_T := fun k => match k with
  | 0 => ("RisingPiles$Text", "signs", "[C", true)
  | _ => ("RisingPiles$Text", "length", "I", false)
def rz_ty7 : Nat → FieldType := fun k => match k with
  | 0 => .array .char
  | _ => .int
theorem rz_nm7 : ∀ a, a < 2 → ∀ b, b < 2 → a ≠ b → (rz_T7 a).2.1 ≠ (rz_T7 b).2.1 := by decide +kernel
theorem rz_tok7 : ∀ k, k < 2 → parseFieldDescriptor (rz_T7 k).2.2.1 = some (rz_ty7 k) := by decide +kernel
theorem rz_lay7 : ∀ w ∈ u_ws rz_R7 rz_T7 2, w ∈ rz_tbl := by decide +kernel
def rz_R8 : String := "RisingPiles"
def rz_T8 : u_T := fun k => match k with
  | 0 => ("RisingPiles", "now", "LRisingPiles$State;", true)
  | 1 => ("RisingPiles", "before", "LRisingPiles$State;", true)
  | 2 => ("RisingPiles", "snapshot", "LRisingPiles$State;", true)
  | 3 => ("RisingPiles", "history", "LRisingPiles$History;", true)
  | 4 => ("RisingPiles", "text", "LRisingPiles$Text;", true)
  | 5 => ("RisingPiles", "orders", "LRisingPiles$Orders;", true)
  | 6 => ("RisingPiles", "ways", "LRisingPiles$Search;", true)
  | 7 => ("RisingPiles", "snapshotTaken", "Z", false)
  | 8 => ("RisingPiles", "refusedOrder", "I", false)
  | _ => ("RisingPiles", "refusedError", "I", false)
def rz_ty8 : Nat → FieldType := fun k => match k with
  | 0 => .object "RisingPiles$State"
  | 1 => .object "RisingPiles$State"
  | 2 => .object "RisingPiles$State"
  | 3 => .object "RisingPiles$History"
  | 4 => .object "RisingPiles$Text"
  | 5 => .object "RisingPiles$Orders"
  | 6 => .object "RisingPiles$Search"
  | 7 => .boolean
  | 8 => .int
  | _ => .int
theorem rz_nm8 : ∀ a, a < 10 → ∀ b, b < 10 → a ≠ b → (rz_T8 a).2.1 ≠ (rz_T8 b).2.1 := by decide +kernel
theorem rz_tok8 : ∀ k, k < 10 → parseFieldDescriptor (rz_T8 k).2.2.1 = some (rz_ty8 k) := by decide +kernel
theorem rz_lay8 : ∀ w ∈ u_ws rz_R8 rz_T8 10, w ∈ rz_tbl := by decide +kernel
def rz_R9 : String := "RisingPilesModel"
def rz_T9 : u_T := fun k => match k with
  | 0 => ("RisingPilesModel", "s", "[I", true)
  | 1 => ("RisingPilesModel", "aside", "[I", true)
  | 2 => ("RisingPilesModel", "other", "[I", true)
  | 3 => ("RisingPilesModel", "past", "[I", true)
  | 4 => ("RisingPilesModel", "saved", "I", false)
  | 5 => ("RisingPilesModel", "shot", "[I", true)
  | 6 => ("RisingPilesModel", "isShot", "Z", false)
  | 7 => ("RisingPilesModel", "text", "[C", true)
  | 8 => ("RisingPilesModel", "length", "I", false)
  | 9 => ("RisingPilesModel", "refusedOrder", "I", false)
  | 10 => ("RisingPilesModel", "refusedBy", "I", false)
  | 11 => ("RisingPilesModel", "spot", "I", false)
  | 12 => ("RisingPilesModel", "orders", "[I", true)
  | 13 => ("RisingPilesModel", "ordered", "I", false)
  | _ => ("RisingPilesModel", "far", "[I", true)
def rz_ty9 : Nat → FieldType := fun k => match k with
  | 0 => .array .int
  | 1 => .array .int
  | 2 => .array .int
  | 3 => .array .int
  | 4 => .int
  | 5 => .array .int
  | 6 => .boolean
  | 7 => .array .char
  | 8 => .int
  | 9 => .int
  | 10 => .int
  | 11 => .int
  | 12 => .array .int
  | 13 => .int
  | _ => .array .int
theorem rz_nm9 : ∀ a, a < 15 → ∀ b, b < 15 → a ≠ b → (rz_T9 a).2.1 ≠ (rz_T9 b).2.1 := by decide +kernel
theorem rz_tok9 : ∀ k, k < 15 → parseFieldDescriptor (rz_T9 k).2.2.1 = some (rz_ty9 k) := by decide +kernel
theorem rz_lay9 : ∀ w ∈ u_ws rz_R9 rz_T9 15, w ∈ rz_tbl := by decide +kernel
abbrev rz_cls : List vw_C := [(rz_R0, rz_T0, 2), (rz_R1, rz_T1, 5), (rz_R2, rz_T2, 5), (rz_R3, rz_T3, 8), (rz_R4, rz_T4, 2), (rz_R5, rz_T5, 5), (rz_R6, rz_T6, 6), (rz_R7, rz_T7, 2), (rz_R8, rz_T8, 10), (rz_R9, rz_T9, 15)]
def rz_R : Nat → String := fun k => match k with
  | 0 => rz_R0
  | 1 => rz_R1
  | 2 => rz_R2
  | 3 => rz_R3
  | 4 => rz_R4
  | 5 => rz_R5
  | 6 => rz_R6
  | 7 => rz_R7
  | 8 => rz_R8
  | 9 => rz_R9
  | _ => ""
def rz_T : Nat → u_T := fun k => match k with
  | 0 => rz_T0
  | 1 => rz_T1
  | 2 => rz_T2
  | 3 => rz_T3
  | 4 => rz_T4
  | 5 => rz_T5
  | 6 => rz_T6
  | 7 => rz_T7
  | 8 => rz_T8
  | 9 => rz_T9
  | _ => rz_T0
def rz_N : Nat → Nat := fun k => match k with
  | 0 => 2
  | 1 => 5
  | 2 => 5
  | 3 => 8
  | 4 => 2
  | 5 => 5
  | 6 => 6
  | 7 => 2
  | 8 => 10
  | 9 => 15
  | _ => 0
def rz_ty : Nat → (Nat → FieldType) := fun k => match k with
  | 0 => rz_ty0
  | 1 => rz_ty1
  | 2 => rz_ty2
  | 3 => rz_ty3
  | 4 => rz_ty4
  | 5 => rz_ty5
  | 6 => rz_ty6
  | 7 => rz_ty7
  | 8 => rz_ty8
  | 9 => rz_ty9
  | _ => (fun _ => .int)
-- methods by number
-- 0 RisingPiles$History.<init>()V
-- 1 RisingPiles$History.size()I
-- 2 RisingPiles$History.stateAt(I)LRisingPiles$State;
-- 3 RisingPiles$History.put(LRisingPiles$State;)V
-- 4 RisingPiles$History.dropOldest()V
-- 5 RisingPiles$History.giveLatestTo(LRisingPiles$State;)I
-- 6 RisingPiles$Latest.<init>()V
-- 7 RisingPiles$Latest.copyFrom(LRisingPiles$Latest;)V
-- 8 RisingPiles$Latest.put(IIII)V
-- 9 RisingPiles$Latest.putFirst([II)V
-- 10 RisingPiles$Latest.tell(II)I
-- 11 RisingPiles$Orders.<init>()V
-- 12 RisingPiles$Orders.size()I
-- 13 RisingPiles$Orders.has(I)Z
-- 14 RisingPiles$Orders.kindAt(I)I
-- 15 RisingPiles$Orders.firstAt(I)I
-- 16 RisingPiles$Orders.secondAt(I)I
-- 17 RisingPiles$Orders.readFrom(LRisingPiles$Text;)I
-- 18 RisingPiles$Orders.readOrder(LRisingPiles$Text;)Z
-- 19 RisingPiles$Orders.readComeIn(LRisingPiles$Text;)Z
-- 20 RisingPiles$Orders.readComeOut()Z
-- 21 RisingPiles$Orders.readTakeBack(LRisingPiles$Text;)Z
-- 22 RisingPiles$Orders.readMakeLess(LRisingPiles$Text;)Z
-- 23 RisingPiles$Orders.readNumber(LRisingPiles$Text;I)I
-- 24 RisingPiles$Orders.withDigit(II)I
-- 25 RisingPiles$Orders.put(CII)Z
-- 26 RisingPiles$Piles.<init>()V
-- 27 RisingPiles$Piles.copyFrom(LRisingPiles$Piles;)V
-- 28 RisingPiles$Piles.clear()V
-- 29 RisingPiles$Piles.size()I
-- 30 RisingPiles$Piles.floor()I
-- 31 RisingPiles$Piles.allMoves()I
-- 32 RisingPiles$Piles.isFull()Z
-- 33 RisingPiles$Piles.has(I)Z
-- 34 RisingPiles$Piles.numberAt(I)I
-- 35 RisingPiles$Piles.keyAt(I)I
-- 36 RisingPiles$Piles.valueAt(I)I
-- 37 RisingPiles$Piles.movesAt(I)I
-- 38 RisingPiles$Piles.pileAt(I)I
-- 39 RisingPiles$Piles.placeAt(I)I
-- 40 RisingPiles$Piles.indexOf(I)I
-- 41 RisingPiles$Piles.append(IIII)V
-- 42 RisingPiles$Piles.removeAt(I)V
-- 43 RisingPiles$Piles.pileFor(I)I
-- 44 RisingPiles$Piles.lessenAt(II)I
-- 45 RisingPiles$Piles.indexOfNext()I
-- 46 RisingPiles$Piles.indexOfRank(I)I
-- 47 RisingPiles$Piles.rankAt(I)I
-- 48 RisingPiles$Piles.movesToReach(I)I
-- 49 RisingPiles$Piles.reach(I)V
-- 50 RisingPiles$Piles.sizeOf(I)I
-- 51 RisingPiles$Piles.leastKeyOf(I)I
-- 52 RisingPiles$Piles.greatestKeyOf(I)I
-- 53 RisingPiles$Piles.frontOf(I)I
-- 54 RisingPiles$Piles.sumOfPiles()I
-- 55 RisingPiles$Piles.pilesInUse()I
-- 56 RisingPiles$Roads.<init>()V
-- 57 RisingPiles$Roads.copyFrom(LRisingPiles$Roads;)V
-- 58 RisingPiles$Roads.size()I
-- 59 RisingPiles$Roads.lengthOf(II)I
-- 60 RisingPiles$Roads.setLength(III)V
-- 61 RisingPiles$Roads.lay(III)I
-- 62 RisingPiles$Roads.remove(II)I
-- 63 RisingPiles$Search.<init>()V
-- 64 RisingPiles$Search.townsDone()I
-- 65 RisingPiles$Search.cameIn()I
-- 66 RisingPiles$Search.moves()I
-- 67 RisingPiles$Search.greatestDistance()I
-- 68 RisingPiles$Search.distanceOf(I)I
-- 69 RisingPiles$Search.findFrom(ILRisingPiles$Roads;)V
-- 70 RisingPiles$Search.clear()V
-- 71 RisingPiles$Search.bringIn(II)V
-- 72 RisingPiles$Search.letOut(LRisingPiles$Roads;)V
-- 73 RisingPiles$Search.followRoads(IILRisingPiles$Roads;)V
-- 74 RisingPiles$State.<init>()V
-- 75 RisingPiles$State.copyFrom(LRisingPiles$State;)V
-- 76 RisingPiles$State.bringIn(II)I
-- 77 RisingPiles$State.letOut()I
-- 78 RisingPiles$State.letOutUpTo(I)I
-- 79 RisingPiles$State.makeLess(II)I
-- 80 RisingPiles$State.giveBack(I)I
-- 81 RisingPiles$State.carryOut(III)I
-- 82 RisingPiles$Text.<init>()V
-- 83 RisingPiles$Text.size()I
-- 84 RisingPiles$Text.append(C)I
-- 85 RisingPiles$Text.clear()I
-- 86 RisingPiles$Text.signAt(I)I
-- 87 RisingPiles.<init>()V
-- 88 RisingPiles.comeIn(II)I
-- 89 RisingPiles.comeOut()I
-- 90 RisingPiles.comeOutUpTo(I)I
-- 91 RisingPiles.less(II)I
-- 92 RisingPiles.takeBack(I)I
-- 93 RisingPiles.road(III)I
-- 94 RisingPiles.unroad(II)I
-- 95 RisingPiles.type(C)I
-- 96 RisingPiles.clearText()I
-- 97 RisingPiles.perform()I
-- 98 RisingPiles.refusal(I)I
-- 99 RisingPiles.undo()I
-- 100 RisingPiles.keep()I
-- 101 RisingPiles.restore()I
-- 102 RisingPiles.entry(II)I
-- 103 RisingPiles.pile(II)I
-- 104 RisingPiles.next(I)I
-- 105 RisingPiles.ranked(I)I
-- 106 RisingPiles.movesLeft()I
-- 107 RisingPiles.out(II)I
-- 108 RisingPiles.roadOf(II)I
-- 109 RisingPiles.distance(II)I
-- 110 RisingPiles.search(II)I
-- 111 RisingPiles.count(I)I
-- 112 RisingPiles.recorded(I)I
-- 113 RisingPiles.isError(I)Z
-- 114 RisingPiles.isKey(I)Z
-- 115 RisingPiles.isTown(I)Z
-- 116 RisingPiles.copyRow([I[I)V
-- 117 RisingPilesModel.<init>()V
-- 118 RisingPilesModel.in(III)Z
-- 119 RisingPilesModel.lays([II[II)V
-- 120 RisingPilesModel.recordsRow([I)V
-- 121 RisingPilesModel.records()V
-- 122 RisingPilesModel.undo()I
-- 123 RisingPilesModel.keep()I
-- 124 RisingPilesModel.restore()I
-- 125 RisingPilesModel.of([III)I
-- 126 RisingPilesModel.puts([IIII)V
-- 127 RisingPilesModel.pileFor([II)I
-- 128 RisingPilesModel.frontOf([II)I
-- 129 RisingPilesModel.lowestPile([I)I
-- 130 RisingPilesModel.manyIn([II)I
-- 131 RisingPilesModel.keyIn([IIZ)I
-- 132 RisingPilesModel.stands([III)V
-- 133 RisingPilesModel.moves([II)V
-- 134 RisingPilesModel.comesIn([III)I
-- 135 RisingPilesModel.drops([II)V
-- 136 RisingPilesModel.tells([II)V
-- 137 RisingPilesModel.empties([I)V
-- 138 RisingPilesModel.comesOut([I)I
-- 139 RisingPilesModel.slotOf([II)I
-- 140 RisingPilesModel.mayIn(II)I
-- 141 RisingPilesModel.comeIn(II)I
-- 142 RisingPilesModel.comeOut()I
-- 143 RisingPilesModel.nextKey([I)I
-- 144 RisingPilesModel.comeOutUpTo(I)I
-- 145 RisingPilesModel.mayLess(II)I
-- 146 RisingPilesModel.makesLess(II)I
-- 147 RisingPilesModel.less(II)I
-- 148 RisingPilesModel.takesBack(I)I
-- 149 RisingPilesModel.takeBack(I)I
-- 150 RisingPilesModel.isTown(I)Z
-- 151 RisingPilesModel.roads()I
-- 152 RisingPilesModel.placeOf(II)I
-- 153 RisingPilesModel.road(III)I
-- 154 RisingPilesModel.unroad(II)I
-- 155 RisingPilesModel.type(C)I
-- 156 RisingPilesModel.clearText()I
-- 157 RisingPilesModel.sees(CC)Z
-- 158 RisingPilesModel.takes(C)Z
-- 159 RisingPilesModel.number(I)I
-- 160 RisingPilesModel.laysOrder(CII)Z
-- 161 RisingPilesModel.readsOrder()Z
-- 162 RisingPilesModel.isText()Z
-- 163 RisingPilesModel.does(III)I
-- 164 RisingPilesModel.perform()I
-- 165 RisingPilesModel.refusal(I)I
-- 166 RisingPilesModel.placeIn(I)I
-- 167 RisingPilesModel.entry(II)I
-- 168 RisingPilesModel.pile(II)I
-- 169 RisingPilesModel.nextOf(I)I
-- 170 RisingPilesModel.next(I)I
-- 171 RisingPilesModel.rankedNow(I)I
-- 172 RisingPilesModel.ranked(I)I
-- 173 RisingPilesModel.movesLeft()I
-- 174 RisingPilesModel.out(II)I
-- 175 RisingPilesModel.roadOf(II)I
-- 176 RisingPilesModel.roadsFrom(II)V
-- 177 RisingPilesModel.searches(I)V
-- 178 RisingPilesModel.distance(II)I
-- 179 RisingPilesModel.searched(II)I
-- 180 RisingPilesModel.search(II)I
-- 181 RisingPilesModel.pilesFull()I
-- 182 RisingPilesModel.count(I)I
def rz_B : Nat → ByteArray := fun k => match k with
  | 0 => prog_2_method_1_code
  | 1 => prog_2_method_2_code
  | 2 => prog_2_method_3_code
  | 3 => prog_2_method_4_code
  | 4 => prog_2_method_5_code
  | 5 => prog_2_method_6_code
  | 6 => prog_3_method_1_code
  | 7 => prog_3_method_2_code
  | 8 => prog_3_method_3_code
  | 9 => prog_3_method_4_code
  | 10 => prog_3_method_5_code
  | 11 => prog_4_method_1_code
  | 12 => prog_4_method_2_code
  | 13 => prog_4_method_3_code
  | 14 => prog_4_method_4_code
  | 15 => prog_4_method_5_code
  | 16 => prog_4_method_6_code
  | 17 => prog_4_method_7_code
  | 18 => prog_4_method_8_code
  | 19 => prog_4_method_9_code
  | 20 => prog_4_method_10_code
  | 21 => prog_4_method_11_code
  | 22 => prog_4_method_12_code
  | 23 => prog_4_method_13_code
  | 24 => prog_4_method_14_code
  | 25 => prog_4_method_15_code
  | 26 => prog_5_method_1_code
  | 27 => prog_5_method_2_code
  | 28 => prog_5_method_3_code
  | 29 => prog_5_method_4_code
  | 30 => prog_5_method_5_code
  | 31 => prog_5_method_6_code
  | 32 => prog_5_method_7_code
  | 33 => prog_5_method_8_code
  | 34 => prog_5_method_9_code
  | 35 => prog_5_method_10_code
  | 36 => prog_5_method_11_code
  | 37 => prog_5_method_12_code
  | 38 => prog_5_method_13_code
  | 39 => prog_5_method_14_code
  | 40 => prog_5_method_15_code
  | 41 => prog_5_method_16_code
  | 42 => prog_5_method_17_code
  | 43 => prog_5_method_18_code
  | 44 => prog_5_method_19_code
  | 45 => prog_5_method_20_code
  | 46 => prog_5_method_21_code
  | 47 => prog_5_method_22_code
  | 48 => prog_5_method_23_code
  | 49 => prog_5_method_24_code
  | 50 => prog_5_method_25_code
  | 51 => prog_5_method_26_code
  | 52 => prog_5_method_27_code
  | 53 => prog_5_method_28_code
  | 54 => prog_5_method_29_code
  | 55 => prog_5_method_30_code
  | 56 => prog_6_method_1_code
  | 57 => prog_6_method_2_code
  | 58 => prog_6_method_3_code
  | 59 => prog_6_method_4_code
  | 60 => prog_6_method_5_code
  | 61 => prog_6_method_6_code
  | 62 => prog_6_method_7_code
  | 63 => prog_7_method_1_code
  | 64 => prog_7_method_2_code
  | 65 => prog_7_method_3_code
  | 66 => prog_7_method_4_code
  | 67 => prog_7_method_5_code
  | 68 => prog_7_method_6_code
  | 69 => prog_7_method_7_code
  | 70 => prog_7_method_8_code
  | 71 => prog_7_method_9_code
  | 72 => prog_7_method_10_code
  | 73 => prog_7_method_11_code
  | 74 => prog_8_method_1_code
  | 75 => prog_8_method_2_code
  | 76 => prog_8_method_3_code
  | 77 => prog_8_method_4_code
  | 78 => prog_8_method_5_code
  | 79 => prog_8_method_6_code
  | 80 => prog_8_method_7_code
  | 81 => prog_8_method_8_code
  | 82 => prog_9_method_1_code
  | 83 => prog_9_method_2_code
  | 84 => prog_9_method_3_code
  | 85 => prog_9_method_4_code
  | 86 => prog_9_method_5_code
  | 87 => prog_1_method_1_code
  | 88 => prog_1_method_2_code
  | 89 => prog_1_method_3_code
  | 90 => prog_1_method_4_code
  | 91 => prog_1_method_5_code
  | 92 => prog_1_method_6_code
  | 93 => prog_1_method_7_code
  | 94 => prog_1_method_8_code
  | 95 => prog_1_method_9_code
  | 96 => prog_1_method_10_code
  | 97 => prog_1_method_11_code
  | 98 => prog_1_method_12_code
  | 99 => prog_1_method_13_code
  | 100 => prog_1_method_14_code
  | 101 => prog_1_method_15_code
  | 102 => prog_1_method_16_code
  | 103 => prog_1_method_17_code
  | 104 => prog_1_method_18_code
  | 105 => prog_1_method_19_code
  | 106 => prog_1_method_20_code
  | 107 => prog_1_method_21_code
  | 108 => prog_1_method_22_code
  | 109 => prog_1_method_23_code
  | 110 => prog_1_method_24_code
  | 111 => prog_1_method_25_code
  | 112 => prog_1_method_26_code
  | 113 => prog_1_method_27_code
  | 114 => prog_1_method_28_code
  | 115 => prog_1_method_29_code
  | 116 => prog_1_method_30_code
  | 117 => prog_11_method_1_code
  | 118 => prog_11_method_2_code
  | 119 => prog_11_method_3_code
  | 120 => prog_11_method_4_code
  | 121 => prog_11_method_5_code
  | 122 => prog_11_method_6_code
  | 123 => prog_11_method_7_code
  | 124 => prog_11_method_8_code
  | 125 => prog_11_method_9_code
  | 126 => prog_11_method_10_code
  | 127 => prog_11_method_11_code
  | 128 => prog_11_method_12_code
  | 129 => prog_11_method_13_code
  | 130 => prog_11_method_14_code
  | 131 => prog_11_method_15_code
  | 132 => prog_11_method_16_code
  | 133 => prog_11_method_17_code
  | 134 => prog_11_method_18_code
  | 135 => prog_11_method_19_code
  | 136 => prog_11_method_20_code
  | 137 => prog_11_method_21_code
  | 138 => prog_11_method_22_code
  | 139 => prog_11_method_23_code
  | 140 => prog_11_method_24_code
  | 141 => prog_11_method_25_code
  | 142 => prog_11_method_26_code
  | 143 => prog_11_method_27_code
  | 144 => prog_11_method_28_code
  | 145 => prog_11_method_29_code
  | 146 => prog_11_method_30_code
  | 147 => prog_11_method_31_code
  | 148 => prog_11_method_32_code
  | 149 => prog_11_method_33_code
  | 150 => prog_11_method_34_code
  | 151 => prog_11_method_35_code
  | 152 => prog_11_method_36_code
  | 153 => prog_11_method_37_code
  | 154 => prog_11_method_38_code
  | 155 => prog_11_method_39_code
  | 156 => prog_11_method_40_code
  | 157 => prog_11_method_41_code
  | 158 => prog_11_method_42_code
  | 159 => prog_11_method_43_code
  | 160 => prog_11_method_44_code
  | 161 => prog_11_method_45_code
  | 162 => prog_11_method_46_code
  | 163 => prog_11_method_47_code
  | 164 => prog_11_method_48_code
  | 165 => prog_11_method_49_code
  | 166 => prog_11_method_50_code
  | 167 => prog_11_method_51_code
  | 168 => prog_11_method_52_code
  | 169 => prog_11_method_53_code
  | 170 => prog_11_method_54_code
  | 171 => prog_11_method_55_code
  | 172 => prog_11_method_56_code
  | 173 => prog_11_method_57_code
  | 174 => prog_11_method_58_code
  | 175 => prog_11_method_59_code
  | 176 => prog_11_method_60_code
  | 177 => prog_11_method_61_code
  | 178 => prog_11_method_62_code
  | 179 => prog_11_method_63_code
  | 180 => prog_11_method_64_code
  | 181 => prog_11_method_65_code
  | 182 => prog_11_method_66_code
  | _ => ⟨#[]⟩
def rz_Y : Nat → MethodName := fun k => match k with
  | 0 => ⟨rz_R0, "<init>", "()V"⟩
  | 1 => ⟨rz_R0, "size", "()I"⟩
  | 2 => ⟨rz_R0, "stateAt", "(I)LRisingPiles$State;"⟩
  | 3 => ⟨rz_R0, "put", "(LRisingPiles$State;)V"⟩
  | 4 => ⟨rz_R0, "dropOldest", "()V"⟩
  | 5 => ⟨rz_R0, "giveLatestTo", "(LRisingPiles$State;)I"⟩
  | 6 => ⟨rz_R1, "<init>", "()V"⟩
  | 7 => ⟨rz_R1, "copyFrom", "(LRisingPiles$Latest;)V"⟩
  | 8 => ⟨rz_R1, "put", "(IIII)V"⟩
  | 9 => ⟨rz_R1, "putFirst", "([II)V"⟩
  | 10 => ⟨rz_R1, "tell", "(II)I"⟩
  | 11 => ⟨rz_R2, "<init>", "()V"⟩
  | 12 => ⟨rz_R2, "size", "()I"⟩
  | 13 => ⟨rz_R2, "has", "(I)Z"⟩
  | 14 => ⟨rz_R2, "kindAt", "(I)I"⟩
  | 15 => ⟨rz_R2, "firstAt", "(I)I"⟩
  | 16 => ⟨rz_R2, "secondAt", "(I)I"⟩
  | 17 => ⟨rz_R2, "readFrom", "(LRisingPiles$Text;)I"⟩
  | 18 => ⟨rz_R2, "readOrder", "(LRisingPiles$Text;)Z"⟩
  | 19 => ⟨rz_R2, "readComeIn", "(LRisingPiles$Text;)Z"⟩
  | 20 => ⟨rz_R2, "readComeOut", "()Z"⟩
  | 21 => ⟨rz_R2, "readTakeBack", "(LRisingPiles$Text;)Z"⟩
  | 22 => ⟨rz_R2, "readMakeLess", "(LRisingPiles$Text;)Z"⟩
  | 23 => ⟨rz_R2, "readNumber", "(LRisingPiles$Text;I)I"⟩
  | 24 => ⟨rz_R2, "withDigit", "(II)I"⟩
  | 25 => ⟨rz_R2, "put", "(CII)Z"⟩
  | 26 => ⟨rz_R3, "<init>", "()V"⟩
  | 27 => ⟨rz_R3, "copyFrom", "(LRisingPiles$Piles;)V"⟩
  | 28 => ⟨rz_R3, "clear", "()V"⟩
  | 29 => ⟨rz_R3, "size", "()I"⟩
  | 30 => ⟨rz_R3, "floor", "()I"⟩
  | 31 => ⟨rz_R3, "allMoves", "()I"⟩
  | 32 => ⟨rz_R3, "isFull", "()Z"⟩
  | 33 => ⟨rz_R3, "has", "(I)Z"⟩
  | 34 => ⟨rz_R3, "numberAt", "(I)I"⟩
  | 35 => ⟨rz_R3, "keyAt", "(I)I"⟩
  | 36 => ⟨rz_R3, "valueAt", "(I)I"⟩
  | 37 => ⟨rz_R3, "movesAt", "(I)I"⟩
  | 38 => ⟨rz_R3, "pileAt", "(I)I"⟩
  | 39 => ⟨rz_R3, "placeAt", "(I)I"⟩
  | 40 => ⟨rz_R3, "indexOf", "(I)I"⟩
  | 41 => ⟨rz_R3, "append", "(IIII)V"⟩
  | 42 => ⟨rz_R3, "removeAt", "(I)V"⟩
  | 43 => ⟨rz_R3, "pileFor", "(I)I"⟩
  | 44 => ⟨rz_R3, "lessenAt", "(II)I"⟩
  | 45 => ⟨rz_R3, "indexOfNext", "()I"⟩
  | 46 => ⟨rz_R3, "indexOfRank", "(I)I"⟩
  | 47 => ⟨rz_R3, "rankAt", "(I)I"⟩
  | 48 => ⟨rz_R3, "movesToReach", "(I)I"⟩
  | 49 => ⟨rz_R3, "reach", "(I)V"⟩
  | 50 => ⟨rz_R3, "sizeOf", "(I)I"⟩
  | 51 => ⟨rz_R3, "leastKeyOf", "(I)I"⟩
  | 52 => ⟨rz_R3, "greatestKeyOf", "(I)I"⟩
  | 53 => ⟨rz_R3, "frontOf", "(I)I"⟩
  | 54 => ⟨rz_R3, "sumOfPiles", "()I"⟩
  | 55 => ⟨rz_R3, "pilesInUse", "()I"⟩
  | 56 => ⟨rz_R4, "<init>", "()V"⟩
  | 57 => ⟨rz_R4, "copyFrom", "(LRisingPiles$Roads;)V"⟩
  | 58 => ⟨rz_R4, "size", "()I"⟩
  | 59 => ⟨rz_R4, "lengthOf", "(II)I"⟩
  | 60 => ⟨rz_R4, "setLength", "(III)V"⟩
  | 61 => ⟨rz_R4, "lay", "(III)I"⟩
  | 62 => ⟨rz_R4, "remove", "(II)I"⟩
  | 63 => ⟨rz_R5, "<init>", "()V"⟩
  | 64 => ⟨rz_R5, "townsDone", "()I"⟩
  | 65 => ⟨rz_R5, "cameIn", "()I"⟩
  | 66 => ⟨rz_R5, "moves", "()I"⟩
  | 67 => ⟨rz_R5, "greatestDistance", "()I"⟩
  | 68 => ⟨rz_R5, "distanceOf", "(I)I"⟩
  | 69 => ⟨rz_R5, "findFrom", "(ILRisingPiles$Roads;)V"⟩
  | 70 => ⟨rz_R5, "clear", "()V"⟩
  | 71 => ⟨rz_R5, "bringIn", "(II)V"⟩
  | 72 => ⟨rz_R5, "letOut", "(LRisingPiles$Roads;)V"⟩
  | 73 => ⟨rz_R5, "followRoads", "(IILRisingPiles$Roads;)V"⟩
  | 74 => ⟨rz_R6, "<init>", "()V"⟩
  | 75 => ⟨rz_R6, "copyFrom", "(LRisingPiles$State;)V"⟩
  | 76 => ⟨rz_R6, "bringIn", "(II)I"⟩
  | 77 => ⟨rz_R6, "letOut", "()I"⟩
  | 78 => ⟨rz_R6, "letOutUpTo", "(I)I"⟩
  | 79 => ⟨rz_R6, "makeLess", "(II)I"⟩
  | 80 => ⟨rz_R6, "giveBack", "(I)I"⟩
  | 81 => ⟨rz_R6, "carryOut", "(III)I"⟩
  | 82 => ⟨rz_R7, "<init>", "()V"⟩
  | 83 => ⟨rz_R7, "size", "()I"⟩
  | 84 => ⟨rz_R7, "append", "(C)I"⟩
  | 85 => ⟨rz_R7, "clear", "()I"⟩
  | 86 => ⟨rz_R7, "signAt", "(I)I"⟩
  | 87 => ⟨rz_R8, "<init>", "()V"⟩
  | 88 => ⟨rz_R8, "comeIn", "(II)I"⟩
  | 89 => ⟨rz_R8, "comeOut", "()I"⟩
  | 90 => ⟨rz_R8, "comeOutUpTo", "(I)I"⟩
  | 91 => ⟨rz_R8, "less", "(II)I"⟩
  | 92 => ⟨rz_R8, "takeBack", "(I)I"⟩
  | 93 => ⟨rz_R8, "road", "(III)I"⟩
  | 94 => ⟨rz_R8, "unroad", "(II)I"⟩
  | 95 => ⟨rz_R8, "type", "(C)I"⟩
  | 96 => ⟨rz_R8, "clearText", "()I"⟩
  | 97 => ⟨rz_R8, "perform", "()I"⟩
  | 98 => ⟨rz_R8, "refusal", "(I)I"⟩
  | 99 => ⟨rz_R8, "undo", "()I"⟩
  | 100 => ⟨rz_R8, "keep", "()I"⟩
  | 101 => ⟨rz_R8, "restore", "()I"⟩
  | 102 => ⟨rz_R8, "entry", "(II)I"⟩
  | 103 => ⟨rz_R8, "pile", "(II)I"⟩
  | 104 => ⟨rz_R8, "next", "(I)I"⟩
  | 105 => ⟨rz_R8, "ranked", "(I)I"⟩
  | 106 => ⟨rz_R8, "movesLeft", "()I"⟩
  | 107 => ⟨rz_R8, "out", "(II)I"⟩
  | 108 => ⟨rz_R8, "roadOf", "(II)I"⟩
  | 109 => ⟨rz_R8, "distance", "(II)I"⟩
  | 110 => ⟨rz_R8, "search", "(II)I"⟩
  | 111 => ⟨rz_R8, "count", "(I)I"⟩
  | 112 => ⟨rz_R8, "recorded", "(I)I"⟩
  | 113 => ⟨rz_R8, "isError", "(I)Z"⟩
  | 114 => ⟨rz_R8, "isKey", "(I)Z"⟩
  | 115 => ⟨rz_R8, "isTown", "(I)Z"⟩
  | 116 => ⟨rz_R8, "copyRow", "([I[I)V"⟩
  | 117 => ⟨rz_R9, "<init>", "()V"⟩
  | 118 => ⟨rz_R9, "in", "(III)Z"⟩
  | 119 => ⟨rz_R9, "lays", "([II[II)V"⟩
  | 120 => ⟨rz_R9, "recordsRow", "([I)V"⟩
  | 121 => ⟨rz_R9, "records", "()V"⟩
  | 122 => ⟨rz_R9, "undo", "()I"⟩
  | 123 => ⟨rz_R9, "keep", "()I"⟩
  | 124 => ⟨rz_R9, "restore", "()I"⟩
  | 125 => ⟨rz_R9, "of", "([III)I"⟩
  | 126 => ⟨rz_R9, "puts", "([IIII)V"⟩
  | 127 => ⟨rz_R9, "pileFor", "([II)I"⟩
  | 128 => ⟨rz_R9, "frontOf", "([II)I"⟩
  | 129 => ⟨rz_R9, "lowestPile", "([I)I"⟩
  | 130 => ⟨rz_R9, "manyIn", "([II)I"⟩
  | 131 => ⟨rz_R9, "keyIn", "([IIZ)I"⟩
  | 132 => ⟨rz_R9, "stands", "([III)V"⟩
  | 133 => ⟨rz_R9, "moves", "([II)V"⟩
  | 134 => ⟨rz_R9, "comesIn", "([III)I"⟩
  | 135 => ⟨rz_R9, "drops", "([II)V"⟩
  | 136 => ⟨rz_R9, "tells", "([II)V"⟩
  | 137 => ⟨rz_R9, "empties", "([I)V"⟩
  | 138 => ⟨rz_R9, "comesOut", "([I)I"⟩
  | 139 => ⟨rz_R9, "slotOf", "([II)I"⟩
  | 140 => ⟨rz_R9, "mayIn", "(II)I"⟩
  | 141 => ⟨rz_R9, "comeIn", "(II)I"⟩
  | 142 => ⟨rz_R9, "comeOut", "()I"⟩
  | 143 => ⟨rz_R9, "nextKey", "([I)I"⟩
  | 144 => ⟨rz_R9, "comeOutUpTo", "(I)I"⟩
  | 145 => ⟨rz_R9, "mayLess", "(II)I"⟩
  | 146 => ⟨rz_R9, "makesLess", "(II)I"⟩
  | 147 => ⟨rz_R9, "less", "(II)I"⟩
  | 148 => ⟨rz_R9, "takesBack", "(I)I"⟩
  | 149 => ⟨rz_R9, "takeBack", "(I)I"⟩
  | 150 => ⟨rz_R9, "isTown", "(I)Z"⟩
  | 151 => ⟨rz_R9, "roads", "()I"⟩
  | 152 => ⟨rz_R9, "placeOf", "(II)I"⟩
  | 153 => ⟨rz_R9, "road", "(III)I"⟩
  | 154 => ⟨rz_R9, "unroad", "(II)I"⟩
  | 155 => ⟨rz_R9, "type", "(C)I"⟩
  | 156 => ⟨rz_R9, "clearText", "()I"⟩
  | 157 => ⟨rz_R9, "sees", "(CC)Z"⟩
  | 158 => ⟨rz_R9, "takes", "(C)Z"⟩
  | 159 => ⟨rz_R9, "number", "(I)I"⟩
  | 160 => ⟨rz_R9, "laysOrder", "(CII)Z"⟩
  | 161 => ⟨rz_R9, "readsOrder", "()Z"⟩
  | 162 => ⟨rz_R9, "isText", "()Z"⟩
  | 163 => ⟨rz_R9, "does", "(III)I"⟩
  | 164 => ⟨rz_R9, "perform", "()I"⟩
  | 165 => ⟨rz_R9, "refusal", "(I)I"⟩
  | 166 => ⟨rz_R9, "placeIn", "(I)I"⟩
  | 167 => ⟨rz_R9, "entry", "(II)I"⟩
  | 168 => ⟨rz_R9, "pile", "(II)I"⟩
  | 169 => ⟨rz_R9, "nextOf", "(I)I"⟩
  | 170 => ⟨rz_R9, "next", "(I)I"⟩
  | 171 => ⟨rz_R9, "rankedNow", "(I)I"⟩
  | 172 => ⟨rz_R9, "ranked", "(I)I"⟩
  | 173 => ⟨rz_R9, "movesLeft", "()I"⟩
  | 174 => ⟨rz_R9, "out", "(II)I"⟩
  | 175 => ⟨rz_R9, "roadOf", "(II)I"⟩
  | 176 => ⟨rz_R9, "roadsFrom", "(II)V"⟩
  | 177 => ⟨rz_R9, "searches", "(I)V"⟩
  | 178 => ⟨rz_R9, "distance", "(II)I"⟩
  | 179 => ⟨rz_R9, "searched", "(II)I"⟩
  | 180 => ⟨rz_R9, "search", "(II)I"⟩
  | 181 => ⟨rz_R9, "pilesFull", "()I"⟩
  | 182 => ⟨rz_R9, "count", "(I)I"⟩
  | _ => ⟨"", "", ""⟩
def rz_K : Nat → Nat := fun k => match k with
  | 0 => 0
  | 1 => 0
  | 2 => 0
  | 3 => 0
  | 4 => 0
  | 5 => 0
  | 6 => 1
  | 7 => 1
  | 8 => 1
  | 9 => 1
  | 10 => 1
  | 11 => 2
  | 12 => 2
  | 13 => 2
  | 14 => 2
  | 15 => 2
  | 16 => 2
  | 17 => 2
  | 18 => 2
  | 19 => 2
  | 20 => 2
  | 21 => 2
  | 22 => 2
  | 23 => 2
  | 24 => 2
  | 25 => 2
  | 26 => 3
  | 27 => 3
  | 28 => 3
  | 29 => 3
  | 30 => 3
  | 31 => 3
  | 32 => 3
  | 33 => 3
  | 34 => 3
  | 35 => 3
  | 36 => 3
  | 37 => 3
  | 38 => 3
  | 39 => 3
  | 40 => 3
  | 41 => 3
  | 42 => 3
  | 43 => 3
  | 44 => 3
  | 45 => 3
  | 46 => 3
  | 47 => 3
  | 48 => 3
  | 49 => 3
  | 50 => 3
  | 51 => 3
  | 52 => 3
  | 53 => 3
  | 54 => 3
  | 55 => 3
  | 56 => 4
  | 57 => 4
  | 58 => 4
  | 59 => 4
  | 60 => 4
  | 61 => 4
  | 62 => 4
  | 63 => 5
  | 64 => 5
  | 65 => 5
  | 66 => 5
  | 67 => 5
  | 68 => 5
  | 69 => 5
  | 70 => 5
  | 71 => 5
  | 72 => 5
  | 73 => 5
  | 74 => 6
  | 75 => 6
  | 76 => 6
  | 77 => 6
  | 78 => 6
  | 79 => 6
  | 80 => 6
  | 81 => 6
  | 82 => 7
  | 83 => 7
  | 84 => 7
  | 85 => 7
  | 86 => 7
  | 87 => 8
  | 88 => 8
  | 89 => 8
  | 90 => 8
  | 91 => 8
  | 92 => 8
  | 93 => 8
  | 94 => 8
  | 95 => 8
  | 96 => 8
  | 97 => 8
  | 98 => 8
  | 99 => 8
  | 100 => 8
  | 101 => 8
  | 102 => 8
  | 103 => 8
  | 104 => 8
  | 105 => 8
  | 106 => 8
  | 107 => 8
  | 108 => 8
  | 109 => 8
  | 110 => 8
  | 111 => 8
  | 112 => 8
  | 113 => 8
  | 114 => 8
  | 115 => 8
  | 116 => 8
  | 117 => 9
  | 118 => 9
  | 119 => 9
  | 120 => 9
  | 121 => 9
  | 122 => 9
  | 123 => 9
  | 124 => 9
  | 125 => 9
  | 126 => 9
  | 127 => 9
  | 128 => 9
  | 129 => 9
  | 130 => 9
  | 131 => 9
  | 132 => 9
  | 133 => 9
  | 134 => 9
  | 135 => 9
  | 136 => 9
  | 137 => 9
  | 138 => 9
  | 139 => 9
  | 140 => 9
  | 141 => 9
  | 142 => 9
  | 143 => 9
  | 144 => 9
  | 145 => 9
  | 146 => 9
  | 147 => 9
  | 148 => 9
  | 149 => 9
  | 150 => 9
  | 151 => 9
  | 152 => 9
  | 153 => 9
  | 154 => 9
  | 155 => 9
  | 156 => 9
  | 157 => 9
  | 158 => 9
  | 159 => 9
  | 160 => 9
  | 161 => 9
  | 162 => 9
  | 163 => 9
  | 164 => 9
  | 165 => 9
  | 166 => 9
  | 167 => 9
  | 168 => 9
  | 169 => 9
  | 170 => 9
  | 171 => 9
  | 172 => 9
  | 173 => 9
  | 174 => 9
  | 175 => 9
  | 176 => 9
  | 177 => 9
  | 178 => 9
  | 179 => 9
  | 180 => 9
  | 181 => 9
  | 182 => 9
  | _ => 0
def rz_ML : Nat → Nat := fun k => match k with
  | 0 => 2
  | 1 => 1
  | 2 => 2
  | 3 => 3
  | 4 => 3
  | 5 => 3
  | 6 => 1
  | 7 => 2
  | 8 => 5
  | 9 => 2
  | 10 => 3
  | 11 => 1
  | 12 => 1
  | 13 => 2
  | 14 => 2
  | 15 => 2
  | 16 => 2
  | 17 => 3
  | 18 => 3
  | 19 => 4
  | 20 => 1
  | 21 => 3
  | 22 => 4
  | 23 => 6
  | 24 => 3
  | 25 => 4
  | 26 => 1
  | 27 => 2
  | 28 => 1
  | 29 => 1
  | 30 => 1
  | 31 => 1
  | 32 => 1
  | 33 => 2
  | 34 => 2
  | 35 => 2
  | 36 => 2
  | 37 => 2
  | 38 => 2
  | 39 => 4
  | 40 => 3
  | 41 => 5
  | 42 => 3
  | 43 => 5
  | 44 => 7
  | 45 => 3
  | 46 => 3
  | 47 => 6
  | 48 => 3
  | 49 => 4
  | 50 => 4
  | 51 => 4
  | 52 => 4
  | 53 => 3
  | 54 => 3
  | 55 => 3
  | 56 => 2
  | 57 => 2
  | 58 => 1
  | 59 => 3
  | 60 => 4
  | 61 => 5
  | 62 => 4
  | 63 => 1
  | 64 => 1
  | 65 => 1
  | 66 => 1
  | 67 => 1
  | 68 => 2
  | 69 => 4
  | 70 => 2
  | 71 => 3
  | 72 => 5
  | 73 => 6
  | 74 => 1
  | 75 => 2
  | 76 => 4
  | 77 => 3
  | 78 => 5
  | 79 => 5
  | 80 => 4
  | 81 => 4
  | 82 => 1
  | 83 => 1
  | 84 => 2
  | 85 => 2
  | 86 => 2
  | 87 => 1
  | 88 => 3
  | 89 => 1
  | 90 => 2
  | 91 => 3
  | 92 => 2
  | 93 => 4
  | 94 => 3
  | 95 => 2
  | 96 => 1
  | 97 => 4
  | 98 => 2
  | 99 => 1
  | 100 => 1
  | 101 => 1
  | 102 => 4
  | 103 => 3
  | 104 => 3
  | 105 => 3
  | 106 => 1
  | 107 => 3
  | 108 => 3
  | 109 => 3
  | 110 => 3
  | 111 => 2
  | 112 => 2
  | 113 => 1
  | 114 => 1
  | 115 => 1
  | 116 => 2
  | 117 => 2
  | 118 => 3
  | 119 => 5
  | 120 => 3
  | 121 => 1
  | 122 => 1
  | 123 => 1
  | 124 => 1
  | 125 => 3
  | 126 => 4
  | 127 => 4
  | 128 => 5
  | 129 => 3
  | 130 => 4
  | 131 => 7
  | 132 => 3
  | 133 => 2
  | 134 => 5
  | 135 => 3
  | 136 => 3
  | 137 => 3
  | 138 => 3
  | 139 => 4
  | 140 => 3
  | 141 => 4
  | 142 => 1
  | 143 => 2
  | 144 => 4
  | 145 => 5
  | 146 => 5
  | 147 => 4
  | 148 => 4
  | 149 => 2
  | 150 => 1
  | 151 => 3
  | 152 => 2
  | 153 => 5
  | 154 => 4
  | 155 => 2
  | 156 => 2
  | 157 => 3
  | 158 => 3
  | 159 => 3
  | 160 => 5
  | 161 => 2
  | 162 => 2
  | 163 => 5
  | 164 => 3
  | 165 => 2
  | 166 => 4
  | 167 => 4
  | 168 => 4
  | 169 => 4
  | 170 => 2
  | 171 => 4
  | 172 => 2
  | 173 => 3
  | 174 => 3
  | 175 => 3
  | 176 => 6
  | 177 => 5
  | 178 => 3
  | 179 => 6
  | 180 => 3
  | 181 => 3
  | 182 => 2
  | _ => 0
def rz_RT : Nat → Option FieldType := fun k => match k with
  | 0 => none
  | 1 => some .int
  | 2 => some (.object "RisingPiles$State")
  | 3 => none
  | 4 => none
  | 5 => some .int
  | 6 => none
  | 7 => none
  | 8 => none
  | 9 => none
  | 10 => some .int
  | 11 => none
  | 12 => some .int
  | 13 => some .boolean
  | 14 => some .int
  | 15 => some .int
  | 16 => some .int
  | 17 => some .int
  | 18 => some .boolean
  | 19 => some .boolean
  | 20 => some .boolean
  | 21 => some .boolean
  | 22 => some .boolean
  | 23 => some .int
  | 24 => some .int
  | 25 => some .boolean
  | 26 => none
  | 27 => none
  | 28 => none
  | 29 => some .int
  | 30 => some .int
  | 31 => some .int
  | 32 => some .boolean
  | 33 => some .boolean
  | 34 => some .int
  | 35 => some .int
  | 36 => some .int
  | 37 => some .int
  | 38 => some .int
  | 39 => some .int
  | 40 => some .int
  | 41 => none
  | 42 => none
  | 43 => some .int
  | 44 => some .int
  | 45 => some .int
  | 46 => some .int
  | 47 => some .int
  | 48 => some .int
  | 49 => none
  | 50 => some .int
  | 51 => some .int
  | 52 => some .int
  | 53 => some .int
  | 54 => some .int
  | 55 => some .int
  | 56 => none
  | 57 => none
  | 58 => some .int
  | 59 => some .int
  | 60 => none
  | 61 => some .int
  | 62 => some .int
  | 63 => none
  | 64 => some .int
  | 65 => some .int
  | 66 => some .int
  | 67 => some .int
  | 68 => some .int
  | 69 => none
  | 70 => none
  | 71 => none
  | 72 => none
  | 73 => none
  | 74 => none
  | 75 => none
  | 76 => some .int
  | 77 => some .int
  | 78 => some .int
  | 79 => some .int
  | 80 => some .int
  | 81 => some .int
  | 82 => none
  | 83 => some .int
  | 84 => some .int
  | 85 => some .int
  | 86 => some .int
  | 87 => none
  | 88 => some .int
  | 89 => some .int
  | 90 => some .int
  | 91 => some .int
  | 92 => some .int
  | 93 => some .int
  | 94 => some .int
  | 95 => some .int
  | 96 => some .int
  | 97 => some .int
  | 98 => some .int
  | 99 => some .int
  | 100 => some .int
  | 101 => some .int
  | 102 => some .int
  | 103 => some .int
  | 104 => some .int
  | 105 => some .int
  | 106 => some .int
  | 107 => some .int
  | 108 => some .int
  | 109 => some .int
  | 110 => some .int
  | 111 => some .int
  | 112 => some .int
  | 113 => some .boolean
  | 114 => some .boolean
  | 115 => some .boolean
  | 116 => none
  | 117 => none
  | 118 => some .boolean
  | 119 => none
  | 120 => none
  | 121 => none
  | 122 => some .int
  | 123 => some .int
  | 124 => some .int
  | 125 => some .int
  | 126 => none
  | 127 => some .int
  | 128 => some .int
  | 129 => some .int
  | 130 => some .int
  | 131 => some .int
  | 132 => none
  | 133 => none
  | 134 => some .int
  | 135 => none
  | 136 => none
  | 137 => none
  | 138 => some .int
  | 139 => some .int
  | 140 => some .int
  | 141 => some .int
  | 142 => some .int
  | 143 => some .int
  | 144 => some .int
  | 145 => some .int
  | 146 => some .int
  | 147 => some .int
  | 148 => some .int
  | 149 => some .int
  | 150 => some .boolean
  | 151 => some .int
  | 152 => some .int
  | 153 => some .int
  | 154 => some .int
  | 155 => some .int
  | 156 => some .int
  | 157 => some .boolean
  | 158 => some .boolean
  | 159 => some .int
  | 160 => some .boolean
  | 161 => some .boolean
  | 162 => some .boolean
  | 163 => some .int
  | 164 => some .int
  | 165 => some .int
  | 166 => some .int
  | 167 => some .int
  | 168 => some .int
  | 169 => some .int
  | 170 => some .int
  | 171 => some .int
  | 172 => some .int
  | 173 => some .int
  | 174 => some .int
  | 175 => some .int
  | 176 => none
  | 177 => none
  | 178 => some .int
  | 179 => some .int
  | 180 => some .int
  | 181 => some .int
  | 182 => some .int
  | _ => none
def rz_kd : Nat → Nat := fun k => match k with
  | 0 => 2
  | 1 => 0
  | 2 => 0
  | 3 => 0
  | 4 => 0
  | 5 => 0
  | 6 => 2
  | 7 => 0
  | 8 => 0
  | 9 => 1
  | 10 => 0
  | 11 => 2
  | 12 => 0
  | 13 => 0
  | 14 => 0
  | 15 => 0
  | 16 => 0
  | 17 => 0
  | 18 => 0
  | 19 => 0
  | 20 => 0
  | 21 => 0
  | 22 => 0
  | 23 => 0
  | 24 => 1
  | 25 => 0
  | 26 => 2
  | 27 => 0
  | 28 => 0
  | 29 => 0
  | 30 => 0
  | 31 => 0
  | 32 => 0
  | 33 => 0
  | 34 => 0
  | 35 => 0
  | 36 => 0
  | 37 => 0
  | 38 => 0
  | 39 => 0
  | 40 => 0
  | 41 => 0
  | 42 => 0
  | 43 => 0
  | 44 => 0
  | 45 => 0
  | 46 => 0
  | 47 => 0
  | 48 => 0
  | 49 => 0
  | 50 => 0
  | 51 => 0
  | 52 => 0
  | 53 => 0
  | 54 => 0
  | 55 => 0
  | 56 => 2
  | 57 => 0
  | 58 => 0
  | 59 => 0
  | 60 => 0
  | 61 => 0
  | 62 => 0
  | 63 => 2
  | 64 => 0
  | 65 => 0
  | 66 => 0
  | 67 => 0
  | 68 => 0
  | 69 => 0
  | 70 => 0
  | 71 => 0
  | 72 => 0
  | 73 => 0
  | 74 => 2
  | 75 => 0
  | 76 => 0
  | 77 => 0
  | 78 => 0
  | 79 => 0
  | 80 => 0
  | 81 => 0
  | 82 => 2
  | 83 => 0
  | 84 => 0
  | 85 => 0
  | 86 => 0
  | 87 => 2
  | 88 => 0
  | 89 => 0
  | 90 => 0
  | 91 => 0
  | 92 => 0
  | 93 => 0
  | 94 => 0
  | 95 => 0
  | 96 => 0
  | 97 => 0
  | 98 => 0
  | 99 => 0
  | 100 => 0
  | 101 => 0
  | 102 => 0
  | 103 => 0
  | 104 => 0
  | 105 => 0
  | 106 => 0
  | 107 => 0
  | 108 => 0
  | 109 => 0
  | 110 => 0
  | 111 => 0
  | 112 => 0
  | 113 => 1
  | 114 => 1
  | 115 => 1
  | 116 => 1
  | 117 => 2
  | 118 => 1
  | 119 => 1
  | 120 => 0
  | 121 => 0
  | 122 => 0
  | 123 => 0
  | 124 => 0
  | 125 => 1
  | 126 => 1
  | 127 => 1
  | 128 => 1
  | 129 => 1
  | 130 => 1
  | 131 => 1
  | 132 => 1
  | 133 => 1
  | 134 => 1
  | 135 => 1
  | 136 => 1
  | 137 => 1
  | 138 => 1
  | 139 => 1
  | 140 => 0
  | 141 => 0
  | 142 => 0
  | 143 => 1
  | 144 => 0
  | 145 => 0
  | 146 => 0
  | 147 => 0
  | 148 => 0
  | 149 => 0
  | 150 => 1
  | 151 => 0
  | 152 => 1
  | 153 => 0
  | 154 => 0
  | 155 => 0
  | 156 => 0
  | 157 => 0
  | 158 => 0
  | 159 => 0
  | 160 => 0
  | 161 => 0
  | 162 => 0
  | 163 => 0
  | 164 => 0
  | 165 => 0
  | 166 => 0
  | 167 => 0
  | 168 => 0
  | 169 => 0
  | 170 => 0
  | 171 => 0
  | 172 => 0
  | 173 => 0
  | 174 => 0
  | 175 => 0
  | 176 => 0
  | 177 => 0
  | 178 => 0
  | 179 => 0
  | 180 => 0
  | 181 => 0
  | 182 => 0
  | _ => 0
def rz_np : Nat → Nat := fun k => match k with
  | 0 => 0
  | 1 => 0
  | 2 => 1
  | 3 => 1
  | 4 => 0
  | 5 => 1
  | 6 => 0
  | 7 => 1
  | 8 => 4
  | 9 => 2
  | 10 => 2
  | 11 => 0
  | 12 => 0
  | 13 => 1
  | 14 => 1
  | 15 => 1
  | 16 => 1
  | 17 => 1
  | 18 => 1
  | 19 => 1
  | 20 => 0
  | 21 => 1
  | 22 => 1
  | 23 => 2
  | 24 => 2
  | 25 => 3
  | 26 => 0
  | 27 => 1
  | 28 => 0
  | 29 => 0
  | 30 => 0
  | 31 => 0
  | 32 => 0
  | 33 => 1
  | 34 => 1
  | 35 => 1
  | 36 => 1
  | 37 => 1
  | 38 => 1
  | 39 => 1
  | 40 => 1
  | 41 => 4
  | 42 => 1
  | 43 => 1
  | 44 => 2
  | 45 => 0
  | 46 => 1
  | 47 => 1
  | 48 => 1
  | 49 => 1
  | 50 => 1
  | 51 => 1
  | 52 => 1
  | 53 => 1
  | 54 => 0
  | 55 => 0
  | 56 => 0
  | 57 => 1
  | 58 => 0
  | 59 => 2
  | 60 => 3
  | 61 => 3
  | 62 => 2
  | 63 => 0
  | 64 => 0
  | 65 => 0
  | 66 => 0
  | 67 => 0
  | 68 => 1
  | 69 => 2
  | 70 => 0
  | 71 => 2
  | 72 => 1
  | 73 => 3
  | 74 => 0
  | 75 => 1
  | 76 => 2
  | 77 => 0
  | 78 => 1
  | 79 => 2
  | 80 => 1
  | 81 => 3
  | 82 => 0
  | 83 => 0
  | 84 => 1
  | 85 => 0
  | 86 => 1
  | 87 => 0
  | 88 => 2
  | 89 => 0
  | 90 => 1
  | 91 => 2
  | 92 => 1
  | 93 => 3
  | 94 => 2
  | 95 => 1
  | 96 => 0
  | 97 => 0
  | 98 => 1
  | 99 => 0
  | 100 => 0
  | 101 => 0
  | 102 => 2
  | 103 => 2
  | 104 => 1
  | 105 => 1
  | 106 => 0
  | 107 => 2
  | 108 => 2
  | 109 => 2
  | 110 => 2
  | 111 => 1
  | 112 => 1
  | 113 => 1
  | 114 => 1
  | 115 => 1
  | 116 => 2
  | 117 => 0
  | 118 => 3
  | 119 => 4
  | 120 => 1
  | 121 => 0
  | 122 => 0
  | 123 => 0
  | 124 => 0
  | 125 => 3
  | 126 => 4
  | 127 => 2
  | 128 => 2
  | 129 => 1
  | 130 => 2
  | 131 => 3
  | 132 => 3
  | 133 => 2
  | 134 => 3
  | 135 => 2
  | 136 => 2
  | 137 => 1
  | 138 => 1
  | 139 => 2
  | 140 => 2
  | 141 => 2
  | 142 => 0
  | 143 => 1
  | 144 => 1
  | 145 => 2
  | 146 => 2
  | 147 => 2
  | 148 => 1
  | 149 => 1
  | 150 => 1
  | 151 => 0
  | 152 => 2
  | 153 => 3
  | 154 => 2
  | 155 => 1
  | 156 => 0
  | 157 => 2
  | 158 => 1
  | 159 => 1
  | 160 => 3
  | 161 => 0
  | 162 => 0
  | 163 => 3
  | 164 => 0
  | 165 => 1
  | 166 => 1
  | 167 => 2
  | 168 => 2
  | 169 => 1
  | 170 => 1
  | 171 => 1
  | 172 => 1
  | 173 => 0
  | 174 => 2
  | 175 => 2
  | 176 => 2
  | 177 => 1
  | 178 => 2
  | 179 => 2
  | 180 => 2
  | 181 => 0
  | 182 => 1
  | _ => 0
def rz_xC : Nat → Nat := fun k => match k with
  | 0 => 162
  | 1 => 736
  | 2 => 336
  | 3 => 328
  | 4 => 332
  | 5 => 557
  | 6 => 102
  | 7 => 289
  | 8 => 382
  | 9 => 385
  | 10 => 644
  | 11 => 192
  | 12 => 519
  | 13 => 527
  | 14 => 523
  | 15 => 531
  | 16 => 535
  | 17 => 479
  | 18 => 483
  | 19 => 491
  | 20 => 507
  | 21 => 511
  | 22 => 515
  | 23 => 496
  | 24 => 499
  | 25 => 503
  | 26 => 70
  | 27 => 276
  | 28 => 666
  | 29 => 565
  | 30 => 307
  | 31 => 713
  | 32 => 311
  | 33 => 357
  | 34 => 369
  | 35 => 353
  | 36 => 374
  | 37 => 378
  | 38 => 365
  | 39 => 581
  | 40 => 413
  | 41 => 315
  | 42 => 391
  | 43 => 320
  | 44 => 418
  | 45 => 349
  | 46 => 624
  | 47 => 628
  | 48 => 615
  | 49 => 361
  | 50 => 590
  | 51 => 594
  | 52 => 598
  | 53 => 605
  | 54 => 636
  | 55 => 727
  | 56 => 124
  | 57 => 294
  | 58 => 732
  | 59 => 443
  | 60 => 447
  | 61 => 436
  | 62 => 455
  | 63 => 214
  | 64 => 701
  | 65 => 705
  | 66 => 709
  | 67 => 717
  | 68 => 692
  | 69 => 658
  | 70 => 662
  | 71 => 670
  | 72 => 676
  | 73 => 687
  | 74 => 64
  | 75 => 272
  | 76 => 299
  | 77 => 345
  | 78 => 400
  | 79 => 409
  | 80 => 428
  | 81 => 539
  | 82 => 178
  | 83 => 740
  | 84 => 463
  | 85 => 471
  | 86 => 487
  | 87 => 56
  | 88 => 268
  | 89 => 341
  | 90 => 396
  | 91 => 405
  | 92 => 424
  | 93 => 432
  | 94 => 451
  | 95 => 459
  | 96 => 467
  | 97 => 475
  | 98 => 549
  | 99 => 553
  | 100 => 561
  | 101 => 569
  | 102 => 573
  | 103 => 586
  | 104 => 609
  | 105 => 620
  | 106 => 632
  | 107 => 640
  | 108 => 648
  | 109 => 654
  | 110 => 697
  | 111 => 721
  | 112 => 324
  | 113 => 545
  | 114 => 302
  | 115 => 439
  | 116 => 279
  | 117 => 745
  | 118 => 827
  | 119 => 799
  | 120 => 815
  | 121 => 811
  | 122 => 796
  | 123 => 803
  | 124 => 807
  | 125 => 855
  | 126 => 833
  | 127 => 836
  | 128 => 861
  | 129 => 852
  | 130 => 977
  | 131 => 858
  | 132 => 839
  | 133 => 864
  | 134 => 830
  | 135 => 870
  | 136 => 867
  | 137 => 849
  | 138 => 846
  | 139 => 888
  | 140 => 823
  | 141 => 819
  | 142 => 843
  | 143 => 877
  | 144 => 874
  | 145 => 885
  | 146 => 892
  | 147 => 881
  | 148 => 900
  | 149 => 896
  | 150 => 907
  | 151 => 914
  | 152 => 910
  | 153 => 904
  | 154 => 918
  | 155 => 922
  | 156 => 926
  | 157 => 946
  | 158 => 942
  | 159 => 954
  | 160 => 950
  | 161 => 938
  | 162 => 934
  | 163 => 958
  | 164 => 930
  | 165 => 962
  | 166 => 970
  | 167 => 966
  | 168 => 974
  | 169 => 985
  | 170 => 981
  | 171 => 993
  | 172 => 989
  | 173 => 997
  | 174 => 1001
  | 175 => 1005
  | 176 => 1017
  | 177 => 1013
  | 178 => 1009
  | 179 => 1025
  | 180 => 1021
  | 181 => 1033
  | 182 => 1029
  | _ => 0
def rz_xI : Nat → Nat := fun k => match k with
  | 0 => 161
  | 1 => 734
  | 2 => 335
  | 3 => 326
  | 4 => 331
  | 5 => 555
  | 6 => 101
  | 7 => 287
  | 8 => 380
  | 9 => 384
  | 10 => 642
  | 11 => 191
  | 12 => 517
  | 13 => 526
  | 14 => 521
  | 15 => 529
  | 16 => 533
  | 17 => 477
  | 18 => 482
  | 19 => 490
  | 20 => 506
  | 21 => 510
  | 22 => 514
  | 23 => 495
  | 24 => 498
  | 25 => 502
  | 26 => 69
  | 27 => 274
  | 28 => 664
  | 29 => 563
  | 30 => 305
  | 31 => 711
  | 32 => 309
  | 33 => 356
  | 34 => 367
  | 35 => 351
  | 36 => 372
  | 37 => 376
  | 38 => 363
  | 39 => 579
  | 40 => 411
  | 41 => 313
  | 42 => 389
  | 43 => 318
  | 44 => 416
  | 45 => 347
  | 46 => 622
  | 47 => 627
  | 48 => 613
  | 49 => 359
  | 50 => 588
  | 51 => 592
  | 52 => 596
  | 53 => 603
  | 54 => 634
  | 55 => 725
  | 56 => 123
  | 57 => 292
  | 58 => 730
  | 59 => 441
  | 60 => 446
  | 61 => 434
  | 62 => 453
  | 63 => 213
  | 64 => 699
  | 65 => 703
  | 66 => 707
  | 67 => 715
  | 68 => 690
  | 69 => 656
  | 70 => 661
  | 71 => 669
  | 72 => 675
  | 73 => 686
  | 74 => 63
  | 75 => 270
  | 76 => 297
  | 77 => 343
  | 78 => 398
  | 79 => 407
  | 80 => 426
  | 81 => 537
  | 82 => 177
  | 83 => 738
  | 84 => 461
  | 85 => 469
  | 86 => 485
  | 87 => 55
  | 88 => 266
  | 89 => 339
  | 90 => 394
  | 91 => 403
  | 92 => 422
  | 93 => 430
  | 94 => 449
  | 95 => 457
  | 96 => 465
  | 97 => 473
  | 98 => 547
  | 99 => 551
  | 100 => 559
  | 101 => 567
  | 102 => 571
  | 103 => 584
  | 104 => 607
  | 105 => 618
  | 106 => 630
  | 107 => 638
  | 108 => 646
  | 109 => 652
  | 110 => 695
  | 111 => 719
  | 112 => 323
  | 113 => 544
  | 114 => 301
  | 115 => 438
  | 116 => 278
  | 117 => 744
  | 118 => 826
  | 119 => 798
  | 120 => 814
  | 121 => 810
  | 122 => 794
  | 123 => 801
  | 124 => 805
  | 125 => 854
  | 126 => 832
  | 127 => 835
  | 128 => 860
  | 129 => 851
  | 130 => 976
  | 131 => 857
  | 132 => 838
  | 133 => 863
  | 134 => 829
  | 135 => 869
  | 136 => 866
  | 137 => 848
  | 138 => 845
  | 139 => 887
  | 140 => 822
  | 141 => 817
  | 142 => 841
  | 143 => 876
  | 144 => 872
  | 145 => 884
  | 146 => 891
  | 147 => 879
  | 148 => 899
  | 149 => 894
  | 150 => 906
  | 151 => 913
  | 152 => 909
  | 153 => 902
  | 154 => 916
  | 155 => 920
  | 156 => 924
  | 157 => 945
  | 158 => 941
  | 159 => 953
  | 160 => 949
  | 161 => 937
  | 162 => 933
  | 163 => 957
  | 164 => 928
  | 165 => 960
  | 166 => 969
  | 167 => 964
  | 168 => 972
  | 169 => 984
  | 170 => 979
  | 171 => 992
  | 172 => 987
  | 173 => 995
  | 174 => 999
  | 175 => 1003
  | 176 => 1016
  | 177 => 1012
  | 178 => 1007
  | 179 => 1024
  | 180 => 1019
  | 181 => 1032
  | 182 => 1027
  | _ => 0
def rz_xS : Nat → Nat := fun k => match k with
  | 0 => 0
  | 1 => 735
  | 2 => 2
  | 3 => 327
  | 4 => 1
  | 5 => 556
  | 6 => 0
  | 7 => 288
  | 8 => 381
  | 9 => 0
  | 10 => 643
  | 11 => 0
  | 12 => 518
  | 13 => 12
  | 14 => 522
  | 15 => 530
  | 16 => 534
  | 17 => 478
  | 18 => 5
  | 19 => 6
  | 20 => 9
  | 21 => 10
  | 22 => 11
  | 23 => 7
  | 24 => 0
  | 25 => 8
  | 26 => 0
  | 27 => 275
  | 28 => 665
  | 29 => 564
  | 30 => 306
  | 31 => 712
  | 32 => 310
  | 33 => 3
  | 34 => 368
  | 35 => 352
  | 36 => 373
  | 37 => 377
  | 38 => 364
  | 39 => 580
  | 40 => 412
  | 41 => 314
  | 42 => 390
  | 43 => 319
  | 44 => 417
  | 45 => 348
  | 46 => 623
  | 47 => 13
  | 48 => 614
  | 49 => 360
  | 50 => 589
  | 51 => 593
  | 52 => 597
  | 53 => 604
  | 54 => 635
  | 55 => 726
  | 56 => 0
  | 57 => 293
  | 58 => 731
  | 59 => 442
  | 60 => 4
  | 61 => 435
  | 62 => 454
  | 63 => 0
  | 64 => 700
  | 65 => 704
  | 66 => 708
  | 67 => 716
  | 68 => 691
  | 69 => 657
  | 70 => 14
  | 71 => 15
  | 72 => 16
  | 73 => 17
  | 74 => 0
  | 75 => 271
  | 76 => 298
  | 77 => 344
  | 78 => 399
  | 79 => 408
  | 80 => 427
  | 81 => 538
  | 82 => 0
  | 83 => 739
  | 84 => 462
  | 85 => 470
  | 86 => 486
  | 87 => 0
  | 88 => 267
  | 89 => 340
  | 90 => 395
  | 91 => 404
  | 92 => 423
  | 93 => 431
  | 94 => 450
  | 95 => 458
  | 96 => 466
  | 97 => 474
  | 98 => 548
  | 99 => 552
  | 100 => 560
  | 101 => 568
  | 102 => 572
  | 103 => 585
  | 104 => 608
  | 105 => 619
  | 106 => 631
  | 107 => 639
  | 108 => 647
  | 109 => 653
  | 110 => 696
  | 111 => 720
  | 112 => 0
  | 113 => 0
  | 114 => 0
  | 115 => 0
  | 116 => 0
  | 117 => 0
  | 118 => 0
  | 119 => 0
  | 120 => 19
  | 121 => 18
  | 122 => 795
  | 123 => 802
  | 124 => 806
  | 125 => 0
  | 126 => 0
  | 127 => 0
  | 128 => 0
  | 129 => 0
  | 130 => 0
  | 131 => 0
  | 132 => 0
  | 133 => 0
  | 134 => 0
  | 135 => 0
  | 136 => 0
  | 137 => 0
  | 138 => 0
  | 139 => 0
  | 140 => 20
  | 141 => 818
  | 142 => 842
  | 143 => 0
  | 144 => 873
  | 145 => 21
  | 146 => 22
  | 147 => 880
  | 148 => 23
  | 149 => 895
  | 150 => 0
  | 151 => 24
  | 152 => 0
  | 153 => 903
  | 154 => 917
  | 155 => 921
  | 156 => 925
  | 157 => 28
  | 158 => 27
  | 159 => 30
  | 160 => 29
  | 161 => 26
  | 162 => 25
  | 163 => 31
  | 164 => 929
  | 165 => 961
  | 166 => 32
  | 167 => 965
  | 168 => 973
  | 169 => 33
  | 170 => 980
  | 171 => 34
  | 172 => 988
  | 173 => 996
  | 174 => 1000
  | 175 => 1004
  | 176 => 36
  | 177 => 35
  | 178 => 1008
  | 179 => 37
  | 180 => 1020
  | 181 => 38
  | 182 => 1028
  | _ => 0
def rz_xN : Nat → Nat := fun k => match k with
  | 0 => 45
  | 1 => 43
  | 2 => 47
  | 3 => 42
  | 4 => 44
  | 5 => 48
  | 6 => 41
  | 7 => 46
  | 8 => 40
  | 9 => 49
  | _ => 0
def rz_xW : Nat → Nat := fun k => match k with
  | 0 => 159
  | 1 => 99
  | 2 => 189
  | 3 => 67
  | 4 => 121
  | 5 => 211
  | 6 => 61
  | 7 => 175
  | 8 => 53
  | 9 => 742
  | _ => 0
set_option maxRecDepth 100000 in
theorem rz_cd0 : lw_tbl[162]? = some (Cond.code (rz_Y 0) (rz_B 0) (rz_ML 0) (rz_RT 0)) := rfl
set_option maxRecDepth 100000 in
theorem rz_cd1 : lw_tbl[736]? = some (Cond.code (rz_Y 1) (rz_B 1) (rz_ML 1) (rz_RT 1)) := rfl
set_option maxRecDepth 100000 in
theorem rz_cd2 : lw_tbl[336]? = some (Cond.code (rz_Y 2) (rz_B 2) (rz_ML 2) (rz_RT 2)) := rfl
set_option maxRecDepth 100000 in
theorem rz_cd3 : lw_tbl[328]? = some (Cond.code (rz_Y 3) (rz_B 3) (rz_ML 3) (rz_RT 3)) := rfl
set_option maxRecDepth 100000 in
theorem rz_cd4 : lw_tbl[332]? = some (Cond.code (rz_Y 4) (rz_B 4) (rz_ML 4) (rz_RT 4)) := rfl
set_option maxRecDepth 100000 in
theorem rz_cd5 : lw_tbl[557]? = some (Cond.code (rz_Y 5) (rz_B 5) (rz_ML 5) (rz_RT 5)) := rfl
set_option maxRecDepth 100000 in
theorem rz_cd6 : lw_tbl[102]? = some (Cond.code (rz_Y 6) (rz_B 6) (rz_ML 6) (rz_RT 6)) := rfl
set_option maxRecDepth 100000 in
theorem rz_cd7 : lw_tbl[289]? = some (Cond.code (rz_Y 7) (rz_B 7) (rz_ML 7) (rz_RT 7)) := rfl
set_option maxRecDepth 100000 in
theorem rz_cd8 : lw_tbl[382]? = some (Cond.code (rz_Y 8) (rz_B 8) (rz_ML 8) (rz_RT 8)) := rfl
set_option maxRecDepth 100000 in
theorem rz_cd9 : lw_tbl[385]? = some (Cond.code (rz_Y 9) (rz_B 9) (rz_ML 9) (rz_RT 9)) := rfl
set_option maxRecDepth 100000 in
theorem rz_cd10 : lw_tbl[644]? = some (Cond.code (rz_Y 10) (rz_B 10) (rz_ML 10) (rz_RT 10)) := rfl
set_option maxRecDepth 100000 in
theorem rz_cd11 : lw_tbl[192]? = some (Cond.code (rz_Y 11) (rz_B 11) (rz_ML 11) (rz_RT 11)) := rfl
set_option maxRecDepth 100000 in
theorem rz_cd12 : lw_tbl[519]? = some (Cond.code (rz_Y 12) (rz_B 12) (rz_ML 12) (rz_RT 12)) := rfl
set_option maxRecDepth 100000 in
theorem rz_cd13 : lw_tbl[527]? = some (Cond.code (rz_Y 13) (rz_B 13) (rz_ML 13) (rz_RT 13)) := rfl
set_option maxRecDepth 100000 in
theorem rz_cd14 : lw_tbl[523]? = some (Cond.code (rz_Y 14) (rz_B 14) (rz_ML 14) (rz_RT 14)) := rfl
set_option maxRecDepth 100000 in
theorem rz_cd15 : lw_tbl[531]? = some (Cond.code (rz_Y 15) (rz_B 15) (rz_ML 15) (rz_RT 15)) := rfl
set_option maxRecDepth 100000 in
theorem rz_cd16 : lw_tbl[535]? = some (Cond.code (rz_Y 16) (rz_B 16) (rz_ML 16) (rz_RT 16)) := rfl
set_option maxRecDepth 100000 in
theorem rz_cd17 : lw_tbl[479]? = some (Cond.code (rz_Y 17) (rz_B 17) (rz_ML 17) (rz_RT 17)) := rfl
set_option maxRecDepth 100000 in
theorem rz_cd18 : lw_tbl[483]? = some (Cond.code (rz_Y 18) (rz_B 18) (rz_ML 18) (rz_RT 18)) := rfl
set_option maxRecDepth 100000 in
theorem rz_cd19 : lw_tbl[491]? = some (Cond.code (rz_Y 19) (rz_B 19) (rz_ML 19) (rz_RT 19)) := rfl
set_option maxRecDepth 100000 in
theorem rz_cd20 : lw_tbl[507]? = some (Cond.code (rz_Y 20) (rz_B 20) (rz_ML 20) (rz_RT 20)) := rfl
set_option maxRecDepth 100000 in
theorem rz_cd21 : lw_tbl[511]? = some (Cond.code (rz_Y 21) (rz_B 21) (rz_ML 21) (rz_RT 21)) := rfl
set_option maxRecDepth 100000 in
theorem rz_cd22 : lw_tbl[515]? = some (Cond.code (rz_Y 22) (rz_B 22) (rz_ML 22) (rz_RT 22)) := rfl
set_option maxRecDepth 100000 in
theorem rz_cd23 : lw_tbl[496]? = some (Cond.code (rz_Y 23) (rz_B 23) (rz_ML 23) (rz_RT 23)) := rfl
set_option maxRecDepth 100000 in
theorem rz_cd24 : lw_tbl[499]? = some (Cond.code (rz_Y 24) (rz_B 24) (rz_ML 24) (rz_RT 24)) := rfl
set_option maxRecDepth 100000 in
theorem rz_cd25 : lw_tbl[503]? = some (Cond.code (rz_Y 25) (rz_B 25) (rz_ML 25) (rz_RT 25)) := rfl
set_option maxRecDepth 100000 in
theorem rz_cd26 : lw_tbl[70]? = some (Cond.code (rz_Y 26) (rz_B 26) (rz_ML 26) (rz_RT 26)) := rfl
set_option maxRecDepth 100000 in
theorem rz_cd27 : lw_tbl[276]? = some (Cond.code (rz_Y 27) (rz_B 27) (rz_ML 27) (rz_RT 27)) := rfl
set_option maxRecDepth 100000 in
theorem rz_cd28 : lw_tbl[666]? = some (Cond.code (rz_Y 28) (rz_B 28) (rz_ML 28) (rz_RT 28)) := rfl
set_option maxRecDepth 100000 in
theorem rz_cd29 : lw_tbl[565]? = some (Cond.code (rz_Y 29) (rz_B 29) (rz_ML 29) (rz_RT 29)) := rfl
set_option maxRecDepth 100000 in
theorem rz_cd30 : lw_tbl[307]? = some (Cond.code (rz_Y 30) (rz_B 30) (rz_ML 30) (rz_RT 30)) := rfl
set_option maxRecDepth 100000 in
theorem rz_cd31 : lw_tbl[713]? = some (Cond.code (rz_Y 31) (rz_B 31) (rz_ML 31) (rz_RT 31)) := rfl
set_option maxRecDepth 100000 in
theorem rz_cd32 : lw_tbl[311]? = some (Cond.code (rz_Y 32) (rz_B 32) (rz_ML 32) (rz_RT 32)) := rfl
set_option maxRecDepth 100000 in
theorem rz_cd33 : lw_tbl[357]? = some (Cond.code (rz_Y 33) (rz_B 33) (rz_ML 33) (rz_RT 33)) := rfl
set_option maxRecDepth 100000 in
theorem rz_cd34 : lw_tbl[369]? = some (Cond.code (rz_Y 34) (rz_B 34) (rz_ML 34) (rz_RT 34)) := rfl
set_option maxRecDepth 100000 in
theorem rz_cd35 : lw_tbl[353]? = some (Cond.code (rz_Y 35) (rz_B 35) (rz_ML 35) (rz_RT 35)) := rfl
set_option maxRecDepth 100000 in
theorem rz_cd36 : lw_tbl[374]? = some (Cond.code (rz_Y 36) (rz_B 36) (rz_ML 36) (rz_RT 36)) := rfl
set_option maxRecDepth 100000 in
theorem rz_cd37 : lw_tbl[378]? = some (Cond.code (rz_Y 37) (rz_B 37) (rz_ML 37) (rz_RT 37)) := rfl
set_option maxRecDepth 100000 in
theorem rz_cd38 : lw_tbl[365]? = some (Cond.code (rz_Y 38) (rz_B 38) (rz_ML 38) (rz_RT 38)) := rfl
set_option maxRecDepth 100000 in
theorem rz_cd39 : lw_tbl[581]? = some (Cond.code (rz_Y 39) (rz_B 39) (rz_ML 39) (rz_RT 39)) := rfl
set_option maxRecDepth 100000 in
theorem rz_cd40 : lw_tbl[413]? = some (Cond.code (rz_Y 40) (rz_B 40) (rz_ML 40) (rz_RT 40)) := rfl
set_option maxRecDepth 100000 in
theorem rz_cd41 : lw_tbl[315]? = some (Cond.code (rz_Y 41) (rz_B 41) (rz_ML 41) (rz_RT 41)) := rfl
set_option maxRecDepth 100000 in
theorem rz_cd42 : lw_tbl[391]? = some (Cond.code (rz_Y 42) (rz_B 42) (rz_ML 42) (rz_RT 42)) := rfl
set_option maxRecDepth 100000 in
theorem rz_cd43 : lw_tbl[320]? = some (Cond.code (rz_Y 43) (rz_B 43) (rz_ML 43) (rz_RT 43)) := rfl
set_option maxRecDepth 100000 in
theorem rz_cd44 : lw_tbl[418]? = some (Cond.code (rz_Y 44) (rz_B 44) (rz_ML 44) (rz_RT 44)) := rfl
set_option maxRecDepth 100000 in
theorem rz_cd45 : lw_tbl[349]? = some (Cond.code (rz_Y 45) (rz_B 45) (rz_ML 45) (rz_RT 45)) := rfl
set_option maxRecDepth 100000 in
theorem rz_cd46 : lw_tbl[624]? = some (Cond.code (rz_Y 46) (rz_B 46) (rz_ML 46) (rz_RT 46)) := rfl
set_option maxRecDepth 100000 in
theorem rz_cd47 : lw_tbl[628]? = some (Cond.code (rz_Y 47) (rz_B 47) (rz_ML 47) (rz_RT 47)) := rfl
set_option maxRecDepth 100000 in
theorem rz_cd48 : lw_tbl[615]? = some (Cond.code (rz_Y 48) (rz_B 48) (rz_ML 48) (rz_RT 48)) := rfl
set_option maxRecDepth 100000 in
theorem rz_cd49 : lw_tbl[361]? = some (Cond.code (rz_Y 49) (rz_B 49) (rz_ML 49) (rz_RT 49)) := rfl
set_option maxRecDepth 100000 in
theorem rz_cd50 : lw_tbl[590]? = some (Cond.code (rz_Y 50) (rz_B 50) (rz_ML 50) (rz_RT 50)) := rfl
set_option maxRecDepth 100000 in
theorem rz_cd51 : lw_tbl[594]? = some (Cond.code (rz_Y 51) (rz_B 51) (rz_ML 51) (rz_RT 51)) := rfl
set_option maxRecDepth 100000 in
theorem rz_cd52 : lw_tbl[598]? = some (Cond.code (rz_Y 52) (rz_B 52) (rz_ML 52) (rz_RT 52)) := rfl
set_option maxRecDepth 100000 in
theorem rz_cd53 : lw_tbl[605]? = some (Cond.code (rz_Y 53) (rz_B 53) (rz_ML 53) (rz_RT 53)) := rfl
set_option maxRecDepth 100000 in
theorem rz_cd54 : lw_tbl[636]? = some (Cond.code (rz_Y 54) (rz_B 54) (rz_ML 54) (rz_RT 54)) := rfl
set_option maxRecDepth 100000 in
theorem rz_cd55 : lw_tbl[727]? = some (Cond.code (rz_Y 55) (rz_B 55) (rz_ML 55) (rz_RT 55)) := rfl
set_option maxRecDepth 100000 in
theorem rz_cd56 : lw_tbl[124]? = some (Cond.code (rz_Y 56) (rz_B 56) (rz_ML 56) (rz_RT 56)) := rfl
set_option maxRecDepth 100000 in
theorem rz_cd57 : lw_tbl[294]? = some (Cond.code (rz_Y 57) (rz_B 57) (rz_ML 57) (rz_RT 57)) := rfl
set_option maxRecDepth 100000 in
theorem rz_cd58 : lw_tbl[732]? = some (Cond.code (rz_Y 58) (rz_B 58) (rz_ML 58) (rz_RT 58)) := rfl
set_option maxRecDepth 100000 in
theorem rz_cd59 : lw_tbl[443]? = some (Cond.code (rz_Y 59) (rz_B 59) (rz_ML 59) (rz_RT 59)) := rfl
set_option maxRecDepth 100000 in
theorem rz_cd60 : lw_tbl[447]? = some (Cond.code (rz_Y 60) (rz_B 60) (rz_ML 60) (rz_RT 60)) := rfl
set_option maxRecDepth 100000 in
theorem rz_cd61 : lw_tbl[436]? = some (Cond.code (rz_Y 61) (rz_B 61) (rz_ML 61) (rz_RT 61)) := rfl
set_option maxRecDepth 100000 in
theorem rz_cd62 : lw_tbl[455]? = some (Cond.code (rz_Y 62) (rz_B 62) (rz_ML 62) (rz_RT 62)) := rfl
set_option maxRecDepth 100000 in
theorem rz_cd63 : lw_tbl[214]? = some (Cond.code (rz_Y 63) (rz_B 63) (rz_ML 63) (rz_RT 63)) := rfl
set_option maxRecDepth 100000 in
theorem rz_cd64 : lw_tbl[701]? = some (Cond.code (rz_Y 64) (rz_B 64) (rz_ML 64) (rz_RT 64)) := rfl
set_option maxRecDepth 100000 in
theorem rz_cd65 : lw_tbl[705]? = some (Cond.code (rz_Y 65) (rz_B 65) (rz_ML 65) (rz_RT 65)) := rfl
set_option maxRecDepth 100000 in
theorem rz_cd66 : lw_tbl[709]? = some (Cond.code (rz_Y 66) (rz_B 66) (rz_ML 66) (rz_RT 66)) := rfl
set_option maxRecDepth 100000 in
theorem rz_cd67 : lw_tbl[717]? = some (Cond.code (rz_Y 67) (rz_B 67) (rz_ML 67) (rz_RT 67)) := rfl
set_option maxRecDepth 100000 in
theorem rz_cd68 : lw_tbl[692]? = some (Cond.code (rz_Y 68) (rz_B 68) (rz_ML 68) (rz_RT 68)) := rfl
set_option maxRecDepth 100000 in
theorem rz_cd69 : lw_tbl[658]? = some (Cond.code (rz_Y 69) (rz_B 69) (rz_ML 69) (rz_RT 69)) := rfl
set_option maxRecDepth 100000 in
theorem rz_cd70 : lw_tbl[662]? = some (Cond.code (rz_Y 70) (rz_B 70) (rz_ML 70) (rz_RT 70)) := rfl
set_option maxRecDepth 100000 in
theorem rz_cd71 : lw_tbl[670]? = some (Cond.code (rz_Y 71) (rz_B 71) (rz_ML 71) (rz_RT 71)) := rfl
set_option maxRecDepth 100000 in
theorem rz_cd72 : lw_tbl[676]? = some (Cond.code (rz_Y 72) (rz_B 72) (rz_ML 72) (rz_RT 72)) := rfl
set_option maxRecDepth 100000 in
theorem rz_cd73 : lw_tbl[687]? = some (Cond.code (rz_Y 73) (rz_B 73) (rz_ML 73) (rz_RT 73)) := rfl
set_option maxRecDepth 100000 in
theorem rz_cd74 : lw_tbl[64]? = some (Cond.code (rz_Y 74) (rz_B 74) (rz_ML 74) (rz_RT 74)) := rfl
set_option maxRecDepth 100000 in
theorem rz_cd75 : lw_tbl[272]? = some (Cond.code (rz_Y 75) (rz_B 75) (rz_ML 75) (rz_RT 75)) := rfl
set_option maxRecDepth 100000 in
theorem rz_cd76 : lw_tbl[299]? = some (Cond.code (rz_Y 76) (rz_B 76) (rz_ML 76) (rz_RT 76)) := rfl
set_option maxRecDepth 100000 in
theorem rz_cd77 : lw_tbl[345]? = some (Cond.code (rz_Y 77) (rz_B 77) (rz_ML 77) (rz_RT 77)) := rfl
set_option maxRecDepth 100000 in
theorem rz_cd78 : lw_tbl[400]? = some (Cond.code (rz_Y 78) (rz_B 78) (rz_ML 78) (rz_RT 78)) := rfl
set_option maxRecDepth 100000 in
theorem rz_cd79 : lw_tbl[409]? = some (Cond.code (rz_Y 79) (rz_B 79) (rz_ML 79) (rz_RT 79)) := rfl
set_option maxRecDepth 100000 in
theorem rz_cd80 : lw_tbl[428]? = some (Cond.code (rz_Y 80) (rz_B 80) (rz_ML 80) (rz_RT 80)) := rfl
set_option maxRecDepth 100000 in
theorem rz_cd81 : lw_tbl[539]? = some (Cond.code (rz_Y 81) (rz_B 81) (rz_ML 81) (rz_RT 81)) := rfl
set_option maxRecDepth 100000 in
theorem rz_cd82 : lw_tbl[178]? = some (Cond.code (rz_Y 82) (rz_B 82) (rz_ML 82) (rz_RT 82)) := rfl
set_option maxRecDepth 100000 in
theorem rz_cd83 : lw_tbl[740]? = some (Cond.code (rz_Y 83) (rz_B 83) (rz_ML 83) (rz_RT 83)) := rfl
set_option maxRecDepth 100000 in
theorem rz_cd84 : lw_tbl[463]? = some (Cond.code (rz_Y 84) (rz_B 84) (rz_ML 84) (rz_RT 84)) := rfl
set_option maxRecDepth 100000 in
theorem rz_cd85 : lw_tbl[471]? = some (Cond.code (rz_Y 85) (rz_B 85) (rz_ML 85) (rz_RT 85)) := rfl
set_option maxRecDepth 100000 in
theorem rz_cd86 : lw_tbl[487]? = some (Cond.code (rz_Y 86) (rz_B 86) (rz_ML 86) (rz_RT 86)) := rfl
set_option maxRecDepth 100000 in
theorem rz_cd87 : lw_tbl[56]? = some (Cond.code (rz_Y 87) (rz_B 87) (rz_ML 87) (rz_RT 87)) := rfl
set_option maxRecDepth 100000 in
theorem rz_cd88 : lw_tbl[268]? = some (Cond.code (rz_Y 88) (rz_B 88) (rz_ML 88) (rz_RT 88)) := rfl
set_option maxRecDepth 100000 in
theorem rz_cd89 : lw_tbl[341]? = some (Cond.code (rz_Y 89) (rz_B 89) (rz_ML 89) (rz_RT 89)) := rfl
set_option maxRecDepth 100000 in
theorem rz_cd90 : lw_tbl[396]? = some (Cond.code (rz_Y 90) (rz_B 90) (rz_ML 90) (rz_RT 90)) := rfl
set_option maxRecDepth 100000 in
theorem rz_cd91 : lw_tbl[405]? = some (Cond.code (rz_Y 91) (rz_B 91) (rz_ML 91) (rz_RT 91)) := rfl
set_option maxRecDepth 100000 in
theorem rz_cd92 : lw_tbl[424]? = some (Cond.code (rz_Y 92) (rz_B 92) (rz_ML 92) (rz_RT 92)) := rfl
set_option maxRecDepth 100000 in
theorem rz_cd93 : lw_tbl[432]? = some (Cond.code (rz_Y 93) (rz_B 93) (rz_ML 93) (rz_RT 93)) := rfl
set_option maxRecDepth 100000 in
theorem rz_cd94 : lw_tbl[451]? = some (Cond.code (rz_Y 94) (rz_B 94) (rz_ML 94) (rz_RT 94)) := rfl
set_option maxRecDepth 100000 in
theorem rz_cd95 : lw_tbl[459]? = some (Cond.code (rz_Y 95) (rz_B 95) (rz_ML 95) (rz_RT 95)) := rfl
set_option maxRecDepth 100000 in
theorem rz_cd96 : lw_tbl[467]? = some (Cond.code (rz_Y 96) (rz_B 96) (rz_ML 96) (rz_RT 96)) := rfl
set_option maxRecDepth 100000 in
theorem rz_cd97 : lw_tbl[475]? = some (Cond.code (rz_Y 97) (rz_B 97) (rz_ML 97) (rz_RT 97)) := rfl
set_option maxRecDepth 100000 in
theorem rz_cd98 : lw_tbl[549]? = some (Cond.code (rz_Y 98) (rz_B 98) (rz_ML 98) (rz_RT 98)) := rfl
set_option maxRecDepth 100000 in
theorem rz_cd99 : lw_tbl[553]? = some (Cond.code (rz_Y 99) (rz_B 99) (rz_ML 99) (rz_RT 99)) := rfl
set_option maxRecDepth 100000 in
theorem rz_cd100 : lw_tbl[561]? = some (Cond.code (rz_Y 100) (rz_B 100) (rz_ML 100) (rz_RT 100)) := rfl
set_option maxRecDepth 100000 in
theorem rz_cd101 : lw_tbl[569]? = some (Cond.code (rz_Y 101) (rz_B 101) (rz_ML 101) (rz_RT 101)) := rfl
set_option maxRecDepth 100000 in
theorem rz_cd102 : lw_tbl[573]? = some (Cond.code (rz_Y 102) (rz_B 102) (rz_ML 102) (rz_RT 102)) := rfl
set_option maxRecDepth 100000 in
theorem rz_cd103 : lw_tbl[586]? = some (Cond.code (rz_Y 103) (rz_B 103) (rz_ML 103) (rz_RT 103)) := rfl
set_option maxRecDepth 100000 in
theorem rz_cd104 : lw_tbl[609]? = some (Cond.code (rz_Y 104) (rz_B 104) (rz_ML 104) (rz_RT 104)) := rfl
set_option maxRecDepth 100000 in
theorem rz_cd105 : lw_tbl[620]? = some (Cond.code (rz_Y 105) (rz_B 105) (rz_ML 105) (rz_RT 105)) := rfl
set_option maxRecDepth 100000 in
theorem rz_cd106 : lw_tbl[632]? = some (Cond.code (rz_Y 106) (rz_B 106) (rz_ML 106) (rz_RT 106)) := rfl
set_option maxRecDepth 100000 in
theorem rz_cd107 : lw_tbl[640]? = some (Cond.code (rz_Y 107) (rz_B 107) (rz_ML 107) (rz_RT 107)) := rfl
set_option maxRecDepth 100000 in
theorem rz_cd108 : lw_tbl[648]? = some (Cond.code (rz_Y 108) (rz_B 108) (rz_ML 108) (rz_RT 108)) := rfl
set_option maxRecDepth 100000 in
theorem rz_cd109 : lw_tbl[654]? = some (Cond.code (rz_Y 109) (rz_B 109) (rz_ML 109) (rz_RT 109)) := rfl
set_option maxRecDepth 100000 in
theorem rz_cd110 : lw_tbl[697]? = some (Cond.code (rz_Y 110) (rz_B 110) (rz_ML 110) (rz_RT 110)) := rfl
set_option maxRecDepth 100000 in
theorem rz_cd111 : lw_tbl[721]? = some (Cond.code (rz_Y 111) (rz_B 111) (rz_ML 111) (rz_RT 111)) := rfl
set_option maxRecDepth 100000 in
theorem rz_cd112 : lw_tbl[324]? = some (Cond.code (rz_Y 112) (rz_B 112) (rz_ML 112) (rz_RT 112)) := rfl
set_option maxRecDepth 100000 in
theorem rz_cd113 : lw_tbl[545]? = some (Cond.code (rz_Y 113) (rz_B 113) (rz_ML 113) (rz_RT 113)) := rfl
set_option maxRecDepth 100000 in
theorem rz_cd114 : lw_tbl[302]? = some (Cond.code (rz_Y 114) (rz_B 114) (rz_ML 114) (rz_RT 114)) := rfl
set_option maxRecDepth 100000 in
theorem rz_cd115 : lw_tbl[439]? = some (Cond.code (rz_Y 115) (rz_B 115) (rz_ML 115) (rz_RT 115)) := rfl
set_option maxRecDepth 100000 in
theorem rz_cd116 : lw_tbl[279]? = some (Cond.code (rz_Y 116) (rz_B 116) (rz_ML 116) (rz_RT 116)) := rfl
set_option maxRecDepth 100000 in
theorem rz_cd117 : lw_tbl[745]? = some (Cond.code (rz_Y 117) (rz_B 117) (rz_ML 117) (rz_RT 117)) := rfl
set_option maxRecDepth 100000 in
theorem rz_cd118 : lw_tbl[827]? = some (Cond.code (rz_Y 118) (rz_B 118) (rz_ML 118) (rz_RT 118)) := rfl
set_option maxRecDepth 100000 in
theorem rz_cd119 : lw_tbl[799]? = some (Cond.code (rz_Y 119) (rz_B 119) (rz_ML 119) (rz_RT 119)) := rfl
set_option maxRecDepth 100000 in
theorem rz_cd120 : lw_tbl[815]? = some (Cond.code (rz_Y 120) (rz_B 120) (rz_ML 120) (rz_RT 120)) := rfl
set_option maxRecDepth 100000 in
theorem rz_cd121 : lw_tbl[811]? = some (Cond.code (rz_Y 121) (rz_B 121) (rz_ML 121) (rz_RT 121)) := rfl
set_option maxRecDepth 100000 in
theorem rz_cd122 : lw_tbl[796]? = some (Cond.code (rz_Y 122) (rz_B 122) (rz_ML 122) (rz_RT 122)) := rfl
set_option maxRecDepth 100000 in
theorem rz_cd123 : lw_tbl[803]? = some (Cond.code (rz_Y 123) (rz_B 123) (rz_ML 123) (rz_RT 123)) := rfl
set_option maxRecDepth 100000 in
theorem rz_cd124 : lw_tbl[807]? = some (Cond.code (rz_Y 124) (rz_B 124) (rz_ML 124) (rz_RT 124)) := rfl
set_option maxRecDepth 100000 in
theorem rz_cd125 : lw_tbl[855]? = some (Cond.code (rz_Y 125) (rz_B 125) (rz_ML 125) (rz_RT 125)) := rfl
set_option maxRecDepth 100000 in
theorem rz_cd126 : lw_tbl[833]? = some (Cond.code (rz_Y 126) (rz_B 126) (rz_ML 126) (rz_RT 126)) := rfl
set_option maxRecDepth 100000 in
theorem rz_cd127 : lw_tbl[836]? = some (Cond.code (rz_Y 127) (rz_B 127) (rz_ML 127) (rz_RT 127)) := rfl
set_option maxRecDepth 100000 in
theorem rz_cd128 : lw_tbl[861]? = some (Cond.code (rz_Y 128) (rz_B 128) (rz_ML 128) (rz_RT 128)) := rfl
set_option maxRecDepth 100000 in
theorem rz_cd129 : lw_tbl[852]? = some (Cond.code (rz_Y 129) (rz_B 129) (rz_ML 129) (rz_RT 129)) := rfl
set_option maxRecDepth 100000 in
theorem rz_cd130 : lw_tbl[977]? = some (Cond.code (rz_Y 130) (rz_B 130) (rz_ML 130) (rz_RT 130)) := rfl
set_option maxRecDepth 100000 in
theorem rz_cd131 : lw_tbl[858]? = some (Cond.code (rz_Y 131) (rz_B 131) (rz_ML 131) (rz_RT 131)) := rfl
set_option maxRecDepth 100000 in
theorem rz_cd132 : lw_tbl[839]? = some (Cond.code (rz_Y 132) (rz_B 132) (rz_ML 132) (rz_RT 132)) := rfl
set_option maxRecDepth 100000 in
theorem rz_cd133 : lw_tbl[864]? = some (Cond.code (rz_Y 133) (rz_B 133) (rz_ML 133) (rz_RT 133)) := rfl
set_option maxRecDepth 100000 in
theorem rz_cd134 : lw_tbl[830]? = some (Cond.code (rz_Y 134) (rz_B 134) (rz_ML 134) (rz_RT 134)) := rfl
set_option maxRecDepth 100000 in
theorem rz_cd135 : lw_tbl[870]? = some (Cond.code (rz_Y 135) (rz_B 135) (rz_ML 135) (rz_RT 135)) := rfl
set_option maxRecDepth 100000 in
theorem rz_cd136 : lw_tbl[867]? = some (Cond.code (rz_Y 136) (rz_B 136) (rz_ML 136) (rz_RT 136)) := rfl
set_option maxRecDepth 100000 in
theorem rz_cd137 : lw_tbl[849]? = some (Cond.code (rz_Y 137) (rz_B 137) (rz_ML 137) (rz_RT 137)) := rfl
set_option maxRecDepth 100000 in
theorem rz_cd138 : lw_tbl[846]? = some (Cond.code (rz_Y 138) (rz_B 138) (rz_ML 138) (rz_RT 138)) := rfl
set_option maxRecDepth 100000 in
theorem rz_cd139 : lw_tbl[888]? = some (Cond.code (rz_Y 139) (rz_B 139) (rz_ML 139) (rz_RT 139)) := rfl
set_option maxRecDepth 100000 in
theorem rz_cd140 : lw_tbl[823]? = some (Cond.code (rz_Y 140) (rz_B 140) (rz_ML 140) (rz_RT 140)) := rfl
set_option maxRecDepth 100000 in
theorem rz_cd141 : lw_tbl[819]? = some (Cond.code (rz_Y 141) (rz_B 141) (rz_ML 141) (rz_RT 141)) := rfl
set_option maxRecDepth 100000 in
theorem rz_cd142 : lw_tbl[843]? = some (Cond.code (rz_Y 142) (rz_B 142) (rz_ML 142) (rz_RT 142)) := rfl
set_option maxRecDepth 100000 in
theorem rz_cd143 : lw_tbl[877]? = some (Cond.code (rz_Y 143) (rz_B 143) (rz_ML 143) (rz_RT 143)) := rfl
set_option maxRecDepth 100000 in
theorem rz_cd144 : lw_tbl[874]? = some (Cond.code (rz_Y 144) (rz_B 144) (rz_ML 144) (rz_RT 144)) := rfl
set_option maxRecDepth 100000 in
theorem rz_cd145 : lw_tbl[885]? = some (Cond.code (rz_Y 145) (rz_B 145) (rz_ML 145) (rz_RT 145)) := rfl
set_option maxRecDepth 100000 in
theorem rz_cd146 : lw_tbl[892]? = some (Cond.code (rz_Y 146) (rz_B 146) (rz_ML 146) (rz_RT 146)) := rfl
set_option maxRecDepth 100000 in
theorem rz_cd147 : lw_tbl[881]? = some (Cond.code (rz_Y 147) (rz_B 147) (rz_ML 147) (rz_RT 147)) := rfl
set_option maxRecDepth 100000 in
theorem rz_cd148 : lw_tbl[900]? = some (Cond.code (rz_Y 148) (rz_B 148) (rz_ML 148) (rz_RT 148)) := rfl
set_option maxRecDepth 100000 in
theorem rz_cd149 : lw_tbl[896]? = some (Cond.code (rz_Y 149) (rz_B 149) (rz_ML 149) (rz_RT 149)) := rfl
set_option maxRecDepth 100000 in
theorem rz_cd150 : lw_tbl[907]? = some (Cond.code (rz_Y 150) (rz_B 150) (rz_ML 150) (rz_RT 150)) := rfl
set_option maxRecDepth 100000 in
theorem rz_cd151 : lw_tbl[914]? = some (Cond.code (rz_Y 151) (rz_B 151) (rz_ML 151) (rz_RT 151)) := rfl
set_option maxRecDepth 100000 in
theorem rz_cd152 : lw_tbl[910]? = some (Cond.code (rz_Y 152) (rz_B 152) (rz_ML 152) (rz_RT 152)) := rfl
set_option maxRecDepth 100000 in
theorem rz_cd153 : lw_tbl[904]? = some (Cond.code (rz_Y 153) (rz_B 153) (rz_ML 153) (rz_RT 153)) := rfl
set_option maxRecDepth 100000 in
theorem rz_cd154 : lw_tbl[918]? = some (Cond.code (rz_Y 154) (rz_B 154) (rz_ML 154) (rz_RT 154)) := rfl
set_option maxRecDepth 100000 in
theorem rz_cd155 : lw_tbl[922]? = some (Cond.code (rz_Y 155) (rz_B 155) (rz_ML 155) (rz_RT 155)) := rfl
set_option maxRecDepth 100000 in
theorem rz_cd156 : lw_tbl[926]? = some (Cond.code (rz_Y 156) (rz_B 156) (rz_ML 156) (rz_RT 156)) := rfl
set_option maxRecDepth 100000 in
theorem rz_cd157 : lw_tbl[946]? = some (Cond.code (rz_Y 157) (rz_B 157) (rz_ML 157) (rz_RT 157)) := rfl
set_option maxRecDepth 100000 in
theorem rz_cd158 : lw_tbl[942]? = some (Cond.code (rz_Y 158) (rz_B 158) (rz_ML 158) (rz_RT 158)) := rfl
set_option maxRecDepth 100000 in
theorem rz_cd159 : lw_tbl[954]? = some (Cond.code (rz_Y 159) (rz_B 159) (rz_ML 159) (rz_RT 159)) := rfl
set_option maxRecDepth 100000 in
theorem rz_cd160 : lw_tbl[950]? = some (Cond.code (rz_Y 160) (rz_B 160) (rz_ML 160) (rz_RT 160)) := rfl
set_option maxRecDepth 100000 in
theorem rz_cd161 : lw_tbl[938]? = some (Cond.code (rz_Y 161) (rz_B 161) (rz_ML 161) (rz_RT 161)) := rfl
set_option maxRecDepth 100000 in
theorem rz_cd162 : lw_tbl[934]? = some (Cond.code (rz_Y 162) (rz_B 162) (rz_ML 162) (rz_RT 162)) := rfl
set_option maxRecDepth 100000 in
theorem rz_cd163 : lw_tbl[958]? = some (Cond.code (rz_Y 163) (rz_B 163) (rz_ML 163) (rz_RT 163)) := rfl
set_option maxRecDepth 100000 in
theorem rz_cd164 : lw_tbl[930]? = some (Cond.code (rz_Y 164) (rz_B 164) (rz_ML 164) (rz_RT 164)) := rfl
set_option maxRecDepth 100000 in
theorem rz_cd165 : lw_tbl[962]? = some (Cond.code (rz_Y 165) (rz_B 165) (rz_ML 165) (rz_RT 165)) := rfl
set_option maxRecDepth 100000 in
theorem rz_cd166 : lw_tbl[970]? = some (Cond.code (rz_Y 166) (rz_B 166) (rz_ML 166) (rz_RT 166)) := rfl
set_option maxRecDepth 100000 in
theorem rz_cd167 : lw_tbl[966]? = some (Cond.code (rz_Y 167) (rz_B 167) (rz_ML 167) (rz_RT 167)) := rfl
set_option maxRecDepth 100000 in
theorem rz_cd168 : lw_tbl[974]? = some (Cond.code (rz_Y 168) (rz_B 168) (rz_ML 168) (rz_RT 168)) := rfl
set_option maxRecDepth 100000 in
theorem rz_cd169 : lw_tbl[985]? = some (Cond.code (rz_Y 169) (rz_B 169) (rz_ML 169) (rz_RT 169)) := rfl
set_option maxRecDepth 100000 in
theorem rz_cd170 : lw_tbl[981]? = some (Cond.code (rz_Y 170) (rz_B 170) (rz_ML 170) (rz_RT 170)) := rfl
set_option maxRecDepth 100000 in
theorem rz_cd171 : lw_tbl[993]? = some (Cond.code (rz_Y 171) (rz_B 171) (rz_ML 171) (rz_RT 171)) := rfl
set_option maxRecDepth 100000 in
theorem rz_cd172 : lw_tbl[989]? = some (Cond.code (rz_Y 172) (rz_B 172) (rz_ML 172) (rz_RT 172)) := rfl
set_option maxRecDepth 100000 in
theorem rz_cd173 : lw_tbl[997]? = some (Cond.code (rz_Y 173) (rz_B 173) (rz_ML 173) (rz_RT 173)) := rfl
set_option maxRecDepth 100000 in
theorem rz_cd174 : lw_tbl[1001]? = some (Cond.code (rz_Y 174) (rz_B 174) (rz_ML 174) (rz_RT 174)) := rfl
set_option maxRecDepth 100000 in
theorem rz_cd175 : lw_tbl[1005]? = some (Cond.code (rz_Y 175) (rz_B 175) (rz_ML 175) (rz_RT 175)) := rfl
set_option maxRecDepth 100000 in
theorem rz_cd176 : lw_tbl[1017]? = some (Cond.code (rz_Y 176) (rz_B 176) (rz_ML 176) (rz_RT 176)) := rfl
set_option maxRecDepth 100000 in
theorem rz_cd177 : lw_tbl[1013]? = some (Cond.code (rz_Y 177) (rz_B 177) (rz_ML 177) (rz_RT 177)) := rfl
set_option maxRecDepth 100000 in
theorem rz_cd178 : lw_tbl[1009]? = some (Cond.code (rz_Y 178) (rz_B 178) (rz_ML 178) (rz_RT 178)) := rfl
set_option maxRecDepth 100000 in
theorem rz_cd179 : lw_tbl[1025]? = some (Cond.code (rz_Y 179) (rz_B 179) (rz_ML 179) (rz_RT 179)) := rfl
set_option maxRecDepth 100000 in
theorem rz_cd180 : lw_tbl[1021]? = some (Cond.code (rz_Y 180) (rz_B 180) (rz_ML 180) (rz_RT 180)) := rfl
set_option maxRecDepth 100000 in
theorem rz_cd181 : lw_tbl[1033]? = some (Cond.code (rz_Y 181) (rz_B 181) (rz_ML 181) (rz_RT 181)) := rfl
set_option maxRecDepth 100000 in
theorem rz_cd182 : lw_tbl[1029]? = some (Cond.code (rz_Y 182) (rz_B 182) (rz_ML 182) (rz_RT 182)) := rfl
theorem rz_okD : ∀ k, k < 183 → ∃ i : Nat, lw_tbl[i]? = some (Cond.code (rz_Y k) (rz_B k) (rz_ML k) (rz_RT k)) := by
  intro k hk
  match k, hk with
  | 0, _ => exact ⟨_, rz_cd0⟩
  | 1, _ => exact ⟨_, rz_cd1⟩
  | 2, _ => exact ⟨_, rz_cd2⟩
  | 3, _ => exact ⟨_, rz_cd3⟩
  | 4, _ => exact ⟨_, rz_cd4⟩
  | 5, _ => exact ⟨_, rz_cd5⟩
  | 6, _ => exact ⟨_, rz_cd6⟩
  | 7, _ => exact ⟨_, rz_cd7⟩
  | 8, _ => exact ⟨_, rz_cd8⟩
  | 9, _ => exact ⟨_, rz_cd9⟩
  | 10, _ => exact ⟨_, rz_cd10⟩
  | 11, _ => exact ⟨_, rz_cd11⟩
  | 12, _ => exact ⟨_, rz_cd12⟩
  | 13, _ => exact ⟨_, rz_cd13⟩
  | 14, _ => exact ⟨_, rz_cd14⟩
  | 15, _ => exact ⟨_, rz_cd15⟩
  | 16, _ => exact ⟨_, rz_cd16⟩
  | 17, _ => exact ⟨_, rz_cd17⟩
  | 18, _ => exact ⟨_, rz_cd18⟩
  | 19, _ => exact ⟨_, rz_cd19⟩
  | 20, _ => exact ⟨_, rz_cd20⟩
  | 21, _ => exact ⟨_, rz_cd21⟩
  | 22, _ => exact ⟨_, rz_cd22⟩
  | 23, _ => exact ⟨_, rz_cd23⟩
  | 24, _ => exact ⟨_, rz_cd24⟩
  | 25, _ => exact ⟨_, rz_cd25⟩
  | 26, _ => exact ⟨_, rz_cd26⟩
  | 27, _ => exact ⟨_, rz_cd27⟩
  | 28, _ => exact ⟨_, rz_cd28⟩
  | 29, _ => exact ⟨_, rz_cd29⟩
  | 30, _ => exact ⟨_, rz_cd30⟩
  | 31, _ => exact ⟨_, rz_cd31⟩
  | 32, _ => exact ⟨_, rz_cd32⟩
  | 33, _ => exact ⟨_, rz_cd33⟩
  | 34, _ => exact ⟨_, rz_cd34⟩
  | 35, _ => exact ⟨_, rz_cd35⟩
  | 36, _ => exact ⟨_, rz_cd36⟩
  | 37, _ => exact ⟨_, rz_cd37⟩
  | 38, _ => exact ⟨_, rz_cd38⟩
  | 39, _ => exact ⟨_, rz_cd39⟩
  | 40, _ => exact ⟨_, rz_cd40⟩
  | 41, _ => exact ⟨_, rz_cd41⟩
  | 42, _ => exact ⟨_, rz_cd42⟩
  | 43, _ => exact ⟨_, rz_cd43⟩
  | 44, _ => exact ⟨_, rz_cd44⟩
  | 45, _ => exact ⟨_, rz_cd45⟩
  | 46, _ => exact ⟨_, rz_cd46⟩
  | 47, _ => exact ⟨_, rz_cd47⟩
  | 48, _ => exact ⟨_, rz_cd48⟩
  | 49, _ => exact ⟨_, rz_cd49⟩
  | 50, _ => exact ⟨_, rz_cd50⟩
  | 51, _ => exact ⟨_, rz_cd51⟩
  | 52, _ => exact ⟨_, rz_cd52⟩
  | 53, _ => exact ⟨_, rz_cd53⟩
  | 54, _ => exact ⟨_, rz_cd54⟩
  | 55, _ => exact ⟨_, rz_cd55⟩
  | 56, _ => exact ⟨_, rz_cd56⟩
  | 57, _ => exact ⟨_, rz_cd57⟩
  | 58, _ => exact ⟨_, rz_cd58⟩
  | 59, _ => exact ⟨_, rz_cd59⟩
  | 60, _ => exact ⟨_, rz_cd60⟩
  | 61, _ => exact ⟨_, rz_cd61⟩
  | 62, _ => exact ⟨_, rz_cd62⟩
  | 63, _ => exact ⟨_, rz_cd63⟩
  | 64, _ => exact ⟨_, rz_cd64⟩
  | 65, _ => exact ⟨_, rz_cd65⟩
  | 66, _ => exact ⟨_, rz_cd66⟩
  | 67, _ => exact ⟨_, rz_cd67⟩
  | 68, _ => exact ⟨_, rz_cd68⟩
  | 69, _ => exact ⟨_, rz_cd69⟩
  | 70, _ => exact ⟨_, rz_cd70⟩
  | 71, _ => exact ⟨_, rz_cd71⟩
  | 72, _ => exact ⟨_, rz_cd72⟩
  | 73, _ => exact ⟨_, rz_cd73⟩
  | 74, _ => exact ⟨_, rz_cd74⟩
  | 75, _ => exact ⟨_, rz_cd75⟩
  | 76, _ => exact ⟨_, rz_cd76⟩
  | 77, _ => exact ⟨_, rz_cd77⟩
  | 78, _ => exact ⟨_, rz_cd78⟩
  | 79, _ => exact ⟨_, rz_cd79⟩
  | 80, _ => exact ⟨_, rz_cd80⟩
  | 81, _ => exact ⟨_, rz_cd81⟩
  | 82, _ => exact ⟨_, rz_cd82⟩
  | 83, _ => exact ⟨_, rz_cd83⟩
  | 84, _ => exact ⟨_, rz_cd84⟩
  | 85, _ => exact ⟨_, rz_cd85⟩
  | 86, _ => exact ⟨_, rz_cd86⟩
  | 87, _ => exact ⟨_, rz_cd87⟩
  | 88, _ => exact ⟨_, rz_cd88⟩
  | 89, _ => exact ⟨_, rz_cd89⟩
  | 90, _ => exact ⟨_, rz_cd90⟩
  | 91, _ => exact ⟨_, rz_cd91⟩
  | 92, _ => exact ⟨_, rz_cd92⟩
  | 93, _ => exact ⟨_, rz_cd93⟩
  | 94, _ => exact ⟨_, rz_cd94⟩
  | 95, _ => exact ⟨_, rz_cd95⟩
  | 96, _ => exact ⟨_, rz_cd96⟩
  | 97, _ => exact ⟨_, rz_cd97⟩
  | 98, _ => exact ⟨_, rz_cd98⟩
  | 99, _ => exact ⟨_, rz_cd99⟩
  | 100, _ => exact ⟨_, rz_cd100⟩
  | 101, _ => exact ⟨_, rz_cd101⟩
  | 102, _ => exact ⟨_, rz_cd102⟩
  | 103, _ => exact ⟨_, rz_cd103⟩
  | 104, _ => exact ⟨_, rz_cd104⟩
  | 105, _ => exact ⟨_, rz_cd105⟩
  | 106, _ => exact ⟨_, rz_cd106⟩
  | 107, _ => exact ⟨_, rz_cd107⟩
  | 108, _ => exact ⟨_, rz_cd108⟩
  | 109, _ => exact ⟨_, rz_cd109⟩
  | 110, _ => exact ⟨_, rz_cd110⟩
  | 111, _ => exact ⟨_, rz_cd111⟩
  | 112, _ => exact ⟨_, rz_cd112⟩
  | 113, _ => exact ⟨_, rz_cd113⟩
  | 114, _ => exact ⟨_, rz_cd114⟩
  | 115, _ => exact ⟨_, rz_cd115⟩
  | 116, _ => exact ⟨_, rz_cd116⟩
  | 117, _ => exact ⟨_, rz_cd117⟩
  | 118, _ => exact ⟨_, rz_cd118⟩
  | 119, _ => exact ⟨_, rz_cd119⟩
  | 120, _ => exact ⟨_, rz_cd120⟩
  | 121, _ => exact ⟨_, rz_cd121⟩
  | 122, _ => exact ⟨_, rz_cd122⟩
  | 123, _ => exact ⟨_, rz_cd123⟩
  | 124, _ => exact ⟨_, rz_cd124⟩
  | 125, _ => exact ⟨_, rz_cd125⟩
  | 126, _ => exact ⟨_, rz_cd126⟩
  | 127, _ => exact ⟨_, rz_cd127⟩
  | 128, _ => exact ⟨_, rz_cd128⟩
  | 129, _ => exact ⟨_, rz_cd129⟩
  | 130, _ => exact ⟨_, rz_cd130⟩
  | 131, _ => exact ⟨_, rz_cd131⟩
  | 132, _ => exact ⟨_, rz_cd132⟩
  | 133, _ => exact ⟨_, rz_cd133⟩
  | 134, _ => exact ⟨_, rz_cd134⟩
  | 135, _ => exact ⟨_, rz_cd135⟩
  | 136, _ => exact ⟨_, rz_cd136⟩
  | 137, _ => exact ⟨_, rz_cd137⟩
  | 138, _ => exact ⟨_, rz_cd138⟩
  | 139, _ => exact ⟨_, rz_cd139⟩
  | 140, _ => exact ⟨_, rz_cd140⟩
  | 141, _ => exact ⟨_, rz_cd141⟩
  | 142, _ => exact ⟨_, rz_cd142⟩
  | 143, _ => exact ⟨_, rz_cd143⟩
  | 144, _ => exact ⟨_, rz_cd144⟩
  | 145, _ => exact ⟨_, rz_cd145⟩
  | 146, _ => exact ⟨_, rz_cd146⟩
  | 147, _ => exact ⟨_, rz_cd147⟩
  | 148, _ => exact ⟨_, rz_cd148⟩
  | 149, _ => exact ⟨_, rz_cd149⟩
  | 150, _ => exact ⟨_, rz_cd150⟩
  | 151, _ => exact ⟨_, rz_cd151⟩
  | 152, _ => exact ⟨_, rz_cd152⟩
  | 153, _ => exact ⟨_, rz_cd153⟩
  | 154, _ => exact ⟨_, rz_cd154⟩
  | 155, _ => exact ⟨_, rz_cd155⟩
  | 156, _ => exact ⟨_, rz_cd156⟩
  | 157, _ => exact ⟨_, rz_cd157⟩
  | 158, _ => exact ⟨_, rz_cd158⟩
  | 159, _ => exact ⟨_, rz_cd159⟩
  | 160, _ => exact ⟨_, rz_cd160⟩
  | 161, _ => exact ⟨_, rz_cd161⟩
  | 162, _ => exact ⟨_, rz_cd162⟩
  | 163, _ => exact ⟨_, rz_cd163⟩
  | 164, _ => exact ⟨_, rz_cd164⟩
  | 165, _ => exact ⟨_, rz_cd165⟩
  | 166, _ => exact ⟨_, rz_cd166⟩
  | 167, _ => exact ⟨_, rz_cd167⟩
  | 168, _ => exact ⟨_, rz_cd168⟩
  | 169, _ => exact ⟨_, rz_cd169⟩
  | 170, _ => exact ⟨_, rz_cd170⟩
  | 171, _ => exact ⟨_, rz_cd171⟩
  | 172, _ => exact ⟨_, rz_cd172⟩
  | 173, _ => exact ⟨_, rz_cd173⟩
  | 174, _ => exact ⟨_, rz_cd174⟩
  | 175, _ => exact ⟨_, rz_cd175⟩
  | 176, _ => exact ⟨_, rz_cd176⟩
  | 177, _ => exact ⟨_, rz_cd177⟩
  | 178, _ => exact ⟨_, rz_cd178⟩
  | 179, _ => exact ⟨_, rz_cd179⟩
  | 180, _ => exact ⟨_, rz_cd180⟩
  | 181, _ => exact ⟨_, rz_cd181⟩
  | 182, _ => exact ⟨_, rz_cd182⟩
  | n + 183, h => omega
theorem rz_okM : ∀ k, k < 183 → (rz_kd k = 1 → lw_tbl[rz_xI k]? = some (Cond.static (rz_Y k))) ∧ (rz_kd k ≠ 1 → lw_tbl[rz_xI k]? = some (Cond.instanceMethod (rz_Y k))) ∧ (rz_kd k = 0 → lw_tbl[rz_xS k]? = some (Cond.selects (rz_Y k).cls (rz_Y k) (rz_Y k))) := by decide +kernel
theorem rz_okY : ∀ k, k < 183 → (rz_Y k).cls = rz_R (rz_K k) ∧ rz_K k < 10 ∧ ((rz_Y k).cls ≠ "java/lang/invoke/MethodHandle" ∧ (rz_Y k).cls ≠ "java/lang/invoke/VarHandle") ∧ (parseMethodDescriptor (rz_Y k).desc).map (fun d => d.parameters.length) = some (rz_np k) ∧ rz_ML k ≤ 11 ∧ rz_np k + (if rz_kd k = 1 then 0 else 1) ≤ rz_ML k ∧ (rz_kd k = 2 → (rz_Y k).name = "<init>" ∧ rz_RT k = none) ∧ plainName (rz_Y k).cls = true := by decide +kernel
theorem rz_okC : ∀ c, c < 10 → lw_tbl[rz_xN c]? = some (Cond.initialized (rz_R c)) ∧ lw_tbl[rz_xW c]? = some (Cond.instantiable (rz_R c) (rz_N c)) ∧ rz_cls[c]? = some (rz_R c, rz_T c, rz_N c) := by
  intro c hc
  refine ⟨?_, ?_, ?_⟩
  · revert c; decide +kernel
  · revert c; decide +kernel
  · match c, hc with
    | 0, _ => rfl
    | 1, _ => rfl
    | 2, _ => rfl
    | 3, _ => rfl
    | 4, _ => rfl
    | 5, _ => rfl
    | 6, _ => rfl
    | 7, _ => rfl
    | 8, _ => rfl
    | 9, _ => rfl
    | n + 10, h => omega
-- links by class number and index: fields ((class, index), (class of the field, its place), place in the tables)
def rz_fl : List ((Nat × Nat) × (Nat × Nat)) := [((3, 9), (3, 0)), ((3, 15), (3, 1)), ((3, 18), (3, 2)), ((3, 21), (3, 3)), ((3, 24), (3, 4)), ((3, 31), (3, 5)), ((3, 35), (3, 6)), ((3, 38), (3, 7)), ((1, 9), (1, 0)), ((1, 15), (1, 1)), ((1, 18), (1, 2)), ((1, 21), (1, 3)), ((1, 28), (1, 4)), ((4, 9), (4, 0)), ((4, 19), (4, 1)), ((6, 12), (6, 0)), ((8, 133), (6, 0)), ((6, 21), (6, 1)), ((8, 185), (6, 1)), ((6, 28), (6, 2)), ((8, 79), (6, 2)), ((6, 42), (6, 3)), ((8, 219), (6, 3)), ((6, 46), (6, 4)), ((8, 221), (6, 4)), ((6, 49), (6, 5)), ((8, 234), (6, 5)), ((0, 11), (0, 0)), ((0, 18), (0, 1)), ((7, 9), (7, 0)), ((7, 15), (7, 1)), ((2, 9), (2, 0)), ((2, 15), (2, 1)), ((2, 19), (2, 2)), ((2, 22), (2, 3)), ((2, 30), (2, 4)), ((5, 12), (5, 0)), ((5, 18), (5, 1)), ((5, 22), (5, 2)), ((5, 26), (5, 3)), ((5, 33), (5, 4)), ((8, 10), (8, 0)), ((8, 16), (8, 1)), ((8, 19), (8, 2)), ((8, 25), (8, 3)), ((8, 32), (8, 4)), ((8, 39), (8, 5)), ((8, 46), (8, 6)), ((8, 129), (8, 7)), ((8, 122), (8, 8)), ((8, 50), (8, 9)), ((9, 7), (9, 0)), ((9, 13), (9, 1)), ((9, 16), (9, 2)), ((9, 19), (9, 3)), ((9, 42), (9, 4)), ((9, 22), (9, 5)), ((9, 53), (9, 6)), ((9, 25), (9, 7)), ((9, 142), (9, 8)), ((9, 35), (9, 9)), ((9, 39), (9, 10)), ((9, 145), (9, 11)), ((9, 29), (9, 12)), ((9, 152), (9, 13)), ((9, 32), (9, 14))]
def rz_flx : List Nat := [72, 73, 74, 75, 76, 77, 78, 79, 104, 105, 106, 107, 108, 126, 127, 133, 134, 135, 136, 137, 138, 139, 140, 141, 142, 143, 144, 167, 168, 180, 181, 194, 195, 196, 197, 198, 218, 219, 220, 221, 222, 234, 235, 236, 237, 238, 239, 240, 241, 242, 243, 747, 748, 749, 750, 751, 752, 753, 754, 755, 756, 757, 758, 759, 760, 761]
theorem rz_okF : (rz_fl.zip rz_flx).all (fun q => decide (lw_tbl[q.2]? = some (Cond.fieldLink (rz_R q.1.1.1) q.1.1.2 (rz_R q.1.2.1) (rz_T q.1.2.1 q.1.2.2).2.1 (rz_T q.1.2.1 q.1.2.2).2.2.1)) && decide (q.1.2.1 < 10) && decide (q.1.2.2 < rz_N q.1.2.1) && decide ((rz_T q.1.2.1 q.1.2.2).1 = rz_R q.1.2.1)) = true := by decide +kernel
-- methods: ((class, index), (kind, number)): 0 virtual, 1 static, 2 constructor, 3 static of a nest mate, 5 arraycopy, 6 min, 7 max, 8 Object()
def rz_ml : List ((Nat × Nat) × (Nat × Nat)) := [((8, 1), (8, 0)), ((8, 9), (2, 74)), ((6, 3), (8, 0)), ((6, 11), (2, 26)), ((3, 3), (8, 0)), ((6, 20), (2, 6)), ((1, 3), (8, 0)), ((6, 27), (2, 56)), ((4, 3), (8, 0)), ((8, 24), (2, 0)), ((0, 3), (8, 0)), ((0, 17), (2, 74)), ((8, 31), (2, 82)), ((7, 3), (8, 0)), ((8, 38), (2, 11)), ((2, 3), (8, 0)), ((8, 45), (2, 63)), ((5, 3), (8, 0)), ((5, 11), (2, 26)), ((8, 54), (0, 75)), ((6, 32), (0, 27)), ((8, 243), (6, 0)), ((8, 248), (5, 0)), ((6, 36), (0, 7)), ((6, 39), (0, 57)), ((8, 58), (0, 76)), ((6, 56), (0, 30)), ((6, 60), (0, 32)), ((6, 64), (0, 41)), ((3, 52), (0, 32)), ((3, 56), (0, 43)), ((8, 62), (0, 112)), ((8, 239), (0, 3)), ((0, 22), (0, 4)), ((0, 25), (0, 2)), ((0, 29), (0, 75)), ((8, 66), (0, 77)), ((6, 68), (0, 45)), ((3, 73), (0, 35)), ((3, 41), (0, 33)), ((6, 71), (0, 49)), ((3, 45), (0, 38)), ((6, 75), (0, 34)), ((6, 79), (0, 35)), ((6, 82), (0, 36)), ((6, 85), (0, 37)), ((6, 88), (0, 8)), ((1, 32), (1, 9)), ((1, 42), (5, 0)), ((1, 36), (6, 0)), ((6, 91), (0, 42)), ((3, 59), (5, 0)), ((8, 70), (0, 78)), ((6, 94), (0, 77)), ((8, 73), (0, 79)), ((6, 97), (0, 40)), ((3, 49), (0, 34)), ((6, 100), (0, 44)), ((3, 65), (0, 42)), ((3, 69), (0, 41)), ((8, 76), (0, 80)), ((8, 83), (0, 61)), ((4, 27), (0, 59)), ((4, 31), (0, 60)), ((8, 89), (0, 62)), ((8, 92), (0, 84)), ((8, 96), (0, 85)), ((8, 99), (0, 17)), ((2, 33), (0, 18)), ((2, 37), (0, 86)), ((2, 43), (0, 19)), ((2, 57), (0, 23)), ((2, 65), (1, 24)), ((2, 61), (0, 25)), ((2, 46), (0, 20)), ((2, 50), (0, 21)), ((2, 53), (0, 22)), ((8, 103), (0, 12)), ((8, 106), (0, 14)), ((2, 26), (0, 13)), ((8, 109), (0, 15)), ((8, 112), (0, 16)), ((8, 115), (0, 81)), ((6, 104), (0, 76)), ((6, 107), (0, 80)), ((6, 110), (0, 79)), ((8, 118), (1, 113)), ((8, 125), (0, 5)), ((8, 137), (0, 29)), ((8, 140), (0, 40)), ((8, 143), (0, 35)), ((8, 146), (0, 36)), ((8, 149), (0, 38)), ((8, 152), (0, 39)), ((8, 155), (0, 37)), ((8, 158), (0, 50)), ((8, 161), (0, 51)), ((8, 164), (0, 52)), ((3, 82), (7, 0)), ((8, 167), (0, 53)), ((8, 170), (0, 45)), ((8, 173), (0, 34)), ((8, 176), (0, 48)), ((3, 79), (0, 50)), ((8, 179), (0, 46)), ((3, 76), (0, 47)), ((8, 182), (0, 54)), ((8, 189), (0, 10)), ((8, 194), (1, 115)), ((8, 197), (0, 59)), ((8, 200), (0, 69)), ((5, 40), (0, 70)), ((5, 54), (0, 28)), ((5, 43), (0, 71)), ((5, 55), (0, 41)), ((5, 47), (0, 29)), ((5, 50), (0, 72)), ((5, 59), (0, 45)), ((5, 62), (0, 49)), ((5, 66), (0, 35)), ((5, 70), (0, 36)), ((5, 73), (0, 42)), ((5, 76), (7, 0)), ((5, 82), (0, 73)), ((5, 86), (0, 59)), ((5, 91), (0, 68)), ((8, 204), (0, 68)), ((8, 207), (0, 64)), ((8, 210), (0, 65)), ((8, 213), (0, 66)), ((5, 29), (0, 31)), ((8, 216), (0, 67)), ((8, 224), (0, 30)), ((8, 227), (0, 31)), ((8, 230), (0, 55)), ((3, 88), (0, 53)), ((8, 233), (0, 58)), ((8, 237), (0, 1)), ((8, 238), (0, 83)), ((9, 1), (8, 0)), ((9, 45), (1, 119)), ((9, 57), (0, 121)), ((9, 49), (0, 120)), ((9, 105), (0, 140)), ((9, 101), (1, 118)), ((9, 109), (1, 134)), ((9, 64), (1, 126)), ((9, 68), (1, 127)), ((9, 72), (1, 132)), ((9, 112), (1, 138)), ((9, 91), (1, 137)), ((9, 76), (1, 129)), ((9, 60), (1, 125)), ((9, 80), (1, 131)), ((9, 84), (1, 128)), ((9, 87), (1, 133)), ((9, 94), (1, 136)), ((9, 97), (1, 135)), ((9, 115), (1, 143)), ((9, 121), (0, 145)), ((9, 118), (1, 139)), ((9, 124), (0, 146)), ((9, 127), (0, 148)), ((9, 131), (1, 150)), ((9, 135), (1, 152)), ((9, 138), (0, 151)), ((9, 170), (0, 162)), ((9, 166), (0, 161)), ((9, 155), (0, 158)), ((9, 148), (0, 157)), ((9, 159), (0, 160)), ((9, 163), (0, 159)), ((9, 173), (0, 163)), ((9, 177), (0, 166)), ((9, 180), (1, 130)), ((9, 183), (0, 169)), ((9, 186), (0, 171)), ((9, 193), (0, 177)), ((9, 189), (0, 176)), ((9, 197), (0, 179)), ((9, 200), (0, 181)), ((3, 27), (3, 116)), ((1, 24), (3, 116)), ((4, 15), (3, 116)), ((6, 52), (3, 114)), ((4, 23), (3, 115)), ((5, 36), (3, 115))]
def rz_mlx : List Nat := [57, 62, 65, 68, 71, 100, 103, 122, 125, 160, 163, 166, 176, 179, 190, 193, 212, 215, 217, 269, 273, 280, 283, 286, 291, 296, 304, 308, 312, 316, 317, 321, 325, 329, 333, 337, 342, 346, 350, 354, 358, 362, 366, 370, 371, 375, 379, 383, 386, 387, 388, 392, 397, 401, 406, 410, 414, 415, 419, 420, 425, 433, 440, 444, 452, 460, 468, 476, 480, 484, 488, 493, 497, 500, 504, 508, 512, 516, 520, 524, 528, 532, 536, 540, 541, 542, 543, 554, 562, 574, 575, 576, 577, 578, 582, 587, 591, 595, 599, 602, 610, 611, 612, 616, 621, 625, 633, 641, 649, 650, 655, 659, 663, 667, 671, 672, 673, 677, 678, 679, 680, 681, 683, 684, 688, 689, 693, 698, 702, 706, 710, 714, 722, 723, 724, 728, 729, 733, 737, 746, 797, 808, 812, 820, 825, 828, 831, 834, 837, 844, 847, 850, 853, 856, 859, 862, 865, 868, 875, 882, 886, 889, 897, 905, 908, 911, 931, 935, 939, 943, 947, 951, 955, 967, 975, 982, 990, 1010, 1014, 1022, 1030, 277, 290, 295, 300, 437, 682]
def rz_mw (q : (Nat × Nat) × (Nat × Nat)) : Cond := match q.2.1 with
  | 3 => Cond.methodLinkNest (rz_R q.1.1) q.1.2 (rz_Y q.2.2) "RisingPiles"
  | 5 => Cond.methodLink (rz_R q.1.1) q.1.2 arraycopyName
  | 6 => Cond.methodLink (rz_R q.1.1) q.1.2 Lib.Math.min.name
  | 7 => Cond.methodLink (rz_R q.1.1) q.1.2 Lib.Math.max.name
  | 8 => Cond.methodLink (rz_R q.1.1) q.1.2 Lib.objectInit
  | _ => Cond.methodLink (rz_R q.1.1) q.1.2 (rz_Y q.2.2)
theorem rz_okL : (rz_ml.zip rz_mlx).all (fun q => decide (lw_tbl[q.2]? = some (rz_mw q.1)) && decide (q.1.2.2 < 183) && (decide (rz_kd q.1.2.2 = q.1.2.1) || decide (4 < q.1.2.1) || (decide (q.1.2.1 = 3) && decide (rz_kd q.1.2.2 = 1))) && decide (q.1.1.1 < 10)) = true := by decide +kernel
-- classes that new and anewarray name
def rz_cl : List ((Nat × Nat) × Nat) := [((8, 7), 6), ((6, 9), 3), ((6, 18), 1), ((6, 25), 4), ((8, 22), 0), ((0, 9), 6), ((8, 29), 7), ((8, 36), 2), ((8, 43), 5), ((5, 9), 3)]
def rz_clx : List Nat := [60, 66, 98, 120, 158, 164, 174, 188, 210, 216]
theorem rz_okK : (rz_cl.zip rz_clx).all (fun q => decide (lw_tbl[q.2]? = some (Cond.classLink (rz_R q.1.1.1) q.1.1.2 (rz_R q.1.2))) && decide (q.1.2 < 10)) = true := by decide +kernel
def rz_kl : List ((Nat × Nat) × Int32) := [((8, 242), 65535), ((2, 56), 65535), ((9, 100), 65535)]
def rz_klx : List Nat := [303, 492, 824]
theorem rz_okI : (rz_kl.zip rz_klx).all (fun q => decide (lw_tbl[q.2]? = some (Cond.constant (rz_R q.1.1.1) q.1.1.2 q.1.2))) = true := by decide +kernel
theorem rz_w1 : Cond.native arraycopyName ∈ lw_tbl := List.mem_of_getElem? (i := 285) (by decide +kernel)
theorem rz_w2 : Cond.static arraycopyName ∈ lw_tbl := List.mem_of_getElem? (i := 284) (by decide +kernel)
theorem rz_w3 : Cond.initialized "java/lang/System" ∈ lw_tbl := List.mem_of_getElem? (i := 51) (by decide +kernel)
theorem rz_w4 : Cond.initialized "java/lang/Math" ∈ lw_tbl := List.mem_of_getElem? (i := 50) (by decide +kernel)
theorem rz_w5 : Cond.static Lib.Math.min.name ∈ lw_tbl ∧ Cond.code Lib.Math.min.name Lib.Math.min.code 2 (some .int) ∈ lw_tbl := ⟨List.mem_of_getElem? (i := 281) (by decide +kernel), List.mem_of_getElem? (i := 282) (by decide +kernel)⟩
theorem rz_w6 : Cond.static Lib.Math.max.name ∈ lw_tbl ∧ Cond.code Lib.Math.max.name Lib.Math.max.code 2 (some .int) ∈ lw_tbl := ⟨List.mem_of_getElem? (i := 600) (by decide +kernel), List.mem_of_getElem? (i := 601) (by decide +kernel)⟩
theorem rz_w7 : Cond.instanceMethod Lib.objectInit ∈ lw_tbl ∧ Cond.code Lib.objectInit ⟨#[0xb1]⟩ 1 none ∈ lw_tbl := ⟨List.mem_of_getElem? (i := 58) (by decide +kernel), List.mem_of_getElem? (i := 59) (by decide +kernel)⟩
theorem rz_w8 : Cond.arrayClass .int ∈ lw_tbl ∧ Cond.arrayClass .char ∈ lw_tbl ∧ Cond.arrayOver (.object "RisingPiles$State") ∈ lw_tbl := ⟨List.mem_of_getElem? (i := 97) (by decide +kernel), List.mem_of_getElem? (i := 187) (by decide +kernel), List.mem_of_getElem? (i := 165) (by decide +kernel)⟩
end
section
/-! A machine of places: the cells of the system's own objects by the order in which they were made (place a stands for the address b0 + a), values with places for addresses.
rz_go n d k pc lv st hp R: method k, at pc, with locals lv and operand stack st over the cells hp, comes within n steps and d frames to its end, and R holds of what it answers and of the cells then. -/
abbrev rz_Cl : Type := (Nat × Nat × (Nat → Int32)) ⊕ ((Nat × (Nat → Option Nat)) ⊕ (Nat × List Value))
abbrev rz_Hp : Type := (Nat → rz_Cl) × Nat × Nat
/-- a field of an object, an array of ints (kind 0) or chars (kind 1), an array of references, an array's length, an object's class -/
def rz_fv (hp : rz_Hp) (a ci j : Nat) : Option Value := if a < hp.2.1 then (match hp.1 a with | .inr (.inr (c, fs)) => if c = ci then fs[j]? else none | _ => none) else none
def rz_av (hp : rz_Hp) (a : Nat) : Option (Nat × Nat × (Nat → Int32)) := if a < hp.2.1 then (match hp.1 a with | .inl x => some x | _ => none) else none
def rz_qv (hp : rz_Hp) (a : Nat) : Option (Nat × (Nat → Option Nat)) := if a < hp.2.1 then (match hp.1 a with | .inr (.inl x) => some x | _ => none) else none
def rz_ln (hp : rz_Hp) (a : Nat) : Option Nat := if a < hp.2.1 then (match hp.1 a with | .inl x => some x.2.1 | .inr (.inl x) => some x.1 | _ => none) else none
def rz_co (hp : rz_Hp) (a : Nat) : Option Nat := if a < hp.2.1 then (match hp.1 a with | .inr (.inr x) => some x.1 | _ => none) else none
def rz_set (hp : rz_Hp) (a : Nat) (c : rz_Cl) : rz_Hp := (fun j => if j = a then c else hp.1 j, hp.2)
def rz_pf (hp : rz_Hp) (a j : Nat) (v : Value) : rz_Hp := rz_set hp a (match hp.1 a with | .inr (.inr (c, fs)) => .inr (.inr (c, fs.set j v)) | x => x)
def rz_pa (hp : rz_Hp) (a : Nat) (f : Nat → Int32) : rz_Hp := rz_set hp a (match hp.1 a with | .inl (t, n, _) => .inl (t, n, f) | x => x)
def rz_pq (hp : rz_Hp) (a : Nat) (f : Nat → Option Nat) : rz_Hp := rz_set hp a (match hp.1 a with | .inr (.inl (n, _)) => .inr (.inl (n, f)) | x => x)
def rz_push (hp : rz_Hp) (c : rz_Cl) (n : Nat) : rz_Hp := (fun j => if j = hp.2.1 then c else hp.1 j, hp.2.1 + 1, hp.2.2 + n)
def rz_one : Value → Bool
  | .int _ => true
  | .ref _ => true
  | .null => true
  | _ => false
def rz_fit : FieldType → Value → Prop
  | .int, .int _ => True
  | .boolean, .int v => v = 0 ∨ v = 1
  | .object _, .ref _ => True
  | .object _, .null => True
  | .array _, .ref _ => True
  | .array _, .null => True
  | _, _ => False
def rz_en (k : Nat) (as : List Value) : List (Option Value) := as.map some ++ List.replicate (rz_ML k - as.length) none
def rz_dv (ci : Nat) : List Value := (List.range (rz_N ci)).map (fun j => defaultValue (rz_ty ci j))
/-- to a place of the code, by an offset -/
def rz_to (pc : Nat) (off : Int) (f : Nat → Prop) : Prop := 0 ≤ (pc : Int) + off ∧ f ((pc : Int) + off).toNat
section RZ1
variable (lv : List (Option Value)) (st : List Value)
def rz_ldi (i : Nat) (f : Value → Prop) : Prop := match lv[i]? with
  | some (some (.int x)) => f (.int x)
  | _ => False
def rz_lda (i : Nat) (f : Value → Prop) : Prop := match lv[i]? with
  | some (some (.ref x)) => f (.ref x)
  | some (some .null) => f .null
  | _ => False
def rz_sti (i : Nat) (f : List (Option Value) → List Value → Prop) : Prop := match st with
  | .int x :: s2 => i < lv.length ∧ f (lv.set i (some (.int x))) s2
  | _ => False
def rz_sta (i : Nat) (f : List (Option Value) → List Value → Prop) : Prop := match st with
  | .ref x :: s2 => i < lv.length ∧ f (lv.set i (some (.ref x))) s2
  | .null :: s2 => i < lv.length ∧ f (lv.set i (some .null)) s2
  | _ => False
def rz_i1 (f : Int32 → List Value → Prop) : Prop := match st with
  | .int x :: s2 => f x s2
  | _ => False
def rz_i2 (f : Int32 → Int32 → List Value → Prop) : Prop := match st with
  | .int y :: .int x :: s2 => f x y s2
  | _ => False
def rz_r1 (f : Nat → List Value → Prop) : Prop := match st with
  | .ref a :: s2 => f a s2
  | _ => False
end RZ1
section RZ2
variable (k : Nat) (nat : Prop) (len pc : Nat) (lv : List (Option Value)) (st : List Value) (hp : rz_Hp) (K : Nat → List (Option Value) → List Value → rz_Hp → Prop) (Ca : Nat → List Value → rz_Hp → (Option Value → rz_Hp → Prop) → Prop) (R : Option Value → rz_Hp → Prop)
def rz_inv (index : Nat) : Prop := match rz_ml.lookup (rz_K k, index) with
  | some (0, k2) => (match st.drop (rz_np k2) with
    | .ref b :: rest => rz_co hp b = some (rz_K k2) ∧ rz_np k2 ≤ st.length ∧ st.all rz_one = true ∧ rest.length ≤ 8 ∧ nat ∧ Ca k2 (.ref b :: (st.take (rz_np k2)).reverse) hp (fun r h => K (pc + 3) lv (r.toList ++ rest) h)
    | _ => False)
  | _ => False
def rz_ins (index : Nat) : Prop := match rz_ml.lookup (rz_K k, index) with
  | some (2, k2) => (match st.drop (rz_np k2) with
    | .ref b :: rest => rz_np k2 ≤ st.length ∧ st.all rz_one = true ∧ rest.length ≤ 8 ∧ nat ∧ Ca k2 (.ref b :: (st.take (rz_np k2)).reverse) hp (fun r h => K (pc + 3) lv (r.toList ++ rest) h)
    | _ => False)
  | some (8, _) => (match st with
    | .ref _ :: rest => rest.all rz_one = true ∧ rest.length ≤ 8 ∧ nat ∧ K (pc + 3) lv rest hp
    | _ => False)
  | _ => False
def rz_cpS (f : Nat → Nat → Nat → Int32 → Int32 → Int32 → List Value → Prop) : Prop := match st with
  | .int n :: .int dp :: .ref a :: .int sp :: .ref a0 :: rest => f a0 a 0 sp dp n rest
  | _ => False
def rz_inS (index : Nat) : Prop := match rz_ml.lookup (rz_K k, index) with
  | some (1, k2) => rz_np k2 ≤ st.length ∧ st.all rz_one = true ∧ (st.drop (rz_np k2)).length ≤ 8 ∧ nat ∧ Ca k2 (st.take (rz_np k2)).reverse hp (fun r h => K (pc + 3) lv (r.toList ++ st.drop (rz_np k2)) h)
  | some (3, k2) => rz_np k2 ≤ st.length ∧ st.all rz_one = true ∧ (st.drop (rz_np k2)).length ≤ 8 ∧ nat ∧ Ca k2 (st.take (rz_np k2)).reverse hp (fun r h => K (pc + 3) lv (r.toList ++ st.drop (rz_np k2)) h)
  | some (5, _) => rz_cpS st (fun a0 a _ sp dp n rest => rest.all rz_one = true ∧ rest.length ≤ 8 ∧ nat ∧ ∃ n0 f n1 g, rz_av hp a0 = some (0, n0, f) ∧ rz_av hp a = some (0, n1, g) ∧ ¬ sp < 0 ∧ ¬ dp < 0 ∧ ¬ n < 0 ∧ sp.toNatClampNeg + n.toNatClampNeg ≤ n0 ∧ dp.toNatClampNeg + n.toNatClampNeg ≤ n1 ∧ K (pc + 3) lv rest (rz_pa hp a (va_cpy f g sp.toNatClampNeg dp.toNatClampNeg n.toNatClampNeg)))
  | some (6, _) => rz_i2 st (fun x y rest => rest.all rz_one = true ∧ rest.length ≤ 8 ∧ nat ∧ K (pc + 3) lv (.int (if y < x then y else x) :: rest) hp)
  | some (7, _) => rz_i2 st (fun x y rest => rest.all rz_one = true ∧ rest.length ≤ 8 ∧ nat ∧ K (pc + 3) lv (.int (if x < y then y else x) :: rest) hp)
  | _ => False
def rz_getf (index : Nat) : Prop := rz_r1 st (fun a s2 => match rz_fl.lookup (rz_K k, index) with
  | some (ci, j) => ∃ v, rz_fv hp a ci j = some v ∧ K (pc + 3) lv (v :: s2) hp
  | none => False)
def rz_putf (index : Nat) : Prop := match st with
  | v :: .ref a :: s2 => (match rz_fl.lookup (rz_K k, index) with
    | some (ci, j) => (∃ w, rz_fv hp a ci j = some w) ∧ rz_fit (rz_ty ci j) v ∧ ((rz_T ci j).2.2.2 = true → (rz_Y k).name = "<init>" ∧ ci = rz_K k) ∧ K (pc + 3) lv s2 (rz_pf hp a j v)
    | none => False)
  | _ => False
def rz_ald (t : Nat) : Prop := match st with
  | .int i :: .ref a :: s2 => ∃ n f, rz_av hp a = some (t, n, f) ∧ vp_in i n ∧ K (pc + 1) lv (.int (f i.toNatClampNeg) :: s2) hp
  | _ => False
def rz_ast (t : Nat) (nar : Int32 → Int32) : Prop := match st with
  | .int x :: .int i :: .ref a :: s2 => ∃ n f, rz_av hp a = some (t, n, f) ∧ vp_in i n ∧ K (pc + 1) lv s2 (rz_pa hp a (upd f i.toNatClampNeg (nar x)))
  | _ => False
def rz_aald : Prop := match st with
  | .int i :: .ref a :: s2 => ∃ n f, rz_qv hp a = some (n, f) ∧ vp_in i n ∧ K (pc + 1) lv (va_rf (f i.toNatClampNeg) :: s2) hp
  | _ => False
def rz_aast : Prop := match st with
  | .ref v :: .int i :: .ref a :: s2 => ∃ n f, rz_qv hp a = some (n, f) ∧ vp_in i n ∧ rz_co hp v = some 6 ∧ K (pc + 1) lv s2 (rz_pq hp a (va_up f i.toNatClampNeg (some v)))
  | _ => False
def rz_newa (f : Int32 → List Value → Prop) : Prop := rz_i1 st (fun n s2 => ¬ n < 0 ∧ n.toNatClampNeg ≤ 4096 ∧ f n s2)
def rz_iret : Prop := match st with
  | [.int v] => (match rz_RT k with
    | some .int => R (some (.int v)) hp
    | some .boolean => (v = 0 ∨ v = 1) ∧ R (some (.int v)) hp
    | _ => False)
  | _ => False
def rz_arT : Prop := match rz_RT k with
  | some (.object _) => True
  | _ => False
def rz_aret : Prop := match st with
  | [.ref a] => rz_arT k ∧ R (some (.ref a)) hp
  | [.null] => rz_arT k ∧ R (some .null) hp
  | _ => False
/-- one step -/
def rz_stp (i : Instr) : Prop := match i with
  | .aload_n j => len = 1 ∧ rz_lda lv j.val (fun v => K (pc + 1) lv (v :: st) hp)
  | .iload_n j => len = 1 ∧ rz_ldi lv j.val (fun v => K (pc + 1) lv (v :: st) hp)
  | .iload j => len = 2 ∧ rz_ldi lv j (fun v => K (pc + 2) lv (v :: st) hp)
  | .astore_n j => len = 1 ∧ rz_sta lv st j.val (fun lv' s2 => K (pc + 1) lv' s2 hp)
  | .istore_n j => len = 1 ∧ rz_sti lv st j.val (fun lv' s2 => K (pc + 1) lv' s2 hp)
  | .istore j => len = 2 ∧ rz_sti lv st j (fun lv' s2 => K (pc + 2) lv' s2 hp)
  | .iinc j c => len = 3 ∧ (match lv[j]? with
    | some (some (.int x)) => K (pc + 3) (lv.set j (some (.int (x + Int32.ofInt c)))) st hp
    | _ => False)
  | .iconst n => len = 1 ∧ K (pc + 1) lv (.int (Int32.ofInt n) :: st) hp
  | .bipush n => len = 2 ∧ K (pc + 2) lv (.int (Int8.ofInt n).toInt32 :: st) hp
  | .sipush n => len = 3 ∧ K (pc + 3) lv (.int (Int16.ofInt n).toInt32 :: st) hp
  | .ldc index => len = 2 ∧ (match rz_kl.lookup (rz_K k, index) with
    | some v => K (pc + 2) lv (.int v :: st) hp
    | none => False)
  | .aconst_null => len = 1 ∧ K (pc + 1) lv (.null :: st) hp
  | .iadd => len = 1 ∧ rz_i2 st (fun x y s2 => K (pc + 1) lv (.int (x + y) :: s2) hp)
  | .isub => len = 1 ∧ rz_i2 st (fun x y s2 => K (pc + 1) lv (.int (x - y) :: s2) hp)
  | .imul => len = 1 ∧ rz_i2 st (fun x y s2 => K (pc + 1) lv (.int (x * y) :: s2) hp)
  | .iand => len = 1 ∧ rz_i2 st (fun x y s2 => K (pc + 1) lv (.int (x &&& y) :: s2) hp)
  | .ixor => len = 1 ∧ rz_i2 st (fun x y s2 => K (pc + 1) lv (.int (x ^^^ y) :: s2) hp)
  | .ishr => len = 1 ∧ rz_i2 st (fun x y s2 => K (pc + 1) lv (.int (x >>> (y &&& 31)) :: s2) hp)
  | .idiv => len = 1 ∧ rz_i2 st (fun x y s2 => ¬ y = 0 ∧ K (pc + 1) lv (.int (x / y) :: s2) hp)
  | .i2c => len = 1 ∧ rz_i1 st (fun x s2 => K (pc + 1) lv (.int (x.toUInt32 % 65536).toInt32 :: s2) hp)
  | .dup => len = 1 ∧ (match st with
    | v :: s2 => rz_one v = true ∧ K (pc + 1) lv (v :: v :: s2) hp
    | _ => False)
  | .dup2 => len = 1 ∧ (match st with
    | v :: w :: s2 => rz_one v = true ∧ rz_one w = true ∧ K (pc + 1) lv (v :: w :: v :: w :: s2) hp
    | _ => False)
  | .pop => len = 1 ∧ (match st with
    | v :: s2 => rz_one v = true ∧ K (pc + 1) lv s2 hp
    | _ => False)
  | .getfield index => len = 3 ∧ rz_getf k pc lv st hp K index
  | .putfield index => len = 3 ∧ rz_putf k pc lv st hp K index
  | .iaload => len = 1 ∧ rz_ald pc lv st hp K 0
  | .caload => len = 1 ∧ rz_ald pc lv st hp K 1
  | .iastore => len = 1 ∧ rz_ast pc lv st hp K 0 (fun x => x)
  | .castore => len = 1 ∧ rz_ast pc lv st hp K 1 (vp_nar .char)
  | .aaload => len = 1 ∧ rz_aald pc lv st hp K
  | .aastore => len = 1 ∧ rz_aast pc lv st hp K
  | .arraylength => len = 1 ∧ rz_r1 st (fun a s2 => ∃ n, rz_ln hp a = some n ∧ K (pc + 1) lv (.int (Int32.ofNat n) :: s2) hp)
  | .new index => len = 3 ∧ (match rz_cl.lookup (rz_K k, index) with
    | some ci => K (pc + 3) lv (.ref hp.2.1 :: st) (rz_push hp (.inr (.inr (ci, rz_dv ci))) (rz_N ci))
    | none => False)
  | .newarray t => len = 2 ∧ (match t with
    | .int => rz_newa st (fun n s2 => K (pc + 2) lv (.ref hp.2.1 :: s2) (rz_push hp (.inl (0, n.toNatClampNeg, fun _ => 0)) n.toNatClampNeg))
    | .char => rz_newa st (fun n s2 => K (pc + 2) lv (.ref hp.2.1 :: s2) (rz_push hp (.inl (1, n.toNatClampNeg, fun _ => 0)) n.toNatClampNeg))
    | _ => False)
  | .anewarray index => len = 3 ∧ rz_cl.lookup (rz_K k, index) = some 6 ∧ rz_newa st (fun n s2 => K (pc + 3) lv (.ref hp.2.1 :: s2) (rz_push hp (.inr (.inl (n.toNatClampNeg, fun _ => none))) n.toNatClampNeg))
  | .goto off => len = 3 ∧ rz_to pc off (fun t => K t lv st hp)
  | .if_icmp c off => len = 3 ∧ rz_to pc off (fun t => rz_i2 st (fun x y s2 => match c with
    | .eq => if x = y then K t lv s2 hp else K (pc + 3) lv s2 hp
    | .ne => if x = y then K (pc + 3) lv s2 hp else K t lv s2 hp
    | .lt => if x < y then K t lv s2 hp else K (pc + 3) lv s2 hp
    | .ge => if y ≤ x then K t lv s2 hp else K (pc + 3) lv s2 hp
    | .gt => if y < x then K t lv s2 hp else K (pc + 3) lv s2 hp
    | .le => if x ≤ y then K t lv s2 hp else K (pc + 3) lv s2 hp))
  | .ifCond c off => len = 3 ∧ rz_to pc off (fun t => rz_i1 st (fun x s2 => match c with
    | .eq => if x = 0 then K t lv s2 hp else K (pc + 3) lv s2 hp
    | .ne => if x = 0 then K (pc + 3) lv s2 hp else K t lv s2 hp
    | .lt => if x < 0 then K t lv s2 hp else K (pc + 3) lv s2 hp
    | .ge => if 0 ≤ x then K t lv s2 hp else K (pc + 3) lv s2 hp
    | .gt => if 0 < x then K t lv s2 hp else K (pc + 3) lv s2 hp
    | .le => if x ≤ 0 then K t lv s2 hp else K (pc + 3) lv s2 hp))
  | .ifnull off => len = 3 ∧ (match st with
    | .null :: s2 => rz_to pc off (fun t => K t lv s2 hp)
    | .ref _ :: s2 => K (pc + 3) lv s2 hp
    | _ => False)
  | .ifnonnull off => len = 3 ∧ (match st with
    | .ref _ :: s2 => rz_to pc off (fun t => K t lv s2 hp)
    | .null :: s2 => K (pc + 3) lv s2 hp
    | _ => False)
  | .tableswitch dflt lo hi offs => rz_i1 st (fun x s2 => if x.toInt < lo ∨ hi < x.toInt then rz_to pc dflt (fun t => K t lv s2 hp) else match offs[(x.toInt - lo).toNat]? with
    | some off => rz_to pc off (fun t => K t lv s2 hp)
    | none => False)
  | .lookupswitch dflt ps => (ps.toList.zip (ps.toList.drop 1)).all (fun (a, next) => a.1 < next.1) = true ∧ rz_i1 st (fun x s2 => rz_to pc (Op.lookupswitch.offset ps.toList dflt x.toInt) (fun t => K t lv s2 hp))
  | .invokevirtual index => len = 3 ∧ rz_inv k nat pc lv st hp K Ca index
  | .invokespecial index => len = 3 ∧ rz_ins k nat pc lv st hp K Ca index
  | .invokestatic index => len = 3 ∧ rz_inS k nat pc lv st hp K Ca index
  | .ireturn => len = 1 ∧ rz_iret k st hp R
  | .areturn => len = 1 ∧ rz_aret k st hp R
  | .return_ => len = 1 ∧ st = [] ∧ rz_RT k = none ∧ R none hp
  | _ => False
end RZ2
def rz_go : Nat → Nat → Nat → Nat → List (Option Value) → List Value → rz_Hp → (Option Value → rz_Hp → Prop) → Prop
  | 0, _, _, _, _, _, _, _ => False
  | n + 1, d, k, pc, lv, st, hp, R => match decode (rz_B k) pc with
    | .ok (i, len) => rz_stp k (0 < d) len pc lv st hp (fun pc' lv' st' hp' => rz_go n d k pc' lv' st' hp' R) (fun k2 as h post => 0 < d ∧ k2 < 183 ∧ rz_go n (d - 1) k2 0 (rz_en k2 as) [] h post) R i
    | .error _ => False
def rz_ev (d k pc : Nat) (lv : List (Option Value)) (st : List Value) (hp : rz_Hp) (R : Option Value → rz_Hp → Prop) : Prop := ∃ n, rz_go n d k pc lv st hp R
theorem rz_ldi_w {lv : List (Option Value)} {i : Nat} {f : Value → Prop} (h : rz_ldi lv i f) : ∃ x : Int32, lv[i]? = some (some (.int x)) ∧ f (.int x) ∧ ∀ g : Value → Prop, g (.int x) → rz_ldi lv i g := by
  unfold rz_ldi at h
  split at h
  · next x e => exact ⟨x, e, h, fun g hg => by unfold rz_ldi; rw [e]; exact hg⟩
  · exact h.elim
theorem rz_lda_w {lv : List (Option Value)} {i : Nat} {f : Value → Prop} (h : rz_lda lv i f) : ∃ v : Value, (v = .null ∨ ∃ a, v = .ref a) ∧ lv[i]? = some (some v) ∧ f v ∧ ∀ g : Value → Prop, g v → rz_lda lv i g := by
  unfold rz_lda at h
  split at h
  · next x e => exact ⟨_, Or.inr ⟨x, rfl⟩, e, h, fun g hg => by unfold rz_lda; rw [e]; exact hg⟩
  · next e => exact ⟨_, Or.inl rfl, e, h, fun g hg => by unfold rz_lda; rw [e]; exact hg⟩
  · exact h.elim
theorem rz_sti_w {lv : List (Option Value)} {st : List Value} {i : Nat} {f : List (Option Value) → List Value → Prop} (h : rz_sti lv st i f) : ∃ (x : Int32) (s2 : List Value), st = .int x :: s2 ∧ i < lv.length ∧ f (lv.set i (some (.int x))) s2 ∧ ∀ g : List (Option Value) → List Value → Prop, g (lv.set i (some (.int x))) s2 → rz_sti lv st i g := by
  unfold rz_sti at h
  split at h
  · next x s2 => exact ⟨x, s2, rfl, h.1, h.2, fun g hg => ⟨h.1, hg⟩⟩
  · exact h.elim
theorem rz_sta_w {lv : List (Option Value)} {st : List Value} {i : Nat} {f : List (Option Value) → List Value → Prop} (h : rz_sta lv st i f) : ∃ (v : Value) (s2 : List Value), (v = .null ∨ ∃ a, v = .ref a) ∧ st = v :: s2 ∧ i < lv.length ∧ f (lv.set i (some v)) s2 ∧ ∀ g : List (Option Value) → List Value → Prop, g (lv.set i (some v)) s2 → rz_sta lv st i g := by
  unfold rz_sta at h
  split at h
  · next x s2 => exact ⟨_, s2, Or.inr ⟨x, rfl⟩, rfl, h.1, h.2, fun g hg => ⟨h.1, hg⟩⟩
  · next s2 => exact ⟨_, s2, Or.inl rfl, rfl, h.1, h.2, fun g hg => ⟨h.1, hg⟩⟩
  · exact h.elim
theorem rz_i1_w {st : List Value} {f : Int32 → List Value → Prop} (h : rz_i1 st f) : ∃ (x : Int32) (s2 : List Value), st = .int x :: s2 ∧ f x s2 ∧ ∀ g : Int32 → List Value → Prop, g x s2 → rz_i1 st g := by
  unfold rz_i1 at h
  split at h
  · next x s2 => exact ⟨x, s2, rfl, h, fun g hg => hg⟩
  · exact h.elim
theorem rz_i2_w {st : List Value} {f : Int32 → Int32 → List Value → Prop} (h : rz_i2 st f) : ∃ (x y : Int32) (s2 : List Value), st = .int y :: .int x :: s2 ∧ f x y s2 ∧ ∀ g : Int32 → Int32 → List Value → Prop, g x y s2 → rz_i2 st g := by
  unfold rz_i2 at h
  split at h
  · next y x s2 => exact ⟨x, y, s2, rfl, h, fun g hg => hg⟩
  · exact h.elim
theorem rz_r1_w {st : List Value} {f : Nat → List Value → Prop} (h : rz_r1 st f) : ∃ (a : Nat) (s2 : List Value), st = .ref a :: s2 ∧ f a s2 ∧ ∀ g : Nat → List Value → Prop, g a s2 → rz_r1 st g := by
  unfold rz_r1 at h
  split at h
  · next a s2 => exact ⟨a, s2, rfl, h, fun g hg => hg⟩
  · exact h.elim
theorem rz_to_w {pc : Nat} {off : Int} {f : Nat → Prop} (h : rz_to pc off f) : ∃ t : Nat, (pc : Int) + off = (t : Int) ∧ f t ∧ ∀ g : Nat → Prop, g t → rz_to pc off g :=
  ⟨((pc : Int) + off).toNat, (Int.toNat_of_nonneg h.1).symm, h.2, fun _ hg => ⟨h.1, hg⟩⟩
/-- a step goes on in one way alone: to a state, by a call, or to an end -/
theorem rz_way {k : Nat} {nat : Prop} {len pc : Nat} {lv : List (Option Value)} {st : List Value} {hp : rz_Hp} {K : Nat → List (Option Value) → List Value → rz_Hp → Prop} {Ca : Nat → List Value → rz_Hp → (Option Value → rz_Hp → Prop) → Prop} {R : Option Value → rz_Hp → Prop} {i : Instr} (h : rz_stp k nat len pc lv st hp K Ca R i) :
    (∃ pc' lv' st' hp', K pc' lv' st' hp' ∧ hp.2.1 ≤ hp'.2.1 ∧ hp.2.2 ≤ hp'.2.2 ∧ ∀ (nat' : Prop) (K' : Nat → List (Option Value) → List Value → rz_Hp → Prop) (Ca' : Nat → List Value → rz_Hp → (Option Value → rz_Hp → Prop) → Prop) (R' : Option Value → rz_Hp → Prop), (nat → nat') → K' pc' lv' st' hp' → rz_stp k nat' len pc lv st hp K' Ca' R' i) ∨
    (∃ k2 as pc' rest, Ca k2 as hp (fun r h => K pc' lv (r.toList ++ rest) h) ∧ ∀ (nat' : Prop) (K' : Nat → List (Option Value) → List Value → rz_Hp → Prop) (Ca' : Nat → List Value → rz_Hp → (Option Value → rz_Hp → Prop) → Prop) (R' : Option Value → rz_Hp → Prop), (nat → nat') → Ca' k2 as hp (fun r h => K' pc' lv (r.toList ++ rest) h) → rz_stp k nat' len pc lv st hp K' Ca' R' i) ∨
    (∃ r, R r hp ∧ ∀ (nat' : Prop) (K' : Nat → List (Option Value) → List Value → rz_Hp → Prop) (Ca' : Nat → List Value → rz_Hp → (Option Value → rz_Hp → Prop) → Prop) (R' : Option Value → rz_Hp → Prop), (nat → nat') → R' r hp → rz_stp k nat' len pc lv st hp K' Ca' R' i) := by
  cases i with
  | aload_n j =>
    obtain ⟨hl, h⟩ := h
    obtain ⟨v, -, -, h, g⟩ := rz_lda_w h
    exact Or.inl ⟨_, _, _, _, h, Nat.le_refl _, Nat.le_refl _, fun nat' K' Ca' R' hn h' => ⟨hl, g _ h'⟩⟩
  | iload_n j =>
    obtain ⟨hl, h⟩ := h
    obtain ⟨v, -, h, g⟩ := rz_ldi_w h
    exact Or.inl ⟨_, _, _, _, h, Nat.le_refl _, Nat.le_refl _, fun nat' K' Ca' R' hn h' => ⟨hl, g _ h'⟩⟩
  | iload j =>
    obtain ⟨hl, h⟩ := h
    obtain ⟨v, -, h, g⟩ := rz_ldi_w h
    exact Or.inl ⟨_, _, _, _, h, Nat.le_refl _, Nat.le_refl _, fun nat' K' Ca' R' hn h' => ⟨hl, g _ h'⟩⟩
  | astore_n j =>
    obtain ⟨hl, h⟩ := h
    obtain ⟨v, s2, -, -, -, h, g⟩ := rz_sta_w h
    exact Or.inl ⟨_, _, _, _, h, Nat.le_refl _, Nat.le_refl _, fun nat' K' Ca' R' hn h' => ⟨hl, g _ h'⟩⟩
  | istore_n j =>
    obtain ⟨hl, h⟩ := h
    obtain ⟨v, s2, -, -, h, g⟩ := rz_sti_w h
    exact Or.inl ⟨_, _, _, _, h, Nat.le_refl _, Nat.le_refl _, fun nat' K' Ca' R' hn h' => ⟨hl, g _ h'⟩⟩
  | istore j =>
    obtain ⟨hl, h⟩ := h
    obtain ⟨v, s2, -, -, h, g⟩ := rz_sti_w h
    exact Or.inl ⟨_, _, _, _, h, Nat.le_refl _, Nat.le_refl _, fun nat' K' Ca' R' hn h' => ⟨hl, g _ h'⟩⟩
  | iinc j c =>
    obtain ⟨hl, h⟩ := h
    split at h
    · next x e => exact Or.inl ⟨_, _, _, _, h, Nat.le_refl _, Nat.le_refl _, fun nat' K' Ca' R' hn h' => ⟨hl, by rw [e]; exact h'⟩⟩
    · exact h.elim
  | iconst n =>
    obtain ⟨hl, h⟩ := h
    exact Or.inl ⟨_, _, _, _, h, Nat.le_refl _, Nat.le_refl _, fun nat' K' Ca' R' hn h' => ⟨hl, h'⟩⟩
  | bipush n =>
    obtain ⟨hl, h⟩ := h
    exact Or.inl ⟨_, _, _, _, h, Nat.le_refl _, Nat.le_refl _, fun nat' K' Ca' R' hn h' => ⟨hl, h'⟩⟩
  | sipush n =>
    obtain ⟨hl, h⟩ := h
    exact Or.inl ⟨_, _, _, _, h, Nat.le_refl _, Nat.le_refl _, fun nat' K' Ca' R' hn h' => ⟨hl, h'⟩⟩
  | aconst_null =>
    obtain ⟨hl, h⟩ := h
    exact Or.inl ⟨_, _, _, _, h, Nat.le_refl _, Nat.le_refl _, fun nat' K' Ca' R' hn h' => ⟨hl, h'⟩⟩
  | ldc index =>
    obtain ⟨hl, h⟩ := h
    split at h
    · next x e => exact Or.inl ⟨_, _, _, _, h, Nat.le_refl _, Nat.le_refl _, fun nat' K' Ca' R' hn h' => ⟨hl, by rw [e]; exact h'⟩⟩
    · exact h.elim
  | iadd =>
    obtain ⟨hl, h⟩ := h
    obtain ⟨x, y, s2, -, h, g⟩ := rz_i2_w h
    exact Or.inl ⟨_, _, _, _, h, Nat.le_refl _, Nat.le_refl _, fun nat' K' Ca' R' hn h' => ⟨hl, g _ h'⟩⟩
  | isub =>
    obtain ⟨hl, h⟩ := h
    obtain ⟨x, y, s2, -, h, g⟩ := rz_i2_w h
    exact Or.inl ⟨_, _, _, _, h, Nat.le_refl _, Nat.le_refl _, fun nat' K' Ca' R' hn h' => ⟨hl, g _ h'⟩⟩
  | imul =>
    obtain ⟨hl, h⟩ := h
    obtain ⟨x, y, s2, -, h, g⟩ := rz_i2_w h
    exact Or.inl ⟨_, _, _, _, h, Nat.le_refl _, Nat.le_refl _, fun nat' K' Ca' R' hn h' => ⟨hl, g _ h'⟩⟩
  | iand =>
    obtain ⟨hl, h⟩ := h
    obtain ⟨x, y, s2, -, h, g⟩ := rz_i2_w h
    exact Or.inl ⟨_, _, _, _, h, Nat.le_refl _, Nat.le_refl _, fun nat' K' Ca' R' hn h' => ⟨hl, g _ h'⟩⟩
  | ixor =>
    obtain ⟨hl, h⟩ := h
    obtain ⟨x, y, s2, -, h, g⟩ := rz_i2_w h
    exact Or.inl ⟨_, _, _, _, h, Nat.le_refl _, Nat.le_refl _, fun nat' K' Ca' R' hn h' => ⟨hl, g _ h'⟩⟩
  | ishr =>
    obtain ⟨hl, h⟩ := h
    obtain ⟨x, y, s2, -, h, g⟩ := rz_i2_w h
    exact Or.inl ⟨_, _, _, _, h, Nat.le_refl _, Nat.le_refl _, fun nat' K' Ca' R' hn h' => ⟨hl, g _ h'⟩⟩
  | idiv =>
    obtain ⟨hl, h⟩ := h
    obtain ⟨x, y, s2, -, ⟨h0, h⟩, g⟩ := rz_i2_w h
    exact Or.inl ⟨_, _, _, _, h, Nat.le_refl _, Nat.le_refl _, fun nat' K' Ca' R' hn h' => ⟨hl, g _ ⟨h0, h'⟩⟩⟩
  | i2c =>
    obtain ⟨hl, h⟩ := h
    obtain ⟨x, s2, -, h, g⟩ := rz_i1_w h
    exact Or.inl ⟨_, _, _, _, h, Nat.le_refl _, Nat.le_refl _, fun nat' K' Ca' R' hn h' => ⟨hl, g _ h'⟩⟩
  | dup =>
    obtain ⟨hl, h⟩ := h
    split at h
    · exact Or.inl ⟨_, _, _, _, h.2, Nat.le_refl _, Nat.le_refl _, fun nat' K' Ca' R' hn h' => ⟨hl, ⟨h.1, h'⟩⟩⟩
    · exact h.elim
  | dup2 =>
    obtain ⟨hl, h⟩ := h
    split at h
    · exact Or.inl ⟨_, _, _, _, h.2.2, Nat.le_refl _, Nat.le_refl _, fun nat' K' Ca' R' hn h' => ⟨hl, ⟨h.1, h.2.1, h'⟩⟩⟩
    · exact h.elim
  | pop =>
    obtain ⟨hl, h⟩ := h
    split at h
    · exact Or.inl ⟨_, _, _, _, h.2, Nat.le_refl _, Nat.le_refl _, fun nat' K' Ca' R' hn h' => ⟨hl, ⟨h.1, h'⟩⟩⟩
    · exact h.elim
  | getfield index =>
    obtain ⟨hl, h⟩ := h
    unfold rz_getf at h
    obtain ⟨a, s2, -, h, g⟩ := rz_r1_w h
    split at h
    · next ci j e =>
      obtain ⟨v, hv, h⟩ := h
      exact Or.inl ⟨_, _, _, _, h, Nat.le_refl _, Nat.le_refl _, fun nat' K' Ca' R' hn h' => ⟨hl, g _ (by rw [e]; exact ⟨v, hv, h'⟩)⟩⟩
    · exact h.elim
  | putfield index =>
    obtain ⟨hl, h⟩ := h
    unfold rz_putf at h
    split at h
    · split at h
      · next ci j e =>
        obtain ⟨hv, hf, hn, h⟩ := h
        exact Or.inl ⟨_, _, _, _, h, Nat.le_refl _, Nat.le_refl _, fun nat' K' Ca' R' _ h' => ⟨hl, by unfold rz_putf; rw [e]; exact ⟨hv, hf, hn, h'⟩⟩⟩
      · exact h.elim
    · exact h.elim
  | iaload =>
    obtain ⟨hl, h⟩ := h
    unfold rz_ald at h
    split at h
    · obtain ⟨n, f, hv, hi, h⟩ := h
      exact Or.inl ⟨_, _, _, _, h, Nat.le_refl _, Nat.le_refl _, fun nat' K' Ca' R' hn h' => ⟨hl, n, f, hv, hi, h'⟩⟩
    · exact h.elim
  | caload =>
    obtain ⟨hl, h⟩ := h
    unfold rz_ald at h
    split at h
    · obtain ⟨n, f, hv, hi, h⟩ := h
      exact Or.inl ⟨_, _, _, _, h, Nat.le_refl _, Nat.le_refl _, fun nat' K' Ca' R' hn h' => ⟨hl, n, f, hv, hi, h'⟩⟩
    · exact h.elim
  | iastore =>
    obtain ⟨hl, h⟩ := h
    unfold rz_ast at h
    split at h
    · obtain ⟨n, f, hv, hi, h⟩ := h
      exact Or.inl ⟨_, _, _, _, h, Nat.le_refl _, Nat.le_refl _, fun nat' K' Ca' R' hn h' => ⟨hl, n, f, hv, hi, h'⟩⟩
    · exact h.elim
  | castore =>
    obtain ⟨hl, h⟩ := h
    unfold rz_ast at h
    split at h
    · obtain ⟨n, f, hv, hi, h⟩ := h
      exact Or.inl ⟨_, _, _, _, h, Nat.le_refl _, Nat.le_refl _, fun nat' K' Ca' R' hn h' => ⟨hl, n, f, hv, hi, h'⟩⟩
    · exact h.elim
  | aaload =>
    obtain ⟨hl, h⟩ := h
    unfold rz_aald at h
    split at h
    · obtain ⟨n, f, hv, hi, h⟩ := h
      exact Or.inl ⟨_, _, _, _, h, Nat.le_refl _, Nat.le_refl _, fun nat' K' Ca' R' hn h' => ⟨hl, n, f, hv, hi, h'⟩⟩
    · exact h.elim
  | aastore =>
    obtain ⟨hl, h⟩ := h
    unfold rz_aast at h
    split at h
    · obtain ⟨n, f, hv, hi, hc, h⟩ := h
      exact Or.inl ⟨_, _, _, _, h, Nat.le_refl _, Nat.le_refl _, fun nat' K' Ca' R' hn h' => ⟨hl, n, f, hv, hi, hc, h'⟩⟩
    · exact h.elim
  | arraylength =>
    obtain ⟨hl, h⟩ := h
    obtain ⟨a, s2, -, ⟨n, hn, h⟩, g⟩ := rz_r1_w h
    exact Or.inl ⟨_, _, _, _, h, Nat.le_refl _, Nat.le_refl _, fun nat' K' Ca' R' _ h' => ⟨hl, g _ ⟨n, hn, h'⟩⟩⟩
  | new index =>
    obtain ⟨hl, h⟩ := h
    split at h
    · next ci e => exact Or.inl ⟨_, _, _, _, h, Nat.le_succ _, Nat.le_add_right _ _, fun nat' K' Ca' R' hn h' => ⟨hl, by rw [e]; exact h'⟩⟩
    · exact h.elim
  | newarray t =>
    obtain ⟨hl, h⟩ := h
    split at h
    · obtain ⟨x, s2, -, ⟨h0, h1, h⟩, g⟩ := rz_i1_w h
      exact Or.inl ⟨_, _, _, _, h, Nat.le_succ _, Nat.le_add_right _ _, fun nat' K' Ca' R' hn h' => ⟨hl, g _ ⟨h0, h1, h'⟩⟩⟩
    · obtain ⟨x, s2, -, ⟨h0, h1, h⟩, g⟩ := rz_i1_w h
      exact Or.inl ⟨_, _, _, _, h, Nat.le_succ _, Nat.le_add_right _ _, fun nat' K' Ca' R' hn h' => ⟨hl, g _ ⟨h0, h1, h'⟩⟩⟩
    · exact h.elim
  | anewarray index =>
    obtain ⟨hl, hc, h⟩ := h
    obtain ⟨x, s2, -, ⟨h0, h1, h⟩, g⟩ := rz_i1_w h
    exact Or.inl ⟨_, _, _, _, h, Nat.le_succ _, Nat.le_add_right _ _, fun nat' K' Ca' R' hn h' => ⟨hl, hc, g _ ⟨h0, h1, h'⟩⟩⟩
  | goto off =>
    obtain ⟨hl, h⟩ := h
    obtain ⟨t, -, h, g⟩ := rz_to_w h
    exact Or.inl ⟨_, _, _, _, h, Nat.le_refl _, Nat.le_refl _, fun nat' K' Ca' R' hn h' => ⟨hl, g _ h'⟩⟩
  | if_icmp c off =>
    obtain ⟨hl, h⟩ := h
    obtain ⟨t, -, h, g2⟩ := rz_to_w h
    obtain ⟨x, y, s2, -, h, g⟩ := rz_i2_w h
    cases c <;> (
      dsimp only at h
      split at h
      · next hc => exact Or.inl ⟨_, _, _, _, h, Nat.le_refl _, Nat.le_refl _, fun nat' K' Ca' R' hn h' => ⟨hl, g2 _ (g _ (by dsimp only; rw [if_pos hc]; exact h'))⟩⟩
      · next hc => exact Or.inl ⟨_, _, _, _, h, Nat.le_refl _, Nat.le_refl _, fun nat' K' Ca' R' hn h' => ⟨hl, g2 _ (g _ (by dsimp only; rw [if_neg hc]; exact h'))⟩⟩)
  | ifCond c off =>
    obtain ⟨hl, h⟩ := h
    obtain ⟨t, -, h, g2⟩ := rz_to_w h
    obtain ⟨x, s2, -, h, g⟩ := rz_i1_w h
    cases c <;> (
      dsimp only at h
      split at h
      · next hc => exact Or.inl ⟨_, _, _, _, h, Nat.le_refl _, Nat.le_refl _, fun nat' K' Ca' R' hn h' => ⟨hl, g2 _ (g _ (by dsimp only; rw [if_pos hc]; exact h'))⟩⟩
      · next hc => exact Or.inl ⟨_, _, _, _, h, Nat.le_refl _, Nat.le_refl _, fun nat' K' Ca' R' hn h' => ⟨hl, g2 _ (g _ (by dsimp only; rw [if_neg hc]; exact h'))⟩⟩)
  | ifnull off =>
    obtain ⟨hl, h⟩ := h
    split at h
    · obtain ⟨t, -, h, g2⟩ := rz_to_w h
      exact Or.inl ⟨_, _, _, _, h, Nat.le_refl _, Nat.le_refl _, fun nat' K' Ca' R' hn h' => ⟨hl, g2 _ h'⟩⟩
    · exact Or.inl ⟨_, _, _, _, h, Nat.le_refl _, Nat.le_refl _, fun nat' K' Ca' R' hn h' => ⟨hl, h'⟩⟩
    · exact h.elim
  | ifnonnull off =>
    obtain ⟨hl, h⟩ := h
    split at h
    · obtain ⟨t, -, h, g2⟩ := rz_to_w h
      exact Or.inl ⟨_, _, _, _, h, Nat.le_refl _, Nat.le_refl _, fun nat' K' Ca' R' hn h' => ⟨hl, g2 _ h'⟩⟩
    · exact Or.inl ⟨_, _, _, _, h, Nat.le_refl _, Nat.le_refl _, fun nat' K' Ca' R' hn h' => ⟨hl, h'⟩⟩
    · exact h.elim
  | tableswitch dflt lo hi offs =>
    obtain ⟨x, s2, -, h, g⟩ := rz_i1_w h
    split at h
    · next hc =>
      obtain ⟨t, -, h, g2⟩ := rz_to_w h
      exact Or.inl ⟨_, _, _, _, h, Nat.le_refl _, Nat.le_refl _, fun nat' K' Ca' R' hn h' => g _ (by rw [if_pos hc]; exact g2 _ h')⟩
    · next hc =>
      split at h
      · next off e =>
        obtain ⟨t, -, h, g2⟩ := rz_to_w h
        exact Or.inl ⟨_, _, _, _, h, Nat.le_refl _, Nat.le_refl _, fun nat' K' Ca' R' hn h' => g _ (by rw [if_neg hc, e]; exact g2 _ h')⟩
      · exact h.elim
  | lookupswitch dflt ps =>
    obtain ⟨hl, h⟩ := h
    obtain ⟨x, s2, -, h, g⟩ := rz_i1_w h
    obtain ⟨t, -, h, g2⟩ := rz_to_w h
    exact Or.inl ⟨_, _, _, _, h, Nat.le_refl _, Nat.le_refl _, fun nat' K' Ca' R' hn h' => ⟨hl, g _ (g2 _ h')⟩⟩
  | invokevirtual index =>
    obtain ⟨hl, h⟩ := h
    unfold rz_inv at h
    split at h
    · next k2 e =>
      split at h
      · next b rest e2 =>
        obtain ⟨h1, h2, h3, h4, h5, h⟩ := h
        exact Or.inr (Or.inl ⟨_, _, _, _, h, fun nat' K' Ca' R' hn h' => ⟨hl, by simp only [rz_inv, e, e2]; exact ⟨h1, h2, h3, h4, hn h5, h'⟩⟩⟩)
      · exact h.elim
    · exact h.elim
  | invokespecial index =>
    obtain ⟨hl, h⟩ := h
    unfold rz_ins at h
    split at h
    · next k2 e =>
      split at h
      · next b rest e2 =>
        obtain ⟨h2, h3, h4, h5, h⟩ := h
        exact Or.inr (Or.inl ⟨_, _, _, _, h, fun nat' K' Ca' R' hn h' => ⟨hl, by simp only [rz_ins, e, e2]; exact ⟨h2, h3, h4, hn h5, h'⟩⟩⟩)
      · exact h.elim
    · next k2 e =>
      split at h
      · next b rest =>
        obtain ⟨h3, h4, h5, h⟩ := h
        exact Or.inl ⟨_, _, _, _, h, Nat.le_refl _, Nat.le_refl _, fun nat' K' Ca' R' hn h' => ⟨hl, by unfold rz_ins; rw [e]; exact ⟨h3, h4, hn h5, h'⟩⟩⟩
      · exact h.elim
    · exact h.elim
  | invokestatic index =>
    obtain ⟨hl, h⟩ := h
    unfold rz_inS at h
    split at h
    · next k2 e =>
      obtain ⟨h2, h3, h4, h5, h⟩ := h
      exact Or.inr (Or.inl ⟨_, _, _, _, h, fun nat' K' Ca' R' hn h' => ⟨hl, by unfold rz_inS; rw [e]; exact ⟨h2, h3, h4, hn h5, h'⟩⟩⟩)
    · next k2 e =>
      obtain ⟨h2, h3, h4, h5, h⟩ := h
      exact Or.inr (Or.inl ⟨_, _, _, _, h, fun nat' K' Ca' R' hn h' => ⟨hl, by unfold rz_inS; rw [e]; exact ⟨h2, h3, h4, hn h5, h'⟩⟩⟩)
    · next k2 e =>
      unfold rz_cpS at h
      split at h
      · obtain ⟨h1, h2, h3, n0, f, n1, g, h4, h5, h6, h7, h8, h9, h10, h⟩ := h
        exact Or.inl ⟨_, _, _, _, h, Nat.le_refl _, Nat.le_refl _, fun nat' K' Ca' R' hn h' => ⟨hl, by unfold rz_inS; rw [e]; exact ⟨h1, h2, hn h3, n0, f, n1, g, h4, h5, h6, h7, h8, h9, h10, h'⟩⟩⟩
      · exact h.elim
    · next k2 e =>
      obtain ⟨x, y, s2, -, ⟨h1, h2, h3, h⟩, g⟩ := rz_i2_w h
      exact Or.inl ⟨_, _, _, _, h, Nat.le_refl _, Nat.le_refl _, fun nat' K' Ca' R' hn h' => ⟨hl, by unfold rz_inS; rw [e]; exact g _ ⟨h1, h2, hn h3, h'⟩⟩⟩
    · next k2 e =>
      obtain ⟨x, y, s2, -, ⟨h1, h2, h3, h⟩, g⟩ := rz_i2_w h
      exact Or.inl ⟨_, _, _, _, h, Nat.le_refl _, Nat.le_refl _, fun nat' K' Ca' R' hn h' => ⟨hl, by unfold rz_inS; rw [e]; exact g _ ⟨h1, h2, hn h3, h'⟩⟩⟩
    · exact h.elim
  | ireturn =>
    obtain ⟨hl, h⟩ := h
    unfold rz_iret at h
    split at h
    · split at h
      · next e => exact Or.inr (Or.inr ⟨_, h, fun nat' K' Ca' R' hn h' => ⟨hl, by unfold rz_iret; dsimp only; rw [e]; exact h'⟩⟩)
      · next e => exact Or.inr (Or.inr ⟨_, h.2, fun nat' K' Ca' R' hn h' => ⟨hl, by unfold rz_iret; dsimp only; rw [e]; exact ⟨h.1, h'⟩⟩⟩)
      · exact h.elim
    · exact h.elim
  | areturn =>
    obtain ⟨hl, h⟩ := h
    unfold rz_aret at h
    split at h
    · exact Or.inr (Or.inr ⟨_, h.2, fun nat' K' Ca' R' hn h' => ⟨hl, h.1, h'⟩⟩)
    · exact Or.inr (Or.inr ⟨_, h.2, fun nat' K' Ca' R' hn h' => ⟨hl, h.1, h'⟩⟩)
    · exact h.elim
  | return_ =>
    obtain ⟨hl, h1, h2, h⟩ := h
    exact Or.inr (Or.inr ⟨_, h, fun nat' K' Ca' R' hn h' => ⟨hl, h1, h2, h'⟩⟩)
  | _ => exact False.elim h
/-- what comes to an end with R comes to one end, of which R holds; cells are made, none goes -/
theorem rz_go_one : ∀ (n d k pc : Nat) (lv : List (Option Value)) (st : List Value) (hp : rz_Hp) (R : Option Value → rz_Hp → Prop), rz_go n d k pc lv st hp R → ∃ r hp', R r hp' ∧ hp.2.1 ≤ hp'.2.1 ∧ hp.2.2 ≤ hp'.2.2 ∧ ∀ R' : Option Value → rz_Hp → Prop, R' r hp' → rz_go n d k pc lv st hp R' := by
  intro n
  induction n with
  | zero => intro d k pc lv st hp R h; exact h.elim
  | succ n ih =>
    intro d k pc lv st hp R h
    unfold rz_go at h
    split at h
    · next i len e =>
      rcases rz_way h with ⟨pc', lv', st', hp', h1, h2, h3, h4⟩ | ⟨k2, as, pc', rest, ⟨hd, hk, h1⟩, h4⟩ | ⟨r, h1, h4⟩
      · obtain ⟨r, hp2, g1, g2, g3, g4⟩ := ih _ _ _ _ _ _ _ h1
        exact ⟨r, hp2, g1, Nat.le_trans h2 g2, Nat.le_trans h3 g3, fun R' hR => by unfold rz_go; rw [e]; exact h4 _ _ _ _ id (g4 R' hR)⟩
      · obtain ⟨r1, hp1, g1, g2, g3, g4⟩ := ih _ _ _ _ _ _ _ h1
        obtain ⟨r, hp2, f1, f2, f3, f4⟩ := ih _ _ _ _ _ _ _ g1
        exact ⟨r, hp2, f1, Nat.le_trans g2 f2, Nat.le_trans g3 f3, fun R' hR => by unfold rz_go; rw [e]; exact h4 _ _ _ _ id ⟨hd, hk, g4 _ (f4 R' hR)⟩⟩
      · exact ⟨r, hp, h1, Nat.le_refl _, Nat.le_refl _, fun R' hR => by unfold rz_go; rw [e]; exact h4 _ _ _ _ id hR⟩
    · exact h.elim
theorem rz_go_mono {n d k pc : Nat} {lv : List (Option Value)} {st : List Value} {hp : rz_Hp} {R R' : Option Value → rz_Hp → Prop} (h : rz_go n d k pc lv st hp R) (hR : ∀ r h', R r h' → R' r h') : rz_go n d k pc lv st hp R' := by
  obtain ⟨r, hp', h1, -, -, h4⟩ := rz_go_one n d k pc lv st hp R h
  exact h4 R' (hR _ _ h1)
theorem rz_go_succ : ∀ (n d k pc : Nat) (lv : List (Option Value)) (st : List Value) (hp : rz_Hp) (R : Option Value → rz_Hp → Prop), rz_go n d k pc lv st hp R → rz_go (n + 1) d k pc lv st hp R := by
  intro n
  induction n with
  | zero => intro d k pc lv st hp R h; exact h.elim
  | succ n ih =>
    intro d k pc lv st hp R h
    unfold rz_go at h
    split at h
    · next i len e =>
      rcases rz_way h with ⟨pc', lv', st', hp', h1, h2, h3, h4⟩ | ⟨k2, as, pc', rest, ⟨hd, hk, h1⟩, h4⟩ | ⟨r, h1, h4⟩
      · unfold rz_go; rw [e]; exact h4 _ _ _ _ id (ih _ _ _ _ _ _ _ h1)
      · unfold rz_go; rw [e]; exact h4 _ _ _ _ id ⟨hd, hk, rz_go_mono (ih _ _ _ _ _ _ _ h1) (fun r h' hh => ih _ _ _ _ _ _ _ hh)⟩
      · unfold rz_go; rw [e]; exact h4 _ _ _ _ id h1
    · exact h.elim
theorem rz_go_le {n n2 d k pc : Nat} {lv : List (Option Value)} {st : List Value} {hp : rz_Hp} {R : Option Value → rz_Hp → Prop} (hn : n ≤ n2) (h : rz_go n d k pc lv st hp R) : rz_go n2 d k pc lv st hp R := by
  induction hn with
  | refl => exact h
  | step _ ih => exact rz_go_succ _ _ _ _ _ _ _ _ ih
/-- more frames do no harm -/
theorem rz_go_deep : ∀ (n d d2 k pc : Nat) (lv : List (Option Value)) (st : List Value) (hp : rz_Hp) (R : Option Value → rz_Hp → Prop), d ≤ d2 → rz_go n d k pc lv st hp R → rz_go n d2 k pc lv st hp R := by
  intro n
  induction n with
  | zero => intro d d2 k pc lv st hp R hd h; exact h.elim
  | succ n ih =>
    intro d d2 k pc lv st hp R hd2 h
    unfold rz_go at h
    split at h
    · next i len e =>
      rcases rz_way h with ⟨pc', lv', st', hp', h1, h2, h3, h4⟩ | ⟨k2, as, pc', rest, ⟨hd, hk, h1⟩, h4⟩ | ⟨r, h1, h4⟩
      · unfold rz_go; rw [e]; exact h4 _ _ _ _ (fun q => Nat.lt_of_lt_of_le q hd2) (ih _ _ _ _ _ _ _ _ hd2 h1)
      · unfold rz_go; rw [e]; exact h4 _ _ _ _ (fun q => Nat.lt_of_lt_of_le q hd2) ⟨Nat.lt_of_lt_of_le hd hd2, hk, rz_go_mono (ih _ _ _ _ _ _ _ _ (Nat.sub_le_sub_right hd2 1) h1) (fun r h' hh => ih _ _ _ _ _ _ _ _ hd2 hh)⟩
      · unfold rz_go; rw [e]; exact h4 _ _ _ _ (fun q => Nat.lt_of_lt_of_le q hd2) h1
    · exact h.elim
theorem rz_ev_deep {d d2 k pc : Nat} {lv : List (Option Value)} {st : List Value} {hp : rz_Hp} {R : Option Value → rz_Hp → Prop} (hd : d ≤ d2) (h : rz_ev d k pc lv st hp R) : rz_ev d2 k pc lv st hp R := by
  obtain ⟨n, h⟩ := h
  exact ⟨n, rz_go_deep _ _ _ _ _ _ _ _ _ hd h⟩
theorem rz_ev_mono {d k pc : Nat} {lv : List (Option Value)} {st : List Value} {hp : rz_Hp} {R R' : Option Value → rz_Hp → Prop} (h : rz_ev d k pc lv st hp R) (hR : ∀ r h', R r h' → R' r h') : rz_ev d k pc lv st hp R' := by
  obtain ⟨n, h⟩ := h
  exact ⟨n, rz_go_mono h hR⟩
/-- a step of rz_ev -/
theorem rz_ev_iff {d k pc : Nat} {lv : List (Option Value)} {st : List Value} {hp : rz_Hp} {R : Option Value → rz_Hp → Prop} {i : Instr} {len : Nat} (e : decode (rz_B k) pc = .ok (i, len)) : rz_ev d k pc lv st hp R ↔ rz_stp k (0 < d) len pc lv st hp (fun pc' lv' st' hp' => rz_ev d k pc' lv' st' hp' R) (fun k2 as h post => 0 < d ∧ k2 < 183 ∧ rz_ev (d - 1) k2 0 (rz_en k2 as) [] h post) R i := by
  constructor
  · rintro ⟨n, h⟩
    cases n with
    | zero => exact h.elim
    | succ n =>
      unfold rz_go at h
      rw [e] at h
      rcases rz_way h with ⟨pc', lv', st', hp', h1, h2, h3, h4⟩ | ⟨k2, as, pc', rest, ⟨hd, hk, h1⟩, h4⟩ | ⟨r, h1, h4⟩
      · exact h4 _ _ _ _ id ⟨n, h1⟩
      · exact h4 _ _ _ _ id ⟨hd, hk, n, rz_go_mono h1 (fun r h' hh => ⟨n, hh⟩)⟩
      · exact h4 _ _ _ _ id h1
  · intro h
    rcases rz_way h with ⟨pc', lv', st', hp', ⟨n, h1⟩, h2, h3, h4⟩ | ⟨k2, as, pc', rest, ⟨hd, hk, n, h1⟩, h4⟩ | ⟨r, h1, h4⟩
    · exact ⟨n + 1, by unfold rz_go; rw [e]; exact h4 _ _ _ _ id h1⟩
    · obtain ⟨r, hp', ⟨n2, g1⟩, -, -, g4⟩ := rz_go_one _ _ _ _ _ _ _ _ h1
      refine ⟨max n n2 + 1, ?_⟩
      unfold rz_go
      rw [e]
      exact h4 _ _ _ _ id ⟨hd, hk, rz_go_le (Nat.le_max_left _ _) (g4 _ (rz_go_le (Nat.le_max_right _ _) g1))⟩
    · exact ⟨1, by unfold rz_go; rw [e]; exact h4 _ _ _ _ id h1⟩
end
section
/-! What rz_go says of places holds of the machine: a method that comes to its end over places meets, at every launch, its contract over the cells. -/
theorem rz_lk {α β : Type} [BEq α] [LawfulBEq α] {l : List (α × β)} {a : α} {b : β} (h : l.lookup a = some b) : (a, b) ∈ l := by
  induction l with
  | nil => simp at h
  | cons x l ih =>
    obtain ⟨y, z⟩ := x
    rw [List.lookup_cons] at h
    split at h
    · next e =>
      cases h
      rw [beq_iff_eq] at e
      subst e
      exact List.mem_cons_self
    · exact List.mem_cons_of_mem _ (ih h)
theorem rz_zip {α β : Type} {l : List α} {l2 : List β} {P : α × β → Bool} (hl : l.length = l2.length) (h : (l.zip l2).all P = true) {x : α} (hx : x ∈ l) : ∃ y, P (x, y) = true := by
  obtain ⟨i, hi⟩ := List.getElem?_of_mem hx
  have h1 : i < l2.length := hl ▸ (List.getElem?_eq_some_iff.mp hi).1
  refine ⟨l2[i], List.all_eq_true.mp h _ (List.mem_of_getElem? (i := i) ?_)⟩
  rw [List.getElem?_zip_eq_some]
  exact ⟨hi, List.getElem?_eq_getElem h1⟩
theorem rz_lay : ∀ c, c < 10 → ∀ w ∈ u_ws (rz_R c) (rz_T c) (rz_N c), w ∈ rz_tbl := by
  intro c hc
  match c, hc with
  | 0, _ => exact rz_lay0
  | 1, _ => exact rz_lay1
  | 2, _ => exact rz_lay2
  | 3, _ => exact rz_lay3
  | 4, _ => exact rz_lay4
  | 5, _ => exact rz_lay5
  | 6, _ => exact rz_lay6
  | 7, _ => exact rz_lay7
  | 8, _ => exact rz_lay8
  | 9, _ => exact rz_lay9
  | n + 10, h => omega
theorem rz_tok : ∀ c, c < 10 → ∀ k, k < rz_N c → parseFieldDescriptor (rz_T c k).2.2.1 = some (rz_ty c k) := by
  intro c hc
  match c, hc with
  | 0, _ => exact rz_tok0
  | 1, _ => exact rz_tok1
  | 2, _ => exact rz_tok2
  | 3, _ => exact rz_tok3
  | 4, _ => exact rz_tok4
  | 5, _ => exact rz_tok5
  | 6, _ => exact rz_tok6
  | 7, _ => exact rz_tok7
  | 8, _ => exact rz_tok8
  | 9, _ => exact rz_tok9
  | n + 10, h => omega
theorem rz_nm : ∀ c, c < 10 → ∀ a, a < rz_N c → ∀ b, b < rz_N c → a ≠ b → (rz_T c a).2.1 ≠ (rz_T c b).2.1 := by
  intro c hc
  match c, hc with
  | 0, _ => exact rz_nm0
  | 1, _ => exact rz_nm1
  | 2, _ => exact rz_nm2
  | 3, _ => exact rz_nm3
  | 4, _ => exact rz_nm4
  | 5, _ => exact rz_nm5
  | 6, _ => exact rz_nm6
  | 7, _ => exact rz_nm7
  | 8, _ => exact rz_nm8
  | 9, _ => exact rz_nm9
  | n + 10, h => omega
theorem rz_mem {i : Nat} {w : Cond} (h : lw_tbl[i]? = some w) (g : goodWord w = true) : w ∈ rz_tbl := rz_in (List.mem_of_getElem? h) g
theorem rz_link {q : (Nat × Nat) × (Nat × Nat)} (h : q ∈ rz_fl) : Cond.fieldLink (rz_R q.1.1) q.1.2 (rz_R q.2.1) (rz_T q.2.1 q.2.2).2.1 (rz_T q.2.1 q.2.2).2.2.1 ∈ rz_tbl ∧ q.2.1 < 10 ∧ q.2.2 < rz_N q.2.1 ∧ (rz_T q.2.1 q.2.2).1 = rz_R q.2.1 := by
  obtain ⟨y, hy⟩ := rz_zip (l2 := rz_flx) (by decide +kernel) rz_okF h
  simp only [Bool.and_eq_true, decide_eq_true_eq] at hy
  exact ⟨rz_mem hy.1.1.1 rfl, hy.1.1.2, hy.1.2, hy.2⟩
theorem rz_calls {q : (Nat × Nat) × (Nat × Nat)} (h : q ∈ rz_ml) : rz_mw q ∈ lw_tbl ∧ q.2.2 < 183 ∧ (rz_kd q.2.2 = q.2.1 ∨ 4 < q.2.1 ∨ (q.2.1 = 3 ∧ rz_kd q.2.2 = 1)) ∧ q.1.1 < 10 := by
  obtain ⟨y, hy⟩ := rz_zip (l2 := rz_mlx) (by decide +kernel) rz_okL h
  simp only [Bool.and_eq_true, Bool.or_eq_true, decide_eq_true_eq] at hy
  exact ⟨List.mem_of_getElem? hy.1.1.1, hy.1.1.2, by rcases hy.1.2 with (h | h) | h <;> simp_all, hy.2⟩
theorem rz_news {q : (Nat × Nat) × Nat} (h : q ∈ rz_cl) : Cond.classLink (rz_R q.1.1) q.1.2 (rz_R q.2) ∈ rz_tbl ∧ q.2 < 10 := by
  obtain ⟨y, hy⟩ := rz_zip (l2 := rz_clx) (by decide +kernel) rz_okK h
  simp only [Bool.and_eq_true, decide_eq_true_eq] at hy
  exact ⟨rz_mem hy.1 rfl, hy.2⟩
theorem rz_consts {q : (Nat × Nat) × Int32} (h : q ∈ rz_kl) : Cond.constant (rz_R q.1.1) q.1.2 q.2 ∈ rz_tbl := by
  obtain ⟨y, hy⟩ := rz_zip (l2 := rz_klx) (by decide +kernel) rz_okI h
  simp only [decide_eq_true_eq] at hy
  exact rz_mem hy rfl
theorem rz_code {k : Nat} (hk : k < 183) : Cond.code (rz_Y k) (rz_B k) (rz_ML k) (rz_RT k) ∈ rz_tbl := by
  obtain ⟨i, hi⟩ := rz_okD k hk
  exact rz_mem hi rfl
theorem rz_inid {c : Nat} (hc : c < 10) : Cond.initialized (rz_R c) ∈ rz_tbl ∧ Cond.instantiable (rz_R c) (rz_N c) ∈ rz_tbl ∧ rz_cls[c]? = some (rz_R c, rz_T c, rz_N c) := by
  obtain ⟨h1, h2, h3⟩ := rz_okC c hc
  exact ⟨rz_mem h1 rfl, rz_mem h2 rfl, h3⟩
/-! the cells that places stand for -/
def rz_mv (b0 : Nat) : Value → Value
  | .ref a => .ref (b0 + a)
  | v => v
abbrev rz_G : Type := va_G × ClassId × ClassId × ClassId
def rz_cv (G : rz_G) (b0 : Nat) : rz_Cl → va_E
  | .inl x => .inl (if x.1 = 0 then G.2.1 else G.2.2.1, x.2.1, .inl x.2.2)
  | .inr (.inl x) => .inl (G.2.2.2, x.1, .inr (.inr (.inr (.inr (fun j => (x.2 j).map (fun a => b0 + a))))))
  | .inr (.inr x) => .inr (x.1, x.2.map (rz_mv b0))
def rz_ws (G : rz_G) (b0 : Nat) (hp : rz_Hp) : va_W := (List.range hp.2.1).map (fun a => (b0 + a, rz_cv G b0 (hp.1 a)))
def rz_tys (G : rz_G) : List (ClassId × FieldType) := [(G.2.1, .int), (G.2.2.1, .char), (G.2.2.2, .object "RisingPiles$State")]
def rz_env (G : rz_G) (U : State) : Prop := va_K G.1 rz_cls (rz_tys G) U ∧ (∀ q ∈ rz_ml, q.2.1 = 3 → va_Nw (rz_mw q) U) ∧ va_AO "RisingPiles$State" U
def rz_wd (G : rz_G) (b0 : Nat) (hp : rz_Hp) (H : Heap) : Prop := va_P G.1 rz_cls (rz_ws G b0 hp) H
def rz_A (b0 : Nat) : Nat → Prop := fun q => b0 ≤ q
theorem rz_env.warm {G : rz_G} {s U : State} (hW : s.WarmedH U.vm) (h : rz_env G s) : rz_env G U := by
  refine ⟨va_K.moved hW.alike h.1, fun q hq h3 => ?_, va_AO.moved hW.alike h.2.2⟩
  have h1 := h.2.1 q hq h3
  obtain ⟨⟨c, i⟩, t, k⟩ := q
  dsimp only at h3
  subst h3
  exact va_Nw.warmM hW h1
theorem rz_env.blind {G : rz_G} {U : State} (h : rz_env G U) (g : JFrame) (mk : MethodId) (a : Array Value) : rz_env G (U.calling g mk a) := by
  refine ⟨va_K.moved (u := U) (U := U.calling g mk a) (Vm.Alike.refl U.vm) h.1, fun q hq h3 => ?_, va_AO.moved (u := U) (U := U.calling g mk a) (Vm.Alike.refl U.vm) h.2.2⟩
  have h1 := h.2.1 q hq h3
  obtain ⟨⟨c, i⟩, t, k⟩ := q
  dsimp only at h3
  subst h3
  exact va_Nw.same rfl (show U.vm = (U.calling g mk a).vm from rfl) h1
theorem rz_ws_get (G : rz_G) (b0 : Nat) {hp : rz_Hp} {a : Nat} (h : a < hp.2.1) : (rz_ws G b0 hp)[a]? = some (b0 + a, rz_cv G b0 (hp.1 a)) := by
  unfold rz_ws
  rw [List.getElem?_map, List.getElem?_range h]
  rfl
theorem rz_ws_of {G : rz_G} {b0 : Nat} {hp : rz_Hp} {a : Nat} {q : Nat × va_E} (h : (rz_ws G b0 hp)[a]? = some q) : a < hp.2.1 ∧ q = (b0 + a, rz_cv G b0 (hp.1 a)) := by
  have h1 : a < hp.2.1 := by
    have := (List.getElem?_eq_some_iff.mp h).1
    unfold rz_ws at this
    simpa using this
  exact ⟨h1, (Option.some.inj ((rz_ws_get G b0 h1).symm.trans h)).symm⟩
theorem rz_ws_D (G : rz_G) (b0 : Nat) (hp : rz_Hp) : va_D (rz_A b0) (rz_ws G b0 hp) := by
  refine ⟨fun i j p q hi hj h => ?_, fun k q hk => ?_⟩
  · obtain ⟨-, rfl⟩ := rz_ws_of hi
    obtain ⟨-, rfl⟩ := rz_ws_of hj
    dsimp only at h
    omega
  · obtain ⟨-, rfl⟩ := rz_ws_of hk
    exact Nat.le_add_right _ _
theorem rz_ws_set (G : rz_G) (b0 : Nat) {hp : rz_Hp} {a : Nat} (h : a < hp.2.1) (c : rz_Cl) : (rz_ws G b0 hp).set a (b0 + a, rz_cv G b0 c) = rz_ws G b0 (rz_set hp a c) := by
  apply List.ext_getElem?
  intro i
  unfold rz_ws rz_set
  dsimp only
  by_cases hi : i = a
  · subst hi
    simp [h]
  · rw [List.getElem?_set_ne (fun q => hi q.symm)]
    by_cases h2 : i < hp.2.1
    · simp [h2, hi]
    · simp [h2]
theorem rz_ws_push (G : rz_G) (b0 : Nat) (hp : rz_Hp) (c : rz_Cl) (n : Nat) : rz_ws G b0 hp ++ [(b0 + hp.2.1, rz_cv G b0 c)] = rz_ws G b0 (rz_push hp c n) := by
  unfold rz_ws rz_push
  dsimp only
  rw [List.range_succ, List.map_append]
  congr 1
  · apply List.map_congr_left
    intro a ha
    have := List.mem_range.mp ha
    rw [if_neg (by omega)]
  · simp
theorem rz_fv_of {hp : rz_Hp} {a ci j : Nat} {v : Value} (h : rz_fv hp a ci j = some v) : a < hp.2.1 ∧ ∃ fs, hp.1 a = .inr (.inr (ci, fs)) ∧ fs[j]? = some v := by
  unfold rz_fv at h
  split at h
  · next hl =>
    split at h
    · next c fs e =>
      split at h
      · next hc => subst hc; exact ⟨hl, fs, e, h⟩
      · cases h
    · cases h
  · cases h
theorem rz_av_of {hp : rz_Hp} {a : Nat} {x : Nat × Nat × (Nat → Int32)} (h : rz_av hp a = some x) : a < hp.2.1 ∧ hp.1 a = .inl x := by
  unfold rz_av at h
  split at h
  · next hl =>
    split at h
    · next y e => cases h; exact ⟨hl, e⟩
    · cases h
  · cases h
theorem rz_qv_of {hp : rz_Hp} {a : Nat} {x : Nat × (Nat → Option Nat)} (h : rz_qv hp a = some x) : a < hp.2.1 ∧ hp.1 a = .inr (.inl x) := by
  unfold rz_qv at h
  split at h
  · next hl =>
    split at h
    · next y e => cases h; exact ⟨hl, e⟩
    · cases h
  · cases h
theorem rz_co_of {hp : rz_Hp} {a c : Nat} (h : rz_co hp a = some c) : a < hp.2.1 ∧ ∃ fs, hp.1 a = .inr (.inr (c, fs)) := by
  unfold rz_co at h
  split at h
  · next hl =>
    split at h
    · next y e => cases h; exact ⟨hl, y.2, e⟩
    · cases h
  · cases h
theorem rz_ln_of {hp : rz_Hp} {a n : Nat} (h : rz_ln hp a = some n) : a < hp.2.1 ∧ ((∃ x, hp.1 a = .inl x ∧ x.2.1 = n) ∨ ∃ x, hp.1 a = .inr (.inl x) ∧ x.1 = n) := by
  unfold rz_ln at h
  split at h
  · next hl =>
    split at h
    · next y e => cases h; exact ⟨hl, Or.inl ⟨y, e, rfl⟩⟩
    · next y e => cases h; exact ⟨hl, Or.inr ⟨y, e, rfl⟩⟩
    · cases h
  · cases h
/-! locals -/
def rz_as (vs : List (Option Value)) : List (Nat × Value) := (List.range vs.length).filterMap (fun i => (vs[i]?.join).map (fun v => (i, v)))
theorem rz_as_iff {vs : List (Option Value)} {q : Nat × Value} : q ∈ rz_as vs ↔ vs[q.1]? = some (some q.2) := by
  unfold rz_as
  rw [List.mem_filterMap]
  constructor
  · rintro ⟨i, hi, h⟩
    cases hv : vs[i]? with
    | none => rw [hv] at h; simp at h
    | some o =>
      cases o with
      | none => rw [hv] at h; simp at h
      | some v => rw [hv] at h; simp at h; subst h; exact hv
  · intro h
    exact ⟨q.1, List.mem_range.mpr (List.getElem?_eq_some_iff.mp h).1, by rw [h]; rfl⟩
def rz_ls (b0 : Nat) (ls : Array Slot) (nL : Nat) (lv : List (Option Value)) : Prop := lv.length = nL ∧ (∀ (i : Nat) (v : Value), lv[i]? = some (some v) → rz_one v = true) ∧ lv_has ls nL (rz_as (lv.map (Option.map (rz_mv b0))))
theorem rz_one_cat {v : Value} (h : rz_one v = true) : v.category = 1 := by
  cases v <;> first | rfl | cases h
theorem rz_one_mv {b0 : Nat} {v : Value} (h : rz_one v = true) : rz_one (rz_mv b0 v) = true := by
  cases v <;> first | rfl | cases h
theorem rz_cat_mv {b0 : Nat} {v : Value} (h : rz_one v = true) : (rz_mv b0 v).category = 1 := rz_one_cat (rz_one_mv h)
theorem rz_ls_get {b0 : Nat} {ls : Array Slot} {nL : Nat} {lv : List (Option Value)} (h : rz_ls b0 ls nL lv) {i : Nat} {v : Value} (hi : lv[i]? = some (some v)) : ls[i]? = some (.val (rz_mv b0 v)) :=
  h.2.2.2.2 (i, rz_mv b0 v) (rz_as_iff.mpr (by rw [List.getElem?_map, hi]; rfl))
theorem rz_ls_set {b0 : Nat} {ls : Array Slot} {nL : Nat} {lv : List (Option Value)} (h : rz_ls b0 ls nL lv) {i : Nat} {v : Value} (hv : rz_one v = true) {ls' : Array Slot} (h' : lv_has ls' nL ((i, rz_mv b0 v) :: (rz_as (lv.map (Option.map (rz_mv b0)))).filter (fun q => !(q.1 == i) && !(q.1 + 1 == i && q.2.category == 2)))) : rz_ls b0 ls' nL (lv.set i (some v)) := by
  refine ⟨by rw [List.length_set]; exact h.1, fun j w hj => ?_, h'.1, h'.2.1, fun q hq => ?_⟩
  · by_cases hji : j = i
    · subst hji
      have hl : j < lv.length := by have := (List.getElem?_eq_some_iff.mp hj).1; simpa using this
      rw [List.getElem?_set_self hl] at hj
      cases hj
      exact hv
    · rw [List.getElem?_set_ne (fun e => hji e.symm)] at hj
      exact h.2.1 j w hj
  · have hq := rz_as_iff.mp hq
    by_cases hji : q.1 = i
    · refine h'.2.2 q ?_
      obtain ⟨j, w⟩ := q
      dsimp only at hji hq
      subst hji
      have hl : j < lv.length := by have := (List.getElem?_eq_some_iff.mp hq).1; simpa using this
      rw [List.getElem?_map, List.getElem?_set_self hl] at hq
      cases hq
      exact List.mem_cons_self
    · refine h'.2.2 q (List.mem_cons_of_mem _ (List.mem_filter.mpr ⟨?_, ?_⟩))
      · rw [List.getElem?_map, List.getElem?_set_ne (fun e => hji e.symm)] at hq
        exact rz_as_iff.mpr (by rw [List.getElem?_map]; exact hq)
      · rw [List.getElem?_map, List.getElem?_set_ne (fun e => hji e.symm)] at hq
        cases hw : lv[q.1]? with
        | none => rw [hw] at hq; cases hq
        | some o =>
          cases o with
          | none => rw [hw] at hq; cases hq
          | some w =>
            rw [hw] at hq
            have hq2 : rz_mv b0 w = q.2 := by simpa using hq
            have hc : q.2.category = 1 := by rw [← hq2]; exact rz_cat_mv (h.2.1 _ _ hw)
            simp [hji, hc]
theorem rz_sl {vs : List Value} (h : ∀ v ∈ vs, v.category = 1) : (lg_sl vs).length = vs.length ∧ ∀ (i0 j : Nat) (v : Value), vs[j]? = some v → (i0 + j, v) ∈ lv_args i0 vs := by
  induction vs with
  | nil => exact ⟨rfl, fun _ _ _ h => by simp at h⟩
  | cons a vs ih =>
    have ha := h a List.mem_cons_self
    obtain ⟨h1, h2⟩ := ih (fun v hv => h v (List.mem_cons_of_mem _ hv))
    have hc : ¬ a.category = 2 := by omega
    refine ⟨?_, fun i0 j v hj => ?_⟩
    · unfold lg_sl at h1 ⊢
      rw [List.flatMap_cons, if_neg hc]
      simp [h1]
    · unfold lv_args
      rw [if_neg hc]
      cases j with
      | zero => cases hj; exact List.mem_cons_self
      | succ j =>
        have := h2 (i0 + 1) j v hj
        rw [show i0 + (j + 1) = i0 + 1 + j by omega]
        exact List.mem_cons_of_mem _ this
theorem rz_entry {b0 k : Nat} {as : List Value} (ha : ∀ v ∈ as, rz_one v = true) (hl : as.length ≤ rz_ML k) : rz_ls b0 ((lg_sl (as.map (rz_mv b0)) ++ List.replicate (rz_ML k - (lg_sl (as.map (rz_mv b0))).length) Slot.unset).toArray) (rz_ML k) (rz_en k as) := by
  have hc : ∀ v ∈ as.map (rz_mv b0), v.category = 1 := fun v hv => by
    obtain ⟨w, hw, rfl⟩ := List.mem_map.mp hv
    exact rz_cat_mv (ha w hw)
  obtain ⟨h1, h2⟩ := rz_sl hc
  have hlen : (lg_sl (as.map (rz_mv b0))).length ≤ rz_ML k := by rw [h1, List.length_map]; exact hl
  have hE := lv_entry (as.map (rz_mv b0)) hlen
  refine ⟨by unfold rz_en; simp; omega, fun i v hi => ?_, hE.1, hE.2.1, fun q hq => ?_⟩
  · unfold rz_en at hi
    by_cases hi2 : i < as.length
    · rw [List.getElem?_append_left (by simpa using hi2), List.getElem?_map, List.getElem?_eq_getElem hi2] at hi
      simp at hi
      rw [← hi]
      exact ha _ (List.getElem_mem hi2)
    · rw [List.getElem?_append_right (by simpa using Nat.not_lt.mp hi2)] at hi
      have := List.mem_of_getElem? hi
      simp at this
  · have hq := rz_as_iff.mp hq
    refine hE.2.2 q ?_
    rw [List.getElem?_map] at hq
    unfold rz_en at hq
    by_cases hi2 : q.1 < as.length
    · rw [List.getElem?_append_left (by simpa using hi2), List.getElem?_map, List.getElem?_eq_getElem hi2] at hq
      have hq2 : rz_mv b0 as[q.1] = q.2 := by simpa using hq
      have := h2 0 q.1 q.2 (by rw [List.getElem?_map, List.getElem?_eq_getElem hi2]; simp [hq2])
      rw [Nat.zero_add] at this
      exact this
    · rw [List.getElem?_append_right (by simpa using Nat.not_lt.mp hi2)] at hq
      rw [List.getElem?_replicate] at hq
      split at hq <;> simp at hq
theorem rz_cats {b0 : Nat} {st : List Value} (h : st.all rz_one = true) : ((st.map (rz_mv b0)).map fun v => v.category).sum = st.length := by
  induction st with
  | nil => rfl
  | cons a st ih =>
    simp only [List.all_cons, Bool.and_eq_true] at h
    simp only [List.map_cons, List.sum_cons, List.length_cons, ih h.2, rz_cat_mv h.1]
    omega
end
section
/-! The road from places to the machine: what rz_go brings to an end, the machine brings to that end. -/
def rz_Q (G : rz_G) (b0 : Nat) (r : Option Value) (hp' : rz_Hp) : Array Value → State → Outcome → State → Prop := fun _ st oc t => (oc = .returned (r.map (rz_mv b0)) ∧ rz_wd G b0 hp' t.heap) ∧ va_F (rz_A b0) st t
def rz_wk (k : Nat) : List Cond := Cond.code (rz_Y k) (rz_B k) (rz_ML k) (rz_RT k) :: rz_tbl
def rz_rm (d mc ms : Nat) : Room := { frames := d, cells := mc, slots := ms, locals := 30 * d }
def rz_fx (p : Program) (s : State) (m : MethodId) (args : Array Value) (meth : Method) (c : Code) (k : Nat) : Prop := p.tables.exec = Jvm.exec ∧ c.code = rz_B k ∧ c.maxLocals = rz_ML k ∧ s.vm.findClass (rz_R (rz_K k)) = some m.cls ∧ (∀ w ∈ rz_tbl, w.before args s = true) ∧ meth.locks = false ∧ meth.sig.returnType = rz_RT k ∧ meth.name = (rz_Y k).name
def rz_pc (G : rz_G) (b0 : Nat) (hp : rz_Hp) : State → Prop := fun U => U.heap.size = b0 + hp.2.1 ∧ rz_wd G b0 hp U.heap ∧ rz_env G U
theorem rz_pc_blind {G : rz_G} {b0 : Nat} {hp : rz_Hp} {av : List Value} : FrameBlind (va_Pc av (rz_pc G b0 hp)) := fun a U g mk q => by
  obtain ⟨q0, q1, q2, q3⟩ := q
  exact ⟨q0, q1, q2, rz_env.blind q3 g mk a⟩
section RZW
variable {p : Program} {l : Launch} {e : Env} {R : Room} {s : State} {m : MethodId} {args : Array Value} {below : List Frame} {meth : Method} {c : Code} {H : Heap} {locs : List Loc} {cells slots : Nat} {Q : State → Prop}
theorem rz_sized {g : JFrame} (kk : H.size ≤ s.heap.size + cells → W p l e R s m args below meth c H locs cells slots Q g) : W p l e R s m args below meth c H locs cells slots Q g := fun T hT X => kk (hT ▸ X.heapSize) T hT X
/-- behind a call -/
theorem rz_back {G : rz_G} {b0 pc mc ms : Nat} {ls : Array Slot} {rest st0 : List Value} {a : Array Value} {r : Option Value} {hp' : rz_Hp} (hr : va_Run p l e R s m args below meth c H locs cells slots mc ms (F0 m pc ls st0) rest (rz_Q G b0 r hp' a) (rz_A b0)) (hS : va_S (rz_A b0) s.heap H locs)
    (kk : ∀ (H1 : Heap) (locs1 : List Loc), rz_wd G b0 hp' H1 → va_S (rz_A b0) s.heap H1 locs1 → W p l e R s m args below meth c H1 locs1 (cells + mc) (slots + ms) Q (F0 m (pc + 3) ls ((r.map (rz_mv b0)).toList ++ rest))) : W p l e R s m args below meth c H locs cells slots Q (F0 m pc ls st0) := by
  intro T hT X
  obtain ⟨v, st₀, t, T', L, h0, X', hL, e1, e2, ⟨⟨hv, hp⟩, hz, hk⟩, st⟩ := hr T hT X
  cases hv
  rw [h0] at hz hk
  obtain ⟨t2, a1, b1⟩ := kk T'.heap (locs ++ L) (by rw [e1]; exact hp) ⟨Nat.le_trans hS.1 (by rw [e1]; exact hz), fun q h1 h2 => by rw [e1, hk q (Nat.lt_of_lt_of_le h1 hS.1) h2]; exact hS.2.1 q h1 h2, fun q hq => by
      rcases List.mem_append.mp hq with h | h
      · exact hS.2.2 q h
      · exact hL q h⟩ T' rfl X'
  exact ⟨t2, st t2 a1, b1⟩
end RZW
/-- what is claimed of n steps -/
def rz_ok (n : Nat) : Prop := ∀ (d k pc : Nat) (lv : List (Option Value)) (st : List Value) (hp : rz_Hp) (r : Option Value) (hp' : rz_Hp), rz_go n d k pc lv st hp (fun r1 h1 => r1 = r ∧ h1 = hp') → k < 183 →
  ∀ {p : Program} {l : Launch} {e : Env} {R : Room} {s : State} {m : MethodId} {args : Array Value} {below : List Frame} {meth : Method} {c : Code} {H : Heap} {locs : List Loc} {cells slots : Nat} {ls : Array Slot} {G : rz_G} {b0 mc ms : Nat},
    rz_fx p s m args meth c k → rz_env G s → rz_wd G b0 hp H → va_S (rz_A b0) s.heap H locs → b0 ≤ s.heap.size → s.heap.size + cells = b0 + hp.2.1 → cells + hp'.2.1 = mc + hp.2.1 → slots + hp'.2.2 = ms + hp.2.2 → mc ≤ R.cells → ms ≤ R.slots → d ≤ R.frames → 30 * d ≤ R.locals → rz_ls b0 ls (rz_ML k) lv →
    W p l e R s m args below meth c H locs cells slots (MQ below (rz_Q G b0 r hp') args s mc ms (rz_A b0)) (F0 m pc ls (st.map (rz_mv b0)))
set_option maxHeartbeats 4000000 in
/-- the contract of a method, out of n steps -/
theorem rz_met {n : Nat} (ok : rz_ok n) {d k : Nat} {as : List Value} {hp : rz_Hp} {r : Option Value} {hp' : rz_Hp} (h : rz_go n d k 0 (rz_en k as) [] hp (fun r1 h1 => r1 = r ∧ h1 = hp')) (hk : k < 183) (ha : ∀ v ∈ as, rz_one v = true) (hl : as.length ≤ rz_ML k) (l : Launch) (G : rz_G) (b0 mc ms : Nat) (h1 : hp'.2.1 = mc + hp.2.1) (h2 : hp'.2.2 = ms + hp.2.2) : Met l (rz_Y k) (rz_wk k) (rz_rm d mc ms) (va_Pc (as.map (rz_mv b0)) (rz_pc G b0 hp)) (rz_Q G b0 r hp') mc ms (rz_A b0) := by
  have hy := rz_okY k hk
  refine Met.ofW (cc := rz_B k) (maxL := rz_ML k) (ret := rz_RT k) hy.2.2.2.2.2.2.2 rfl ?_
  intro p e s m args below meth c s₁ B hml hv
  obtain ⟨rfl, hsz, hP, hE⟩ := hv
  have hts0 := atoms_spec (ws := rz_wk k) B.pre
  have hown : s.vm.findClass (rz_R (rz_K k)) = some m.cls := by rw [← hy.1]; exact findClass_of_methodNamed B.named
  rw [lg_entry_eq]
  exact ok d k 0 (rz_en k as) [] hp r hp' h hk ⟨B.exec, B.bytes, hml, hown, fun w hw => hts0 w (List.mem_cons_of_mem _ hw), B.notSynchronized, B.returns, (name_of_methodNamed B.named B.method).1⟩ hE hP va_S.rf (by omega) hsz (by omega) (by omega) (Nat.le_refl _) (Nat.le_refl _) (Nat.le_refl _) (Nat.le_refl _) (rz_entry ha hl)
theorem rz_goods {k : Nat} (hk : k < 183) : GoodIn rz_tbl (rz_wk k) := rz_goodIn (fun w hw => by
  rcases List.mem_cons.mp hw with h | h
  · rw [h]; exact rz_code hk
  · exact h)
section RZC
variable {s : State} {args : Array Value} {R : Room}
/-- what a call asks of the tables -/
theorem rz_cb (hts : ∀ w ∈ rz_tbl, w.before args s = true) {k d mc ms : Nat} (hk : k < 183) {own : String} {index : Nat} (hl : (Cond.methodLink own index (rz_Y k)).before args s = true) (hf : d + 1 ≤ R.frames) (hlo : 30 * (d + 1) ≤ R.locals) : CallB R s args own index (rz_Y k) (rz_B k) (rz_ML k) (rz_RT k) (rz_wk k) (rz_rm d mc ms) mc ms (rz_np k) := by
  have hy := rz_okY k hk
  have hG := rz_goods hk
  have hc : Cond.code (rz_Y k) (rz_B k) (rz_ML k) (rz_RT k) ∈ rz_wk k := List.mem_cons_self
  refine ⟨rfl, rfl, hf, ?_, pay_in hts hG, hc, hts _ (hG _ hc).1, ?_, hy.2.2.1, fun sig h => ?_, hl⟩
  · show 8 + (rz_ML k + 11) + 30 * d ≤ R.locals
    have := hy.2.2.2.2.1
    omega
  · rw [hy.1]; exact hts _ (rz_inid hy.2.1).1
  · have h2 := hy.2.2.2.1
    rw [h] at h2
    exact (Option.some.inj h2).symm
theorem rz_cbN (hts : ∀ w ∈ rz_tbl, w.before args s = true) {k d mc ms : Nat} (hk : k < 183) {own host : String} {index : Nat} (hl : va_Nw (.methodLinkNest own index (rz_Y k) host) s) (hf : d + 1 ≤ R.frames) (hlo : 30 * (d + 1) ≤ R.locals) : va_CN R s args own index (rz_Y k) host (rz_B k) (rz_ML k) (rz_RT k) (rz_wk k) (rz_rm d mc ms) mc ms (rz_np k) := by
  have hy := rz_okY k hk
  refine va_cnB (rz_np k) hts (rz_goods hk) rfl rfl rfl hl ?_ ⟨hy.2.2.1.1, hy.2.2.1.2, hy.2.2.2.1⟩ ⟨hf, ?_⟩
  · rw [hy.1]; exact hts _ (rz_inid hy.2.1).1
  · show 8 + (rz_ML k + 11) + 30 * d ≤ R.locals
    have := hy.2.2.2.2.1
    omega
end RZC
theorem rz_kd3 : ∀ k, k < 183 → ¬ rz_kd k = 3 := by decide +kernel
theorem rz_onces {st : List Value} (h : st.all rz_one = true) : ∀ v ∈ st, rz_one v = true := fun v hv => List.all_eq_true.mp h v hv
theorem rz_split {b0 n : Nat} {st : List Value} : st.map (rz_mv b0) = (((st.take n).reverse.map (rz_mv b0))).reverse ++ (st.drop n).map (rz_mv b0) := by
  rw [← List.map_reverse, List.reverse_reverse, ← List.map_append, List.take_append_drop]
theorem rz_fits {ty : FieldType} {v : Value} {b0 : Nat} (h : rz_fit ty v) : narrow ty (rz_mv b0 v) = rz_mv b0 v ∧ fits ty (rz_mv b0 v) = true := by
  unfold rz_fit at h
  split at h
  · exact ⟨rfl, rfl⟩
  · rcases h with rfl | rfl <;> exact ⟨rfl, rfl⟩
  · exact ⟨rfl, rfl⟩
  · exact ⟨rfl, rfl⟩
  · exact ⟨rfl, rfl⟩
  · exact ⟨rfl, rfl⟩
  · exact h.elim
theorem rz_pf_cv {G : rz_G} {b0 : Nat} {hp : rz_Hp} {a ci j : Nat} {fs : List Value} {v : Value} (h : a < hp.2.1) (he : hp.1 a = .inr (.inr (ci, fs))) : (rz_ws G b0 hp).set a (b0 + a, .inr (ci, (fs.map (rz_mv b0)).set j (rz_mv b0 v))) = rz_ws G b0 (rz_pf hp a j v) := by
  unfold rz_pf
  rw [he]
  rw [← rz_ws_set G b0 h]
  rw [← List.map_set]
  rfl
theorem rz_pa_cv {G : rz_G} {b0 : Nat} {hp : rz_Hp} {a t n : Nat} {f g : Nat → Int32} (h : a < hp.2.1) (he : hp.1 a = .inl (t, n, f)) : (rz_ws G b0 hp).set a (b0 + a, .inl (if t = 0 then G.2.1 else G.2.2.1, n, .inl g)) = rz_ws G b0 (rz_pa hp a g) := by
  unfold rz_pa
  rw [he]
  rw [← rz_ws_set G b0 h]
  rfl
theorem rz_pq_cv {G : rz_G} {b0 : Nat} {hp : rz_Hp} {a n i v : Nat} {f : Nat → Option Nat} (h : a < hp.2.1) (he : hp.1 a = .inr (.inl (n, f))) : (rz_ws G b0 hp).set a (b0 + a, .inl (G.2.2.2, n, .inr (.inr (.inr (.inr (va_up (fun j => (f j).map (fun a => b0 + a)) i (some (b0 + v)))))))) = rz_ws G b0 (rz_pq hp a (va_up f i (some v))) := by
  have e : va_up (fun j => (f j).map (fun a => b0 + a)) i (some (b0 + v)) = fun j => ((va_up f i (some v)) j).map (fun a => b0 + a) := by
    funext j
    unfold va_up
    split <;> rfl
  rw [e]
  unfold rz_pq
  rw [he]
  rw [← rz_ws_set G b0 h]
  rfl
theorem rz_size {G : rz_G} {b0 : Nat} {hp : rz_Hp} {H H0 : Heap} {locs : List Loc} (hP : rz_wd G b0 hp H) (hS : va_S (rz_A b0) H0 H locs) (hb0 : b0 ≤ H0.size) (hsz : H.size ≤ b0 + hp.2.1) : H.size = b0 + hp.2.1 := by
  have h1 : b0 + hp.2.1 ≤ H.size := by
    by_cases h0 : hp.2.1 = 0
    · rw [h0]; exact Nat.le_trans hb0 hS.1
    · have hlt : hp.2.1 - 1 < hp.2.1 := by omega
      have := (hP _ _ (rz_ws_get G b0 hlt)).lt
      dsimp only at this
      omega
  omega
theorem rz_fresh {G : rz_G} {b0 q : Nat} {hp : rz_Hp} {H1 : Heap} {e : va_E} (gP : va_P G.1 rz_cls (rz_ws G b0 hp ++ [(q, e)]) H1) (gD : va_D (rz_A b0) (rz_ws G b0 hp ++ [(q, e)])) (hsz : H1.size ≤ b0 + hp.2.1 + 1) : q = b0 + hp.2.1 := by
  have hlen : (rz_ws G b0 hp).length = hp.2.1 := by unfold rz_ws; simp
  have hn : (rz_ws G b0 hp ++ [(q, e)])[hp.2.1]? = some (q, e) := by
    rw [List.getElem?_append_right (by omega), hlen, Nat.sub_self]; rfl
  have h1 : b0 ≤ q := gD.2 _ _ hn
  have h2 : q < H1.size := (gP _ _ hn).lt
  by_cases h3 : q < b0 + hp.2.1
  · have hk : q - b0 < hp.2.1 := by omega
    have hk2 : (rz_ws G b0 hp ++ [(q, e)])[q - b0]? = some (b0 + (q - b0), rz_cv G b0 (hp.1 (q - b0))) := by
      rw [List.getElem?_append_left (by omega)]; exact rz_ws_get G b0 hk
    have := gD.1 _ _ _ _ hk2 hn (by dsimp only; omega)
    omega
  · omega
theorem rz_same_obj {G : rz_G} {cA : ClassId} {s : State} (gK : va_K G.1 rz_cls (rz_tys G ++ [(cA, .object "RisingPiles$State")]) s) : cA = G.2.2.2 := by
  obtain ⟨k1, c1, -, -, -, e1⟩ := (gK.2 3 (cA, .object "RisingPiles$State") rfl).2
  obtain ⟨k2, c2, -, -, -, e2⟩ := (gK.2 2 (G.2.2.2, .object "RisingPiles$State") rfl).2
  exact Option.some.inj (e1.symm.trans e2)
set_option maxHeartbeats 40000000 in
set_option maxRecDepth 100000 in
theorem rz_all : ∀ n, rz_ok n := by
  intro n
  induction n with
  | zero => intro d k pc lv st hp r hp' h; exact h.elim
  | succ n ih =>
    intro d k pc lv st hp r hp' h hk p l e R s m args below meth c H locs cells slots ls G b0 mc ms fx hE hP hS hb0 hN h1 h2 hmc hms hd hlo hl
    have hD : va_D (rz_A b0) (rz_ws G b0 hp) := rz_ws_D G b0 hp
    have hA : ∀ q : Nat, s.heap.size ≤ q → rz_A b0 q := fun q h => Nat.le_trans hb0 h
    have hmono : hp.2.1 ≤ hp'.2.1 ∧ hp.2.2 ≤ hp'.2.2 := by
      obtain ⟨r9, h9, ⟨-, e9⟩, g1, g2, -⟩ := rz_go_one _ _ _ _ _ _ _ _ h
      rw [← e9]; exact ⟨g1, g2⟩
    unfold rz_go at h
    have hh : ∃ i len, decode (rz_B k) pc = .ok (i, len) ∧ rz_stp k (0 < d) len pc lv st hp (fun pc' lv' st' hp2 => rz_go n d k pc' lv' st' hp2 (fun r1 h1 => r1 = r ∧ h1 = hp')) (fun k2 as h post => 0 < d ∧ k2 < 183 ∧ rz_go n (d - 1) k2 0 (rz_en k2 as) [] h post) (fun r1 h1 => r1 = r ∧ h1 = hp') i := by
      split at h
      · next i len e9 => exact ⟨i, len, e9, h⟩
      · exact h.elim
    clear h
    obtain ⟨i, len, hdec, h⟩ := hh
    have nx : ∀ {pc' : Nat} {lv' : List (Option Value)} {st' : List Value} {hp2 : rz_Hp} {H2 : Heap} {locs2 : List Loc} {cells2 slots2 : Nat} {ls2 : Array Slot}, rz_go n d k pc' lv' st' hp2 (fun r1 h1 => r1 = r ∧ h1 = hp') → rz_wd G b0 hp2 H2 → va_S (rz_A b0) s.heap H2 locs2 → s.heap.size + cells2 = b0 + hp2.2.1 → cells2 + hp'.2.1 = mc + hp2.2.1 → slots2 + hp'.2.2 = ms + hp2.2.2 → rz_ls b0 ls2 (rz_ML k) lv' → W p l e R s m args below meth c H2 locs2 cells2 slots2 (MQ below (rz_Q G b0 r hp') args s mc ms (rz_A b0)) (F0 m pc' ls2 (st'.map (rz_mv b0))) :=
      fun g1 g2 g3 g4 g5 g6 g7 => ih d k _ _ _ _ r hp' g1 hk fx hE g2 g3 hb0 g4 g5 g6 hmc hms hd hlo g7
    obtain ⟨hx, hb, hml, hown, hts, hlocks, hret, hname⟩ := id fx
    have hK := hE.1
    have hKk := (rz_okY k hk).2.1
    cases i with
    | aload_n j =>
      obtain ⟨rfl, h⟩ := h
      obtain ⟨v, hv, hi, h, -⟩ := rz_lda_w h
      have hg := rz_ls_get hl hi
      rcases hv with rfl | ⟨a, rfl⟩
      · exact lv_aload_nN hx hb hdec rfl hg (nx h hP hS hN h1 h2 hl)
      · exact lv_aload_n hx hb hdec rfl hg (nx h hP hS hN h1 h2 hl)
    | iload_n j =>
      obtain ⟨rfl, h⟩ := h
      obtain ⟨v, hi, h, -⟩ := rz_ldi_w h
      exact lv_iload_n hx hb hdec rfl (rz_ls_get hl hi) (nx h hP hS hN h1 h2 hl)
    | iload j =>
      obtain ⟨rfl, h⟩ := h
      obtain ⟨v, hi, h, -⟩ := rz_ldi_w h
      exact lv_iload hx hb hdec (rz_ls_get hl hi) (nx h hP hS hN h1 h2 hl)
    | astore_n j =>
      obtain ⟨rfl, h⟩ := h
      obtain ⟨v, s2, hv, rfl, hi, h, -⟩ := rz_sta_w h
      rcases hv with rfl | ⟨a, rfl⟩
      · exact lv_astore_nN hx hb hdec rfl hl.2.2 (hl.1 ▸ hi) rfl (fun ls' h' => nx h hP hS hN h1 h2 (rz_ls_set hl rfl h'))
      · exact lv_astore_n hx hb hdec rfl hl.2.2 (hl.1 ▸ hi) rfl (fun ls' h' => nx h hP hS hN h1 h2 (rz_ls_set hl rfl h'))
    | istore_n j =>
      obtain ⟨rfl, h⟩ := h
      obtain ⟨v, s2, rfl, hi, h, -⟩ := rz_sti_w h
      exact lv_istore_n hx hb hdec rfl hl.2.2 (hl.1 ▸ hi) rfl (fun ls' h' => nx h hP hS hN h1 h2 (rz_ls_set hl rfl h'))
    | istore j =>
      obtain ⟨rfl, h⟩ := h
      obtain ⟨v, s2, rfl, hi, h, -⟩ := rz_sti_w h
      exact lv_istore hx hb hdec hl.2.2 (hl.1 ▸ hi) rfl (fun ls' h' => nx h hP hS hN h1 h2 (rz_ls_set hl rfl h'))
    | iinc j c9 =>
      obtain ⟨rfl, h⟩ := h
      split at h
      · next x ex =>
        have hg := rz_ls_get (i := j) hl ex
        obtain ⟨k9, hk9⟩ := List.getElem?_of_mem (rz_as_iff.mpr (show (lv.map (Option.map (rz_mv b0)))[(j, Value.int x).1]? = some (some (j, Value.int x).2) by rw [List.getElem?_map, ex]; rfl))
        exact lv_iinc (v := x + Int32.ofInt c9) hx hb hdec hl.2.2 hk9 rfl (hl.1 ▸ (List.getElem?_eq_some_iff.mp ex).1) rfl (fun ls' h' => nx h hP hS hN h1 h2 (rz_ls_set hl rfl h'))
      · exact h.elim
    | iconst n9 =>
      obtain ⟨rfl, h⟩ := h
      exact lv_iconst hx hb hdec rfl (nx h hP hS hN h1 h2 hl)
    | bipush n9 =>
      obtain ⟨rfl, h⟩ := h
      exact lv_bipush hx hb hdec rfl (nx h hP hS hN h1 h2 hl)
    | sipush n9 =>
      obtain ⟨rfl, h⟩ := h
      exact lv_sipush hx hb hdec rfl (nx h hP hS hN h1 h2 hl)
    | aconst_null =>
      obtain ⟨rfl, h⟩ := h
      exact lv_null hx hb hdec (nx h hP hS hN h1 h2 hl)
    | ldc index =>
      obtain ⟨rfl, h⟩ := h
      split at h
      · next v ev => exact lv_ldc hx hb hown (hts _ (rz_consts (rz_lk ev))) hdec (nx h hP hS hN h1 h2 hl)
      · exact h.elim
    | iadd =>
      obtain ⟨rfl, h⟩ := h
      obtain ⟨x, y, s2, rfl, h, -⟩ := rz_i2_w h
      exact lv_iadd hx hb hdec (nx h hP hS hN h1 h2 hl)
    | isub =>
      obtain ⟨rfl, h⟩ := h
      obtain ⟨x, y, s2, rfl, h, -⟩ := rz_i2_w h
      exact lv_isub hx hb hdec (nx h hP hS hN h1 h2 hl)
    | imul =>
      obtain ⟨rfl, h⟩ := h
      obtain ⟨x, y, s2, rfl, h, -⟩ := rz_i2_w h
      exact lv_imul hx hb hdec (nx h hP hS hN h1 h2 hl)
    | iand =>
      obtain ⟨rfl, h⟩ := h
      obtain ⟨x, y, s2, rfl, h, -⟩ := rz_i2_w h
      exact lv_iand hx hb hdec (nx h hP hS hN h1 h2 hl)
    | ixor =>
      obtain ⟨rfl, h⟩ := h
      obtain ⟨x, y, s2, rfl, h, -⟩ := rz_i2_w h
      exact lv_ixor hx hb hdec (nx h hP hS hN h1 h2 hl)
    | ishr =>
      obtain ⟨rfl, h⟩ := h
      obtain ⟨x, y, s2, rfl, h, -⟩ := rz_i2_w h
      exact lv_ishr hx hb hdec (nx h hP hS hN h1 h2 hl)
    | idiv =>
      obtain ⟨rfl, h⟩ := h
      obtain ⟨x, y, s2, rfl, ⟨h0, h⟩, -⟩ := rz_i2_w h
      exact lv_idiv hx hb hdec h0 (nx h hP hS hN h1 h2 hl)
    | i2c =>
      obtain ⟨rfl, h⟩ := h
      obtain ⟨x, s2, rfl, h, -⟩ := rz_i1_w h
      exact lv_i2c hx hb hdec rfl (nx h hP hS hN h1 h2 hl)
    | dup =>
      obtain ⟨rfl, h⟩ := h
      split at h
      · exact lv_dup hx hb hdec (rz_cat_mv h.1) (nx h.2 hP hS hN h1 h2 hl)
      · exact h.elim
    | dup2 =>
      obtain ⟨rfl, h⟩ := h
      split at h
      · exact lv_dup2_11 hx hb hdec (rz_cat_mv h.1) (rz_cat_mv h.2.1) (nx h.2.2 hP hS hN h1 h2 hl)
      · exact h.elim
    | pop =>
      obtain ⟨rfl, h⟩ := h
      split at h
      · exact lv_pop hx hb hdec (rz_cat_mv h.1) (nx h.2 hP hS hN h1 h2 hl)
      · exact h.elim
    | getfield index =>
      obtain ⟨rfl, h⟩ := h
      obtain ⟨a, s2, rfl, h, -⟩ := rz_r1_w h
      split at h
      · next ci j ef =>
        obtain ⟨v, hv, h⟩ := h
        obtain ⟨hla, fs, he, hj⟩ := rz_fv_of hv
        obtain ⟨lk, hci, hj2, hdecl⟩ := rz_link (rz_lk ef)
        have hget := rz_ws_get G b0 hla
        rw [he] at hget
        exact va_get hx hb hts (rz_lay ci hci) hown hK hP a hget (rz_inid hci).2.2 j hj2 (hts _ lk) (ref := rz_R ci) (fun _ h9 => by rw [← hdecl]; exact h9) (v := rz_mv b0 v) (by dsimp only; rw [List.getElem?_map, hj]; rfl) hdec (nx h hP hS hN h1 h2 hl)
      · exact h.elim
    | putfield index =>
      obtain ⟨rfl, h⟩ := h
      unfold rz_putf at h
      split at h
      · next v a s2 =>
        split at h
        · next ci j ef =>
          obtain ⟨⟨w, hw⟩, hfit, hfin, h⟩ := h
          obtain ⟨hla, fs, he, hj⟩ := rz_fv_of hw
          obtain ⟨lk, hci, hj2, hdecl⟩ := rz_link (rz_lk ef)
          have hget := rz_ws_get G b0 hla
          rw [he] at hget
          have hjl : j < (fs.map (rz_mv b0)).length := by rw [List.length_map]; exact (List.getElem?_eq_some_iff.mp hj).1
          obtain ⟨hn1, hn2⟩ := rz_fits (b0 := b0) hfit
          by_cases hf9 : (rz_T ci j).2.2.2 = true
          · obtain ⟨hin2, hcik⟩ := hfin hf9
            refine va_putF hx hb hts (rz_lay ci hci) (rz_ty ci) (rz_tok ci hci) (rz_nm ci hci) hown hK hP hD hS a hget (rz_inid hci).2.2 j hj2 (hts _ lk) (ref := rz_R ci) (fun _ h9 => by rw [← hdecl]; exact h9) hf9 (by rw [hname]; exact hin2) (by rw [hdecl, hcik]) (rz_tok ci hci j hj2) hn1 hn2 hjl hdec (fun H1 locs1 gP gD gS => ?_)
            rw [rz_pf_cv hla he] at gP
            exact nx h gP gS hN h1 h2 hl
          · refine va_put hx hb hts (rz_lay ci hci) (rz_ty ci) (rz_tok ci hci) (rz_nm ci hci) hown hK hP hD hS a hget (rz_inid hci).2.2 j hj2 (hts _ lk) (ref := rz_R ci) (fun _ h9 => by rw [← hdecl]; exact h9) (by simpa using hf9) (rz_tok ci hci j hj2) hn1 hn2 hjl hdec (fun H1 locs1 gP gD gS => ?_)
            rw [rz_pf_cv hla he] at gP
            exact nx h gP gS hN h1 h2 hl
        · exact h.elim
      · exact h.elim
    | iaload =>
      obtain ⟨rfl, h⟩ := h
      unfold rz_ald at h
      split at h
      · next i a s2 =>
        obtain ⟨n9, f, hv, hi, h⟩ := h
        obtain ⟨hla, he⟩ := rz_av_of hv
        have hget := rz_ws_get G b0 hla
        rw [he] at hget
        exact va_iald hx hb hK hP a 0 (cA := G.2.1) (n := n9) (f := f) hget rfl hi hdec (nx h hP hS hN h1 h2 hl)
      · exact h.elim
    | caload =>
      obtain ⟨rfl, h⟩ := h
      unfold rz_ald at h
      split at h
      · next i a s2 =>
        obtain ⟨n9, f, hv, hi, h⟩ := h
        obtain ⟨hla, he⟩ := rz_av_of hv
        have hget := rz_ws_get G b0 hla
        rw [he] at hget
        exact va_cald hx hb hK hP a 1 (cA := G.2.2.1) (n := n9) (f := f) hget rfl hi hdec (nx h hP hS hN h1 h2 hl)
      · exact h.elim
    | iastore =>
      obtain ⟨rfl, h⟩ := h
      unfold rz_ast at h
      split at h
      · next x i a s2 =>
        obtain ⟨n9, f, hv, hi, h⟩ := h
        obtain ⟨hla, he⟩ := rz_av_of hv
        have hget := rz_ws_get G b0 hla
        rw [he] at hget
        refine va_iast hx hb hK hP hD hS a 0 (cA := G.2.1) (n := n9) (f := f) hget rfl hi hdec (fun H1 locs1 gP gD gS => ?_)
        have e9 := rz_pa_cv (G := G) (b0 := b0) (g := upd f i.toNatClampNeg (x)) hla he
        exact nx h (by unfold rz_wd; rw [← e9]; exact gP) gS hN h1 h2 hl
      · exact h.elim
    | castore =>
      obtain ⟨rfl, h⟩ := h
      unfold rz_ast at h
      split at h
      · next x i a s2 =>
        obtain ⟨n9, f, hv, hi, h⟩ := h
        obtain ⟨hla, he⟩ := rz_av_of hv
        have hget := rz_ws_get G b0 hla
        rw [he] at hget
        refine va_cast hx hb hK hP hD hS a 1 (cA := G.2.2.1) (n := n9) (f := f) hget rfl hi hdec (fun H1 locs1 gP gD gS => ?_)
        have e9 := rz_pa_cv (G := G) (b0 := b0) (g := upd f i.toNatClampNeg (vp_nar .char x)) hla he
        exact nx h (by unfold rz_wd; rw [← e9]; exact gP) gS hN h1 h2 hl
      · exact h.elim
    | aaload =>
      obtain ⟨rfl, h⟩ := h
      unfold rz_aald at h
      split at h
      · next i a s2 =>
        obtain ⟨n9, f, hv, hi, h⟩ := h
        obtain ⟨hla, he⟩ := rz_qv_of hv
        have hget := rz_ws_get G b0 hla
        rw [he] at hget
        refine va_aldq hx hb hK hP a 2 (cA := G.2.2.2) (n := n9) (f := fun j => (f j).map (fun a => b0 + a)) hget rfl hi hdec ?_
        have e9 : va_rf ((f i.toNatClampNeg).map (fun a => b0 + a)) = rz_mv b0 (va_rf (f i.toNatClampNeg)) := by cases f i.toNatClampNeg <;> rfl
        rw [e9]
        exact nx h hP hS hN h1 h2 hl
      · exact h.elim
    | aastore =>
      obtain ⟨rfl, h⟩ := h
      unfold rz_aast at h
      split at h
      · next v i a s2 =>
        obtain ⟨n9, f, hv, hi, hc9, h⟩ := h
        obtain ⟨hla, he⟩ := rz_qv_of hv
        obtain ⟨hlv, fs, hev⟩ := rz_co_of hc9
        have hget := rz_ws_get G b0 hla
        rw [he] at hget
        have hgv := rz_ws_get G b0 hlv
        rw [hev] at hgv
        refine va_astq hx hb hK hP hD hS a 2 v 6 (cA := G.2.2.2) (n := n9) (f := fun j => (f j).map (fun a => b0 + a)) (r := (rz_R 6, rz_T 6, rz_N 6)) hget rfl hgv rfl hi hdec (fun H1 locs1 gP gD gS => ?_)
        have e9 := rz_pq_cv (G := G) (b0 := b0) (i := i.toNatClampNeg) (v := v) hla he
        exact nx h (by unfold rz_wd; rw [← e9]; exact gP) gS hN h1 h2 hl
      · exact h.elim
    | arraylength =>
      obtain ⟨rfl, h⟩ := h
      obtain ⟨a, s2, rfl, ⟨n9, hn9, h⟩, -⟩ := rz_r1_w h
      obtain ⟨hla, ⟨x, he, hx9⟩ | ⟨x, he, hx9⟩⟩ := rz_ln_of hn9
      · have hget := rz_ws_get G b0 hla
        rw [he] at hget
        by_cases ht : x.1 = 0
        · have hget : (rz_ws G b0 hp)[a]? = some (b0 + a, .inl (G.2.1, x.2.1, .inl x.2.2)) := by rw [hget]; show some (b0 + a, (Sum.inl (if x.1 = 0 then G.2.1 else G.2.2.1, x.2.1, .inl x.2.2) : va_E)) = _; rw [if_pos ht]
          exact va_alen hx hb hK hP a 0 hget (ty := .int) rfl (by show Int32.ofNat x.2.1 = Int32.ofNat n9; rw [hx9]) hdec (nx h hP hS hN h1 h2 hl)
        · have hget : (rz_ws G b0 hp)[a]? = some (b0 + a, .inl (G.2.2.1, x.2.1, .inl x.2.2)) := by rw [hget]; show some (b0 + a, (Sum.inl (if x.1 = 0 then G.2.1 else G.2.2.1, x.2.1, .inl x.2.2) : va_E)) = _; rw [if_neg ht]
          exact va_alen hx hb hK hP a 1 hget (ty := .char) rfl (by show Int32.ofNat x.2.1 = Int32.ofNat n9; rw [hx9]) hdec (nx h hP hS hN h1 h2 hl)
      · have hget := rz_ws_get G b0 hla
        rw [he] at hget
        exact va_alen hx hb hK hP a 2 hget (ty := .object "RisingPiles$State") rfl (by show Int32.ofNat x.1 = Int32.ofNat n9; rw [hx9]) hdec (nx h hP hS hN h1 h2 hl)
    | new index =>
      obtain ⟨rfl, h⟩ := h
      split at h
      · next ci ec =>
        obtain ⟨lk, hci⟩ := rz_news (rz_lk ec)
        obtain ⟨i1, i2, i3⟩ := rz_inid hci
        obtain ⟨r9, h9, ⟨-, e9⟩, m1, m2, -⟩ := rz_go_one _ _ _ _ _ _ _ _ h
        have m1 : hp.2.1 + 1 ≤ hp'.2.1 := by rw [← e9]; exact m1
        have m2 : hp.2.2 + rz_N ci ≤ hp'.2.2 := by rw [← e9]; exact m2
        refine va_new (ci := ci) (fs := (rz_dv ci).map (rz_mv b0)) hx hb hts (rz_lay ci hci) (rz_ty ci) (rz_tok ci hci) hown (hts _ lk) (hts _ i2) (hts _ i1) hK hP hD hS hA i3 (fun j hj => ?_) (by omega) (by omega) hdec (fun q H1 gP gD gS => ?_)
        · unfold vp_V rz_dv
          rw [List.getD_eq_getElem?_getD, List.map_map, List.getElem?_map, List.getElem?_range hj]
          show defaultValue (rz_ty ci j) = rz_mv b0 (defaultValue (rz_ty ci j))
          cases rz_ty ci j <;> rfl
        · refine rz_sized (fun hsz => ?_)
          have hq : q = b0 + hp.2.1 := rz_fresh gP gD (by omega)
          subst hq
          have e8 := rz_ws_push G b0 hp (.inr (.inr (ci, rz_dv ci))) (rz_N ci)
          exact nx (hp2 := rz_push hp (.inr (.inr (ci, rz_dv ci))) (rz_N ci)) h (by unfold rz_wd; rw [← e8]; exact gP) gS (by show s.heap.size + (cells + 1) = b0 + (hp.2.1 + 1); omega) (by show cells + 1 + hp'.2.1 = mc + (hp.2.1 + 1); omega) (by show slots + rz_N ci + hp'.2.2 = ms + (hp.2.2 + rz_N ci); omega) hl
      · exact h.elim
    | newarray t =>
      obtain ⟨rfl, h⟩ := h
      split at h
      · obtain ⟨x, s2, rfl, ⟨h0, h9, h⟩, -⟩ := rz_i1_w h
        obtain ⟨r9, h8, ⟨-, e9⟩, m1, m2, -⟩ := rz_go_one _ _ _ _ _ _ _ _ h
        have m1 : hp.2.1 + 1 ≤ hp'.2.1 := by rw [← e9]; exact m1
        have m2 : hp.2.2 + x.toNatClampNeg ≤ hp'.2.2 := by rw [← e9]; exact m2
        refine va_newa (atype := .int) (ty := .int) (a0 := (x.toNatClampNeg, .inl (fun _ => 0))) hx hb (hts _ (rz_in rz_w8.1 rfl)) rfl hK hP hD hS hA (fun cA => rfl) h0 rfl (Nat.le_trans (Nat.mul_le_mul_right _ h9) (Nat.le_of_ble_eq_true rfl)) (by omega) (by omega) hdec (fun q cA H1 gK gP gD gS => ?_)
        refine rz_sized (fun hsz => ?_)
        have hq : q = b0 + hp.2.1 := rz_fresh gP gD (by omega)
        subst hq
        have hcA : cA = G.2.1 := Option.some.inj ((gK.2 3 (cA, .int) rfl).2.symm.trans (gK.2 0 (G.2.1, .int) rfl).2)
        subst hcA
        have e8 := rz_ws_push G b0 hp (.inl (0, x.toNatClampNeg, fun _ => 0)) x.toNatClampNeg
        exact nx (hp2 := rz_push hp (.inl (0, x.toNatClampNeg, fun _ => 0)) x.toNatClampNeg) h (by unfold rz_wd; rw [← e8]; exact gP) gS (by show s.heap.size + (cells + 1) = b0 + (hp.2.1 + 1); omega) (by show cells + 1 + hp'.2.1 = mc + (hp.2.1 + 1); omega) (by show slots + x.toNatClampNeg + hp'.2.2 = ms + (hp.2.2 + x.toNatClampNeg); omega) hl
      · obtain ⟨x, s2, rfl, ⟨h0, h9, h⟩, -⟩ := rz_i1_w h
        obtain ⟨r9, h8, ⟨-, e9⟩, m1, m2, -⟩ := rz_go_one _ _ _ _ _ _ _ _ h
        have m1 : hp.2.1 + 1 ≤ hp'.2.1 := by rw [← e9]; exact m1
        have m2 : hp.2.2 + x.toNatClampNeg ≤ hp'.2.2 := by rw [← e9]; exact m2
        refine va_newa (atype := .char) (ty := .char) (a0 := (x.toNatClampNeg, .inl (fun _ => 0))) hx hb (hts _ (rz_in rz_w8.2.1 rfl)) rfl hK hP hD hS hA (fun cA => rfl) h0 rfl (Nat.le_trans (Nat.mul_le_mul_right _ h9) (Nat.le_of_ble_eq_true rfl)) (by omega) (by omega) hdec (fun q cA H1 gK gP gD gS => ?_)
        refine rz_sized (fun hsz => ?_)
        have hq : q = b0 + hp.2.1 := rz_fresh gP gD (by omega)
        subst hq
        have hcA : cA = G.2.2.1 := Option.some.inj ((gK.2 3 (cA, .char) rfl).2.symm.trans (gK.2 1 (G.2.2.1, .char) rfl).2)
        subst hcA
        have e8 := rz_ws_push G b0 hp (.inl (1, x.toNatClampNeg, fun _ => 0)) x.toNatClampNeg
        exact nx (hp2 := rz_push hp (.inl (1, x.toNatClampNeg, fun _ => 0)) x.toNatClampNeg) h (by unfold rz_wd; rw [← e8]; exact gP) gS (by show s.heap.size + (cells + 1) = b0 + (hp.2.1 + 1); omega) (by show cells + 1 + hp'.2.1 = mc + (hp.2.1 + 1); omega) (by show slots + x.toNatClampNeg + hp'.2.2 = ms + (hp.2.2 + x.toNatClampNeg); omega) hl
      · exact h.elim
    | anewarray index =>
      obtain ⟨rfl, ec, h⟩ := h
      obtain ⟨lk, hci⟩ := rz_news (rz_lk ec)
      obtain ⟨x, s2, rfl, ⟨h0, h9, h⟩, -⟩ := rz_i1_w h
      obtain ⟨r9, h8, ⟨-, e9⟩, m1, m2, -⟩ := rz_go_one _ _ _ _ _ _ _ _ h
      have m1 : hp.2.1 + 1 ≤ hp'.2.1 := by rw [← e9]; exact m1
      have m2 : hp.2.2 + x.toNatClampNeg ≤ hp'.2.2 := by rw [← e9]; exact m2
      refine va_newq (C := "RisingPiles$State") hx hb hown (hts _ lk) hE.2.2 hK hP hD hS hA h0 rfl (by omega) (by omega) (by omega) hdec (fun q cA H1 gK gP gD gS => ?_)
      refine rz_sized (fun hsz => ?_)
      have hq : q = b0 + hp.2.1 := rz_fresh gP gD (by omega)
      subst hq
      have hcA : cA = G.2.2.2 := rz_same_obj gK
      subst hcA
      have e8 := rz_ws_push G b0 hp (.inr (.inl (x.toNatClampNeg, fun _ => none))) x.toNatClampNeg
      exact nx (hp2 := rz_push hp (.inr (.inl (x.toNatClampNeg, fun _ => none))) x.toNatClampNeg) h (by unfold rz_wd; rw [← e8]; exact gP) gS (by show s.heap.size + (cells + 1) = b0 + (hp.2.1 + 1); omega) (by show cells + 1 + hp'.2.1 = mc + (hp.2.1 + 1); omega) (by show slots + x.toNatClampNeg + hp'.2.2 = ms + (hp.2.2 + x.toNatClampNeg); omega) hl
    | goto off =>
      obtain ⟨rfl, h⟩ := h
      obtain ⟨t, ht, h, -⟩ := rz_to_w h
      exact lv_goto hx hb hdec ht (nx h hP hS hN h1 h2 hl)
    | if_icmp c9 off =>
      obtain ⟨rfl, h⟩ := h
      obtain ⟨t, ht, h, -⟩ := rz_to_w h
      obtain ⟨x, y, s2, rfl, h, -⟩ := rz_i2_w h
      cases c9 with
      | eq => exact lv_icmp_eq hx hb hdec ht (fun hc => by dsimp only at h; rw [if_pos hc] at h; exact nx h hP hS hN h1 h2 hl) (fun hc => by dsimp only at h; rw [if_neg hc] at h; exact nx h hP hS hN h1 h2 hl)
      | ne => exact lv_icmp_ne hx hb hdec ht (fun hc => by dsimp only at h; rw [if_neg hc] at h; exact nx h hP hS hN h1 h2 hl) (fun hc => by dsimp only at h; rw [if_pos hc] at h; exact nx h hP hS hN h1 h2 hl)
      | lt => exact lv_icmp_lt hx hb hdec ht (fun hc => by dsimp only at h; rw [if_pos hc] at h; exact nx h hP hS hN h1 h2 hl) (fun hc => by dsimp only at h; rw [if_neg hc] at h; exact nx h hP hS hN h1 h2 hl)
      | ge => exact lv_icmp_ge hx hb hdec ht (fun hc => by dsimp only at h; rw [if_pos hc] at h; exact nx h hP hS hN h1 h2 hl) (fun hc => by dsimp only at h; rw [if_neg hc] at h; exact nx h hP hS hN h1 h2 hl)
      | gt => exact lv_icmp_gt hx hb hdec ht (fun hc => by dsimp only at h; rw [if_pos hc] at h; exact nx h hP hS hN h1 h2 hl) (fun hc => by dsimp only at h; rw [if_neg hc] at h; exact nx h hP hS hN h1 h2 hl)
      | le => exact lv_icmp_le hx hb hdec ht (fun hc => by dsimp only at h; rw [if_pos hc] at h; exact nx h hP hS hN h1 h2 hl) (fun hc => by dsimp only at h; rw [if_neg hc] at h; exact nx h hP hS hN h1 h2 hl)
    | ifCond c9 off =>
      obtain ⟨rfl, h⟩ := h
      obtain ⟨t, ht, h, -⟩ := rz_to_w h
      obtain ⟨x, s2, rfl, h, -⟩ := rz_i1_w h
      cases c9 with
      | eq => exact lv_if_eq hx hb hdec ht (fun hc => by dsimp only at h; rw [if_pos hc] at h; exact nx h hP hS hN h1 h2 hl) (fun hc => by dsimp only at h; rw [if_neg hc] at h; exact nx h hP hS hN h1 h2 hl)
      | ne => exact lv_if_ne hx hb hdec ht (fun hc => by dsimp only at h; rw [if_neg hc] at h; exact nx h hP hS hN h1 h2 hl) (fun hc => by dsimp only at h; rw [if_pos hc] at h; exact nx h hP hS hN h1 h2 hl)
      | lt => exact lv_if_lt hx hb hdec ht (fun hc => by dsimp only at h; rw [if_pos hc] at h; exact nx h hP hS hN h1 h2 hl) (fun hc => by dsimp only at h; rw [if_neg hc] at h; exact nx h hP hS hN h1 h2 hl)
      | ge => exact lv_if_ge hx hb hdec ht (fun hc => by dsimp only at h; rw [if_pos hc] at h; exact nx h hP hS hN h1 h2 hl) (fun hc => by dsimp only at h; rw [if_neg hc] at h; exact nx h hP hS hN h1 h2 hl)
      | gt => exact lv_if_gt hx hb hdec ht (fun hc => by dsimp only at h; rw [if_pos hc] at h; exact nx h hP hS hN h1 h2 hl) (fun hc => by dsimp only at h; rw [if_neg hc] at h; exact nx h hP hS hN h1 h2 hl)
      | le => exact lv_if_le hx hb hdec ht (fun hc => by dsimp only at h; rw [if_pos hc] at h; exact nx h hP hS hN h1 h2 hl) (fun hc => by dsimp only at h; rw [if_neg hc] at h; exact nx h hP hS hN h1 h2 hl)
    | ifnull off =>
      obtain ⟨rfl, h⟩ := h
      split at h
      · obtain ⟨t, ht, h, -⟩ := rz_to_w h
        exact lv_ifnullN hx hb hdec ht (nx h hP hS hN h1 h2 hl)
      · exact lv_ifnull hx hb hdec (nx h hP hS hN h1 h2 hl)
      · exact h.elim
    | ifnonnull off =>
      obtain ⟨rfl, h⟩ := h
      split at h
      · obtain ⟨t, ht, h, -⟩ := rz_to_w h
        exact lv_ifnonnull hx hb hdec ht (nx h hP hS hN h1 h2 hl)
      · exact lv_ifnonnullN hx hb hdec (nx h hP hS hN h1 h2 hl)
      · exact h.elim
    | tableswitch dflt lo hi offs =>
      obtain ⟨x, s2, rfl, h, -⟩ := rz_i1_w h
      split at h
      · next hc =>
        obtain ⟨t, ht, h, -⟩ := rz_to_w h
        exact lv_tableOut hx hb hdec hc ht (nx h hP hS hN h1 h2 hl)
      · next hc =>
        split at h
        · next off eo =>
          obtain ⟨t, ht, h, -⟩ := rz_to_w h
          exact lv_tableIn hx hb hdec (fun q => hc (Or.inl q)) (fun q => hc (Or.inr q)) eo ht (nx h hP hS hN h1 h2 hl)
        · exact h.elim
    | lookupswitch dflt ps =>
      obtain ⟨hps, h⟩ := h
      obtain ⟨x, s2, rfl, h, -⟩ := rz_i1_w h
      obtain ⟨t, ht, h, -⟩ := rz_to_w h
      exact lv_lookup hx hb hdec hps rfl ht (nx h hP hS hN h1 h2 hl)
    | invokevirtual index =>
      obtain ⟨rfl, h⟩ := h
      unfold rz_inv at h
      split at h
      · next k2 ek =>
        split at h
        · next b rest ed =>
          obtain ⟨hco, hnp, hall, hlen, -, hd0, hk2, h⟩ := h
          obtain ⟨hw, -, hkd, -⟩ := rz_calls (rz_lk ek)
          have hkd : rz_kd k2 = 0 := by rcases hkd with q | q | q; exact q; exact absurd q (by dsimp only; omega); exact absurd q.1 (by dsimp only; omega)
          obtain ⟨hlb, fsb, heb⟩ := rz_co_of hco
          have hgb := rz_ws_get G b0 hlb
          rw [heb] at hgb
          have hal := rz_onces hall
          have hargs : ∀ v ∈ (Value.ref b :: (st.take (rz_np k2)).reverse), rz_one v = true := fun v hv => by
            rcases List.mem_cons.mp hv with q | q
            · rw [q]; rfl
            · exact hal v (List.mem_of_mem_take (List.mem_reverse.mp q))
          have hy := rz_okY k2 hk2
          have hlenA : (Value.ref b :: (st.take (rz_np k2)).reverse).length ≤ rz_ML k2 := by
            have := hy.2.2.2.2.2.1
            rw [hkd] at this
            simp at this ⊢
            omega
          obtain ⟨r1, hp1, g1, m1, m2, g4⟩ := rz_go_one _ _ _ _ _ _ _ _ h
          obtain ⟨r9, h9, ⟨-, e9⟩, n1, n2, -⟩ := rz_go_one _ _ _ _ _ _ _ _ g1
          have n1 : hp1.2.1 ≤ hp'.2.1 := by rw [← e9]; exact n1
          have n2 : hp1.2.2 ≤ hp'.2.2 := by rw [← e9]; exact n2
          have hM := rz_met ih (g4 (fun r1' h1' => r1' = r1 ∧ h1' = hp1) ⟨rfl, rfl⟩) hk2 hargs hlenA l G b0 (hp1.2.1 - hp.2.1) (hp1.2.2 - hp.2.2) (by omega) (by omega)
          have hst : st.map (rz_mv b0) = (((st.take (rz_np k2)).reverse).map (rz_mv b0)).reverse ++ .ref (b0 + b) :: rest.map (rz_mv b0) := by
            have := rz_split (b0 := b0) (n := rz_np k2) (st := st)
            rw [ed] at this
            exact this
          have hrest : rest.all rz_one = true := List.all_eq_true.mpr fun v hv => hal v (List.mem_of_mem_drop (by rw [ed]; exact List.mem_cons_of_mem _ hv))
          have hcb : CallW R s args (rz_R (rz_K k)) (rz_R (rz_K k2)) index (rz_Y k2) (rz_B k2) (rz_ML k2) (rz_RT k2) (rz_wk k2) (rz_rm (d - 1) (hp1.2.1 - hp.2.1) (hp1.2.2 - hp.2.2)) (hp1.2.1 - hp.2.1) (hp1.2.2 - hp.2.2) (rz_np k2) := by
            have hM2 := rz_okM k2 hk2
            refine ⟨rz_cb hts hk2 (hts _ (rz_in hw rfl)) (by omega) (by omega), hts _ (rz_mem (hM2.2.1 (by omega)) rfl), ?_⟩
            have := hts _ (rz_mem (hM2.2.2 hkd) rfl)
            rw [hy.1] at this
            exact this
          refine rz_sized (fun hsz => ?_)
          refine rz_back (mc := hp1.2.1 - hp.2.1) (ms := hp1.2.2 - hp.2.2) (r := r1) (hp' := hp1) (rest := rest.map (rz_mv b0)) (va_runV (As := ((st.take (rz_np k2)).reverse).map (rz_mv b0)) ⟨hx, hb, hml, hown, hts⟩ hM hcb ⟨rz_pc_blind, va_recv hK hP (rz_inid hy.2.1).2.2 hgb, fun U hU hW => ⟨rfl, by rw [hU]; exact rz_size hP hS hb0 (by omega), by rw [hU]; exact hP, rz_env.warm hW hE⟩⟩ rfl (by simp; omega) hl.2.2.1 hst (lv_room (by rw [rz_cats hrest]; exact hlen)) hdec ⟨by omega, by omega⟩) hS (fun H1 locs1 gP gS => ?_)
          have e8 : (r1.map (rz_mv b0)).toList ++ rest.map (rz_mv b0) = (r1.toList ++ rest).map (rz_mv b0) := by cases r1 <;> rfl
          rw [e8]
          exact nx g1 gP gS (by omega) (by omega) (by omega) hl
        · exact h.elim
      · exact h.elim
    | invokespecial index =>
      obtain ⟨rfl, h⟩ := h
      unfold rz_ins at h
      split at h
      · next k2 ek =>
        split at h
        · next b rest ed =>
          obtain ⟨hnp, hall, hlen, -, hd0, hk2, h⟩ := h
          obtain ⟨hw, -, hkd, -⟩ := rz_calls (rz_lk ek)
          have hkd : rz_kd k2 = 2 := by rcases hkd with q | q | q; exact q; exact absurd q (by dsimp only; omega); exact absurd q.1 (by dsimp only; omega)
          have hal := rz_onces hall
          have hargs : ∀ v ∈ (Value.ref b :: (st.take (rz_np k2)).reverse), rz_one v = true := fun v hv => by
            rcases List.mem_cons.mp hv with q | q
            · rw [q]; rfl
            · exact hal v (List.mem_of_mem_take (List.mem_reverse.mp q))
          have hy := rz_okY k2 hk2
          have hlenA : (Value.ref b :: (st.take (rz_np k2)).reverse).length ≤ rz_ML k2 := by
            have := hy.2.2.2.2.2.1
            rw [hkd] at this
            simp at this ⊢
            omega
          obtain ⟨r1, hp1, g1, m1, m2, g4⟩ := rz_go_one _ _ _ _ _ _ _ _ h
          obtain ⟨r9, h9, ⟨-, e9⟩, n1, n2, -⟩ := rz_go_one _ _ _ _ _ _ _ _ g1
          have n1 : hp1.2.1 ≤ hp'.2.1 := by rw [← e9]; exact n1
          have n2 : hp1.2.2 ≤ hp'.2.2 := by rw [← e9]; exact n2
          have hM := rz_met ih (g4 (fun r1' h1' => r1' = r1 ∧ h1' = hp1) ⟨rfl, rfl⟩) hk2 hargs hlenA l G b0 (hp1.2.1 - hp.2.1) (hp1.2.2 - hp.2.2) (by omega) (by omega)
          have hst : st.map (rz_mv b0) = (((st.take (rz_np k2)).reverse).map (rz_mv b0)).reverse ++ .ref (b0 + b) :: rest.map (rz_mv b0) := by
            have := rz_split (b0 := b0) (n := rz_np k2) (st := st)
            rw [ed] at this
            exact this
          have hrest : rest.all rz_one = true := List.all_eq_true.mpr fun v hv => hal v (List.mem_of_mem_drop (by rw [ed]; exact List.mem_cons_of_mem _ hv))
          have hini := hy.2.2.2.2.2.2.1 hkd
          have hcb : CallB R s args (rz_R (rz_K k)) index (rz_Y k2) (rz_B k2) (rz_ML k2) none (rz_wk k2) (rz_rm (d - 1) (hp1.2.1 - hp.2.1) (hp1.2.2 - hp.2.2)) (hp1.2.1 - hp.2.1) (hp1.2.2 - hp.2.2) (rz_np k2) ∧ (rz_Y k2).name = "<init>" ∧ (Cond.instanceMethod (rz_Y k2)).before args s = true := by
            have hM2 := rz_okM k2 hk2
            have q1 := rz_cb (R := R) (d := d - 1) (mc := hp1.2.1 - hp.2.1) (ms := hp1.2.2 - hp.2.2) hts hk2 (hts _ (rz_in hw rfl)) (by omega) (by omega)
            rw [hini.2] at q1
            exact ⟨q1, hini.1, hts _ (rz_mem (hM2.2.1 (by omega)) rfl)⟩
          refine rz_sized (fun hsz => ?_)
          refine rz_back (mc := hp1.2.1 - hp.2.1) (ms := hp1.2.2 - hp.2.2) (r := r1) (hp' := hp1) (rest := rest.map (rz_mv b0)) (va_runI (As := ((st.take (rz_np k2)).reverse).map (rz_mv b0)) ⟨hx, hb, hml, hown, hts⟩ hM hcb ⟨rz_pc_blind, fun U hU hW => ⟨rfl, by rw [hU]; exact rz_size hP hS hb0 (by omega), by rw [hU]; exact hP, rz_env.warm hW hE⟩⟩ rfl (by simp; omega) hl.2.2.1 hst (lv_room (by rw [rz_cats hrest]; exact hlen)) hdec ⟨by omega, by omega⟩) hS (fun H1 locs1 gP gS => ?_)
          have e8 : (r1.map (rz_mv b0)).toList ++ rest.map (rz_mv b0) = (r1.toList ++ rest).map (rz_mv b0) := by cases r1 <;> rfl
          rw [e8]
          exact nx g1 gP gS (by omega) (by omega) (by omega) hl
        · exact h.elim
      · next k2 ek =>
        split at h
        · next b rest =>
          obtain ⟨hrest, hlen, hd0, h⟩ := h
          obtain ⟨hw, -, -, -⟩ := rz_calls (rz_lk ek)
          refine W.objInit hx hb hown (hts _ (rz_in hw rfl)) (hts _ (rz_in rz_w7.1 rfl)) (hts _ (rz_in rz_w7.2 rfl)) rfl (by rw [hml]; exact hl.2.2.1) rfl hdec (by omega) ?_ ?_
          · show 2 * 0 + ((rest.map (rz_mv b0)).map fun v => v.category).sum + 12 ≤ R.locals
            rw [rz_cats hrest]
            omega
          · exact W.eq rfl (nx h hP hS hN h1 h2 hl)
        · exact h.elim
      · exact h.elim
    | invokestatic index =>
      obtain ⟨rfl, h⟩ := h
      unfold rz_inS at h
      split at h
      · next k2 ek =>
        obtain ⟨hnp, hall, hlen, -, hd0, hk2, h⟩ := h
        obtain ⟨hw, -, hkd, -⟩ := rz_calls (rz_lk ek)
        have hkd : rz_kd k2 = 1 := by rcases hkd with q | q | q; exact q; exact absurd q (by dsimp only; omega); exact q.2
        have hal := rz_onces hall
        have hargs : ∀ v ∈ (st.take (rz_np k2)).reverse, rz_one v = true := fun v hv => hal v (List.mem_of_mem_take (List.mem_reverse.mp hv))
        have hy := rz_okY k2 hk2
        have hlenA : ((st.take (rz_np k2)).reverse).length ≤ rz_ML k2 := by
          have := hy.2.2.2.2.2.1
          rw [hkd] at this
          simp at this ⊢
          omega
        obtain ⟨r1, hp1, g1, m1, m2, g4⟩ := rz_go_one _ _ _ _ _ _ _ _ h
        obtain ⟨r9, h9, ⟨-, e9⟩, n1, n2, -⟩ := rz_go_one _ _ _ _ _ _ _ _ g1
        have n1 : hp1.2.1 ≤ hp'.2.1 := by rw [← e9]; exact n1
        have n2 : hp1.2.2 ≤ hp'.2.2 := by rw [← e9]; exact n2
        have hM := rz_met ih (g4 (fun r1' h1' => r1' = r1 ∧ h1' = hp1) ⟨rfl, rfl⟩) hk2 hargs hlenA l G b0 (hp1.2.1 - hp.2.1) (hp1.2.2 - hp.2.2) (by omega) (by omega)
        have hst : st.map (rz_mv b0) = (((st.take (rz_np k2)).reverse).map (rz_mv b0)).reverse ++ (st.drop (rz_np k2)).map (rz_mv b0) := rz_split
        have hrest : (st.drop (rz_np k2)).all rz_one = true := List.all_eq_true.mpr fun v hv => hal v (List.mem_of_mem_drop hv)
        have hst1 : (Cond.static (rz_Y k2)).before args s = true := hts _ (rz_mem ((rz_okM k2 hk2).1 hkd) rfl)
        refine rz_sized (fun hsz => ?_)
        refine rz_back (mc := hp1.2.1 - hp.2.1) (ms := hp1.2.2 - hp.2.2) (r := r1) (hp' := hp1) (rest := (st.drop (rz_np k2)).map (rz_mv b0)) (va_runS (As := ((st.take (rz_np k2)).reverse).map (rz_mv b0)) ⟨hx, hb, hml, hown, hts⟩ hM ⟨rz_cb hts hk2 (hts _ (rz_in hw rfl)) (by omega) (by omega), hst1⟩ ⟨rz_pc_blind, fun U hU hW => ⟨rfl, by rw [hU]; exact rz_size hP hS hb0 (by omega), by rw [hU]; exact hP, rz_env.warm hW hE⟩⟩ rfl (by simp; omega) hl.2.2.1 hst (lv_room (by rw [rz_cats hrest]; exact hlen)) hdec ⟨by omega, by omega⟩) hS (fun H1 locs1 gP gS => ?_)
        have e8 : (r1.map (rz_mv b0)).toList ++ (st.drop (rz_np k2)).map (rz_mv b0) = (r1.toList ++ st.drop (rz_np k2)).map (rz_mv b0) := by cases r1 <;> simp
        rw [e8]
        exact nx g1 gP gS (by omega) (by omega) (by omega) hl
      · next k2 ek =>
        obtain ⟨hnp, hall, hlen, -, hd0, hk2, h⟩ := h
        obtain ⟨hw, -, hkd, -⟩ := rz_calls (rz_lk ek)
        have hkd : rz_kd k2 = 1 := by rcases hkd with q | q | q; exact absurd q (by dsimp only; exact fun q9 => rz_kd3 k2 hk2 q9); exact absurd q (by dsimp only; omega); exact q.2
        have hal := rz_onces hall
        have hargs : ∀ v ∈ (st.take (rz_np k2)).reverse, rz_one v = true := fun v hv => hal v (List.mem_of_mem_take (List.mem_reverse.mp hv))
        have hy := rz_okY k2 hk2
        have hlenA : ((st.take (rz_np k2)).reverse).length ≤ rz_ML k2 := by
          have := hy.2.2.2.2.2.1
          rw [hkd] at this
          simp at this ⊢
          omega
        obtain ⟨r1, hp1, g1, m1, m2, g4⟩ := rz_go_one _ _ _ _ _ _ _ _ h
        obtain ⟨r9, h9, ⟨-, e9⟩, n1, n2, -⟩ := rz_go_one _ _ _ _ _ _ _ _ g1
        have n1 : hp1.2.1 ≤ hp'.2.1 := by rw [← e9]; exact n1
        have n2 : hp1.2.2 ≤ hp'.2.2 := by rw [← e9]; exact n2
        have hM := rz_met ih (g4 (fun r1' h1' => r1' = r1 ∧ h1' = hp1) ⟨rfl, rfl⟩) hk2 hargs hlenA l G b0 (hp1.2.1 - hp.2.1) (hp1.2.2 - hp.2.2) (by omega) (by omega)
        have hst : st.map (rz_mv b0) = (((st.take (rz_np k2)).reverse).map (rz_mv b0)).reverse ++ (st.drop (rz_np k2)).map (rz_mv b0) := rz_split
        have hrest : (st.drop (rz_np k2)).all rz_one = true := List.all_eq_true.mpr fun v hv => hal v (List.mem_of_mem_drop hv)
        have hst1 : (Cond.static (rz_Y k2)).before args s = true := hts _ (rz_mem ((rz_okM k2 hk2).1 hkd) rfl)
        refine rz_sized (fun hsz => ?_)
        refine rz_back (mc := hp1.2.1 - hp.2.1) (ms := hp1.2.2 - hp.2.2) (r := r1) (hp' := hp1) (rest := (st.drop (rz_np k2)).map (rz_mv b0)) (va_runSN (As := ((st.take (rz_np k2)).reverse).map (rz_mv b0)) ⟨hx, hb, hml, hown, hts⟩ hM ⟨rz_cbN hts hk2 (hE.2.1 _ (rz_lk ek) rfl) (by omega) (by omega), hst1, trivial⟩ ⟨rz_pc_blind, fun U hU hW => ⟨rfl, by rw [hU]; exact rz_size hP hS hb0 (by omega), by rw [hU]; exact hP, rz_env.warm hW hE⟩⟩ rfl (by simp; omega) hl.2.2.1 hst (lv_room (by rw [rz_cats hrest]; exact hlen)) hdec ⟨by omega, by omega⟩) hS (fun H1 locs1 gP gS => ?_)
        have e8 : (r1.map (rz_mv b0)).toList ++ (st.drop (rz_np k2)).map (rz_mv b0) = (r1.toList ++ st.drop (rz_np k2)).map (rz_mv b0) := by cases r1 <;> simp
        rw [e8]
        exact nx g1 gP gS (by omega) (by omega) (by omega) hl
      · next k2 ek =>
        unfold rz_cpS at h
        split at h
        · next n9 dp a sp a0 rest =>
          obtain ⟨hrest, hlen, hd0, n0, f, n1, g, ha0, ha1, q1, q2, q3, q4, q5, h⟩ := h
          obtain ⟨hw, -, -, -⟩ := rz_calls (rz_lk ek)
          obtain ⟨hl0, he0⟩ := rz_av_of ha0
          obtain ⟨hl1, he1⟩ := rz_av_of ha1
          have hget0 := rz_ws_get G b0 hl0
          rw [he0] at hget0
          have hget1 := rz_ws_get G b0 hl1
          rw [he1] at hget1
          refine va_copyi hx hb (by rw [hml]; exact hl.2.2.1.symm) hown (hts _ (rz_in hw rfl)) (hts _ (rz_in rz_w1 rfl)) (hts _ (rz_in rz_w2 rfl)) (hts _ (rz_in rz_w3 rfl)) hK hP hD hS a0 a 0 0 (c0 := G.2.1) (c1 := G.2.1) (n0 := n0) (n1 := n1) (f := f) (g := g) (ty := .int) hget0 hget1 rfl rfl rfl q1 q2 q3 q4 q5 (fun i hi => rfl) (by omega) (by rw [rz_cats hrest]; show rest.length + (7 + 11) ≤ _; omega) hdec (fun H1 locs1 gP gD gS => ?_)
          have e9 := rz_pa_cv (G := G) (b0 := b0) (g := va_cpy f g sp.toNatClampNeg dp.toNatClampNeg n9.toNatClampNeg) hl1 he1
          exact nx h (by unfold rz_wd; rw [← e9]; exact gP) gS hN h1 h2 hl
        · exact h.elim
      · next k2 ek =>
        obtain ⟨x, y, s2, rfl, ⟨hrest, hlen, hd0, h⟩, -⟩ := rz_i2_w h
        obtain ⟨hw, -, -, -⟩ := rz_calls (rz_lk ek)
        exact va_mmin hx hb (by rw [hml]; exact hl.2.2.1.symm) hown (hts _ (rz_in hw rfl)) (hts _ (rz_in rz_w5.1 rfl)) (hts _ (rz_in rz_w4 rfl)) (hts _ (rz_in rz_w5.2 rfl)) (by omega) (by rw [rz_cats hrest]; omega) (by omega) (by omega) hdec (nx h hP hS hN h1 h2 hl)
      · next k2 ek =>
        obtain ⟨x, y, s2, rfl, ⟨hrest, hlen, hd0, h⟩, -⟩ := rz_i2_w h
        obtain ⟨hw, -, -, -⟩ := rz_calls (rz_lk ek)
        exact va_mmax hx hb (by rw [hml]; exact hl.2.2.1.symm) hown (hts _ (rz_in hw rfl)) (hts _ (rz_in rz_w6.1 rfl)) (hts _ (rz_in rz_w4 rfl)) (hts _ (rz_in rz_w6.2 rfl)) (by omega) (by rw [rz_cats hrest]; omega) (by omega) (by omega) hdec (nx h hP hS hN h1 h2 hl)
      · exact h.elim
    | ireturn =>
      obtain ⟨rfl, h⟩ := h
      unfold rz_iret at h
      split at h
      · next v =>
        split at h
        · next er =>
          obtain ⟨rfl, rfl⟩ := h
          have e1 : cells = mc := by omega
          have e2 : slots = ms := by omega
          subst e1; subst e2
          exact W.iret (v := v) hx hb (hret.trans er) (fun t ht hW => ⟨⟨rfl, by rw [ht]; exact hP⟩, hS.F ht⟩) hS.2.2 hdec hlocks
        · next er =>
          obtain ⟨hv, rfl, rfl⟩ := h
          have e1 : cells = mc := by omega
          have e2 : slots = ms := by omega
          subst e1; subst e2
          exact W.zret (v := v) hx hb (hret.trans er) (by rcases hv with rfl | rfl <;> rfl) (fun t ht hW => ⟨⟨rfl, by rw [ht]; exact hP⟩, hS.F ht⟩) hS.2.2 hdec hlocks
        · exact h.elim
      · exact h.elim
    | areturn =>
      obtain ⟨rfl, h⟩ := h
      unfold rz_aret at h
      split at h
      · obtain ⟨h9, rfl, rfl⟩ := h
        have e1 : cells = mc := by omega
        have e2 : slots = ms := by omega
        subst e1; subst e2
        unfold rz_arT at h9
        split at h9
        · next n9 er => exact W.aret hx hb (hret.trans er) (Or.inl ⟨n9, rfl⟩) (Or.inr ⟨_, rfl⟩) (fun t ht hW => ⟨⟨rfl, by rw [ht]; exact hP⟩, hS.F ht⟩) hS.2.2 hdec hlocks
        · exact h9.elim
      · obtain ⟨h9, rfl, rfl⟩ := h
        have e1 : cells = mc := by omega
        have e2 : slots = ms := by omega
        subst e1; subst e2
        unfold rz_arT at h9
        split at h9
        · next n9 er => exact W.aret hx hb (hret.trans er) (Or.inl ⟨n9, rfl⟩) (Or.inl rfl) (fun t ht hW => ⟨⟨rfl, by rw [ht]; exact hP⟩, hS.F ht⟩) hS.2.2 hdec hlocks
        · exact h9.elim
      · exact h.elim
    | return_ =>
      obtain ⟨rfl, rfl, er, rfl, rfl⟩ := h
      have e1 : cells = mc := by omega
      have e2 : slots = ms := by omega
      subst e1; subst e2
      exact W.vret hx hb (hret.trans er) (fun t ht hW => ⟨⟨rfl, by rw [ht]; exact hP⟩, hS.F ht⟩) hS.2.2 hdec hlocks
    | _ => exact False.elim h
end
section
theorem rz_end : True := trivial
end
