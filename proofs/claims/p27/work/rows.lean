section
-- ===== PART A: goes FIRST, ahead of the names: the tables' words, and 'selects' of the private methods out of them =====
/-- a private method of a class that the tables say can be made, by its rows of tables_1 -/
def lw_okq (q : MethodName × Nat) : Prop := (q.1.cls ≠ "java/lang/invoke/MethodHandle" ∧ q.1.cls ≠ "java/lang/invoke/VarHandle") ∧ Cond.instantiable q.1.cls q.2 ∈ tables_1 ∧ Cond.privateMethod q.1 ∈ tables_1 ∧ Cond.instanceMethod q.1 ∈ tables_1
theorem lw_p0 : lw_okq (⟨"RisingPiles", "recorded", "(I)I"⟩, 10) := ⟨⟨by decide +kernel, by decide +kernel⟩, List.mem_of_getElem? (i := 13) (by decide +kernel), List.mem_of_getElem? (i := 282) (by decide +kernel), List.mem_of_getElem? (i := 283) (by decide +kernel)⟩
theorem lw_p1 : lw_okq (⟨"RisingPiles$History", "dropOldest", "()V"⟩, 2) := ⟨⟨by decide +kernel, by decide +kernel⟩, List.mem_of_getElem? (i := 119) (by decide +kernel), List.mem_of_getElem? (i := 290) (by decide +kernel), List.mem_of_getElem? (i := 291) (by decide +kernel)⟩
theorem lw_p2 : lw_okq (⟨"RisingPiles$History", "stateAt", "(I)LRisingPiles$State;"⟩, 2) := ⟨⟨by decide +kernel, by decide +kernel⟩, List.mem_of_getElem? (i := 119) (by decide +kernel), List.mem_of_getElem? (i := 294) (by decide +kernel), List.mem_of_getElem? (i := 295) (by decide +kernel)⟩
theorem lw_p3 : lw_okq (⟨"RisingPiles$Piles", "has", "(I)Z"⟩, 8) := ⟨⟨by decide +kernel, by decide +kernel⟩, List.mem_of_getElem? (i := 27) (by decide +kernel), List.mem_of_getElem? (i := 315) (by decide +kernel), List.mem_of_getElem? (i := 316) (by decide +kernel)⟩
theorem lw_p4 : lw_okq (⟨"RisingPiles$Roads", "setLength", "(III)V"⟩, 2) := ⟨⟨by decide +kernel, by decide +kernel⟩, List.mem_of_getElem? (i := 81) (by decide +kernel), List.mem_of_getElem? (i := 405) (by decide +kernel), List.mem_of_getElem? (i := 406) (by decide +kernel)⟩
theorem lw_p5 : lw_okq (⟨"RisingPiles$Piles", "rankAt", "(I)I"⟩, 8) := ⟨⟨by decide +kernel, by decide +kernel⟩, List.mem_of_getElem? (i := 27) (by decide +kernel), List.mem_of_getElem? (i := 564) (by decide +kernel), List.mem_of_getElem? (i := 565) (by decide +kernel)⟩
theorem lw_p6 : lw_okq (⟨"RisingPiles$Search", "clear", "()V"⟩, 5) := ⟨⟨by decide +kernel, by decide +kernel⟩, List.mem_of_getElem? (i := 171) (by decide +kernel), List.mem_of_getElem? (i := 576) (by decide +kernel), List.mem_of_getElem? (i := 577) (by decide +kernel)⟩
theorem lw_p7 : lw_okq (⟨"RisingPiles$Search", "bringIn", "(II)V"⟩, 5) := ⟨⟨by decide +kernel, by decide +kernel⟩, List.mem_of_getElem? (i := 171) (by decide +kernel), List.mem_of_getElem? (i := 584) (by decide +kernel), List.mem_of_getElem? (i := 585) (by decide +kernel)⟩
theorem lw_p8 : lw_okq (⟨"RisingPiles$Search", "letOut", "(LRisingPiles$Roads;)V"⟩, 5) := ⟨⟨by decide +kernel, by decide +kernel⟩, List.mem_of_getElem? (i := 171) (by decide +kernel), List.mem_of_getElem? (i := 590) (by decide +kernel), List.mem_of_getElem? (i := 591) (by decide +kernel)⟩
theorem lw_p9 : lw_okq (⟨"RisingPiles$Search", "followRoads", "(IILRisingPiles$Roads;)V"⟩, 5) := ⟨⟨by decide +kernel, by decide +kernel⟩, List.mem_of_getElem? (i := 171) (by decide +kernel), List.mem_of_getElem? (i := 601) (by decide +kernel), List.mem_of_getElem? (i := 602) (by decide +kernel)⟩
theorem lw_p10 : lw_okq (⟨"RisingPiles$Orders", "readOrder", "(LRisingPiles$Text;)Z"⟩, 5) := ⟨⟨by decide +kernel, by decide +kernel⟩, List.mem_of_getElem? (i := 149) (by decide +kernel), List.mem_of_getElem? (i := 664) (by decide +kernel), List.mem_of_getElem? (i := 665) (by decide +kernel)⟩
theorem lw_p11 : lw_okq (⟨"RisingPiles$Orders", "readComeIn", "(LRisingPiles$Text;)Z"⟩, 5) := ⟨⟨by decide +kernel, by decide +kernel⟩, List.mem_of_getElem? (i := 149) (by decide +kernel), List.mem_of_getElem? (i := 672) (by decide +kernel), List.mem_of_getElem? (i := 673) (by decide +kernel)⟩
theorem lw_p12 : lw_okq (⟨"RisingPiles$Orders", "readNumber", "(LRisingPiles$Text;I)I"⟩, 5) := ⟨⟨by decide +kernel, by decide +kernel⟩, List.mem_of_getElem? (i := 149) (by decide +kernel), List.mem_of_getElem? (i := 677) (by decide +kernel), List.mem_of_getElem? (i := 678) (by decide +kernel)⟩
theorem lw_p13 : lw_okq (⟨"RisingPiles$Orders", "put", "(CII)Z"⟩, 5) := ⟨⟨by decide +kernel, by decide +kernel⟩, List.mem_of_getElem? (i := 149) (by decide +kernel), List.mem_of_getElem? (i := 684) (by decide +kernel), List.mem_of_getElem? (i := 685) (by decide +kernel)⟩
theorem lw_p14 : lw_okq (⟨"RisingPiles$Orders", "readComeOut", "()Z"⟩, 5) := ⟨⟨by decide +kernel, by decide +kernel⟩, List.mem_of_getElem? (i := 149) (by decide +kernel), List.mem_of_getElem? (i := 688) (by decide +kernel), List.mem_of_getElem? (i := 689) (by decide +kernel)⟩
theorem lw_p15 : lw_okq (⟨"RisingPiles$Orders", "readTakeBack", "(LRisingPiles$Text;)Z"⟩, 5) := ⟨⟨by decide +kernel, by decide +kernel⟩, List.mem_of_getElem? (i := 149) (by decide +kernel), List.mem_of_getElem? (i := 692) (by decide +kernel), List.mem_of_getElem? (i := 693) (by decide +kernel)⟩
def lw_privs_1 : List (MethodName × Nat) := [(⟨"RisingPiles", "recorded", "(I)I"⟩, 10), (⟨"RisingPiles$History", "dropOldest", "()V"⟩, 2), (⟨"RisingPiles$History", "stateAt", "(I)LRisingPiles$State;"⟩, 2), (⟨"RisingPiles$Piles", "has", "(I)Z"⟩, 8), (⟨"RisingPiles$Roads", "setLength", "(III)V"⟩, 2), (⟨"RisingPiles$Piles", "rankAt", "(I)I"⟩, 8), (⟨"RisingPiles$Search", "clear", "()V"⟩, 5), (⟨"RisingPiles$Search", "bringIn", "(II)V"⟩, 5), (⟨"RisingPiles$Search", "letOut", "(LRisingPiles$Roads;)V"⟩, 5), (⟨"RisingPiles$Search", "followRoads", "(IILRisingPiles$Roads;)V"⟩, 5), (⟨"RisingPiles$Orders", "readOrder", "(LRisingPiles$Text;)Z"⟩, 5), (⟨"RisingPiles$Orders", "readComeIn", "(LRisingPiles$Text;)Z"⟩, 5), (⟨"RisingPiles$Orders", "readNumber", "(LRisingPiles$Text;I)I"⟩, 5), (⟨"RisingPiles$Orders", "put", "(CII)Z"⟩, 5), (⟨"RisingPiles$Orders", "readComeOut", "()Z"⟩, 5), (⟨"RisingPiles$Orders", "readTakeBack", "(LRisingPiles$Text;)Z"⟩, 5)]
theorem lw_r1 : ∀ q ∈ lw_privs_1, lw_okq q := List.forall_mem_cons.mpr ⟨lw_p0, List.forall_mem_cons.mpr ⟨lw_p1, List.forall_mem_cons.mpr ⟨lw_p2, List.forall_mem_cons.mpr ⟨lw_p3, List.forall_mem_cons.mpr ⟨lw_p4, List.forall_mem_cons.mpr ⟨lw_p5, List.forall_mem_cons.mpr ⟨lw_p6, List.forall_mem_cons.mpr ⟨lw_p7, List.forall_mem_cons.mpr ⟨lw_p8, List.forall_mem_cons.mpr ⟨lw_p9, List.forall_mem_cons.mpr ⟨lw_p10, List.forall_mem_cons.mpr ⟨lw_p11, List.forall_mem_cons.mpr ⟨lw_p12, List.forall_mem_cons.mpr ⟨lw_p13, List.forall_mem_cons.mpr ⟨lw_p14, List.forall_mem_cons.mpr ⟨lw_p15, fun _ h => absurd h List.not_mem_nil⟩⟩⟩⟩⟩⟩⟩⟩⟩⟩⟩⟩⟩⟩⟩⟩
theorem lw_p16 : lw_okq (⟨"RisingPiles$Orders", "readMakeLess", "(LRisingPiles$Text;)Z"⟩, 5) := ⟨⟨by decide +kernel, by decide +kernel⟩, List.mem_of_getElem? (i := 149) (by decide +kernel), List.mem_of_getElem? (i := 696) (by decide +kernel), List.mem_of_getElem? (i := 697) (by decide +kernel)⟩
theorem lw_p17 : lw_okq (⟨"RisingPiles$Orders", "has", "(I)Z"⟩, 5) := ⟨⟨by decide +kernel, by decide +kernel⟩, List.mem_of_getElem? (i := 149) (by decide +kernel), List.mem_of_getElem? (i := 708) (by decide +kernel), List.mem_of_getElem? (i := 709) (by decide +kernel)⟩
def lw_privs_2 : List (MethodName × Nat) := [(⟨"RisingPiles$Orders", "readMakeLess", "(LRisingPiles$Text;)Z"⟩, 5), (⟨"RisingPiles$Orders", "has", "(I)Z"⟩, 5)]
theorem lw_r2 : ∀ q ∈ lw_privs_2, lw_okq q := List.forall_mem_cons.mpr ⟨lw_p16, List.forall_mem_cons.mpr ⟨lw_p17, fun _ h => absurd h List.not_mem_nil⟩⟩
def lw_privs : List (MethodName × Nat) := lw_privs_1 ++ (lw_privs_2)
def lw_tbl : List Cond := k2_sels lw_privs ++ tables_1
theorem lw_privs_ok : ∀ q ∈ lw_privs, lw_okq q := by
  show ∀ q ∈ lw_privs_1 ++ (lw_privs_2), lw_okq q
  exact List.forall_mem_append.mpr ⟨lw_r1, lw_r2⟩

def rz_tbl : List Cond := lw_tbl.filter goodWord
theorem rz_in {w : Cond} (h : w ∈ lw_tbl) (g : goodWord w = true) : w ∈ rz_tbl := List.mem_filter.mpr ⟨h, g⟩
theorem rz_goodIn {ws : List Cond} (h : ∀ w ∈ ws, w ∈ rz_tbl) : GoodIn rz_tbl ws := fun w hw => ⟨h w hw, good_of_word (List.mem_filter.mp (h w hw)).2⟩
-- names: the classes by number, their fields in the order of the slots, their types
def rz_R0 : String := "RisingPiles$History"
def rz_T0 : u_T := fun k => match k with
  | 0 => ("RisingPiles$History", "states", "[LRisingPiles$State;", true)
  | _ => ("RisingPiles$History", "held", "I", false)
def rz_ty0 : Nat → FieldType := fun k => match k with
  | 0 => .array (.object "RisingPiles$State")
  | _ => .int
theorem rz_nm0 : ∀ a, a < 2 → ∀ b, b < 2 → a ≠ b → (rz_T0 a).2.1 ≠ (rz_T0 b).2.1 := by decide +kernel
theorem rz_tok0 : ∀ k, k < 2 → parseFieldDescriptor (rz_T0 k).2.2.1 = some (rz_ty0 k) := by decide +kernel
theorem rz_lay0 : ∀ w ∈ u_ws rz_R0 rz_T0 2, w ∈ rz_tbl := by decide +kernel
def rz_R1 : String := "RisingPiles$Latest"
def rz_T1 : u_T := fun k => match k with
  | 0 => ("RisingPiles$Latest", "numbers", "[I", true)
  | 1 => ("RisingPiles$Latest", "keys", "[I", true)
  | 2 => ("RisingPiles$Latest", "values", "[I", true)
  | 3 => ("RisingPiles$Latest", "moves", "[I", true)
  | _ => ("RisingPiles$Latest", "held", "I", false)
def rz_ty1 : Nat → FieldType := fun k => match k with
  | 0 => .array .int
  | 1 => .array .int
  | 2 => .array .int
  | 3 => .array .int
  | _ => .int
theorem rz_nm1 : ∀ a, a < 5 → ∀ b, b < 5 → a ≠ b → (rz_T1 a).2.1 ≠ (rz_T1 b).2.1 := by decide +kernel
theorem rz_tok1 : ∀ k, k < 5 → parseFieldDescriptor (rz_T1 k).2.2.1 = some (rz_ty1 k) := by decide +kernel
theorem rz_lay1 : ∀ w ∈ u_ws rz_R1 rz_T1 5, w ∈ rz_tbl := by decide +kernel
def rz_R2 : String := "RisingPiles$Orders"
def rz_T2 : u_T := fun k => match k with
  | 0 => ("RisingPiles$Orders", "kinds", "[C", true)
  | 1 => ("RisingPiles$Orders", "firsts", "[I", true)
  | 2 => ("RisingPiles$Orders", "seconds", "[I", true)
  | 3 => ("RisingPiles$Orders", "held", "I", false)
  | _ => ("RisingPiles$Orders", "place", "I", false)
def rz_ty2 : Nat → FieldType := fun k => match k with
  | 0 => .array .char
  | 1 => .array .int
  | 2 => .array .int
  | 3 => .int
  | _ => .int
theorem rz_nm2 : ∀ a, a < 5 → ∀ b, b < 5 → a ≠ b → (rz_T2 a).2.1 ≠ (rz_T2 b).2.1 := by decide +kernel
theorem rz_tok2 : ∀ k, k < 5 → parseFieldDescriptor (rz_T2 k).2.2.1 = some (rz_ty2 k) := by decide +kernel
theorem rz_lay2 : ∀ w ∈ u_ws rz_R2 rz_T2 5, w ∈ rz_tbl := by decide +kernel
def rz_R3 : String := "RisingPiles$Piles"
def rz_T3 : u_T := fun k => match k with
  | 0 => ("RisingPiles$Piles", "numbers", "[I", true)
  | 1 => ("RisingPiles$Piles", "keys", "[I", true)
  | 2 => ("RisingPiles$Piles", "values", "[I", true)
  | 3 => ("RisingPiles$Piles", "moves", "[I", true)
  | 4 => ("RisingPiles$Piles", "piles", "[I", true)
  | 5 => ("RisingPiles$Piles", "held", "I", false)
  | 6 => ("RisingPiles$Piles", "floor", "I", false)
  | _ => ("RisingPiles$Piles", "allMoves", "I", false)
def rz_ty3 : Nat → FieldType := fun k => match k with
  | 0 => .array .int
  | 1 => .array .int
  | 2 => .array .int
  | 3 => .array .int
  | 4 => .array .int
  | 5 => .int
  | 6 => .int
  | _ => .int
theorem rz_nm3 : ∀ a, a < 8 → ∀ b, b < 8 → a ≠ b → (rz_T3 a).2.1 ≠ (rz_T3 b).2.1 := by decide +kernel
theorem rz_tok3 : ∀ k, k < 8 → parseFieldDescriptor (rz_T3 k).2.2.1 = some (rz_ty3 k) := by decide +kernel
theorem rz_lay3 : ∀ w ∈ u_ws rz_R3 rz_T3 8, w ∈ rz_tbl := by decide +kernel
def rz_R4 : String := "RisingPiles$Roads"
def rz_T4 : u_T := fun k => match k with
  | 0 => ("RisingPiles$Roads", "lengths", "[I", true)
  | _ => ("RisingPiles$Roads", "laid", "I", false)
def rz_ty4 : Nat → FieldType := fun k => match k with
  | 0 => .array .int
  | _ => .int
theorem rz_nm4 : ∀ a, a < 2 → ∀ b, b < 2 → a ≠ b → (rz_T4 a).2.1 ≠ (rz_T4 b).2.1 := by decide +kernel
theorem rz_tok4 : ∀ k, k < 2 → parseFieldDescriptor (rz_T4 k).2.2.1 = some (rz_ty4 k) := by decide +kernel
theorem rz_lay4 : ∀ w ∈ u_ws rz_R4 rz_T4 2, w ∈ rz_tbl := by decide +kernel
def rz_R5 : String := "RisingPiles$Search"
def rz_T5 : u_T := fun k => match k with
  | 0 => ("RisingPiles$Search", "piles", "LRisingPiles$Piles;", true)
  | 1 => ("RisingPiles$Search", "distances", "[I", true)
  | 2 => ("RisingPiles$Search", "townsDone", "I", false)
  | 3 => ("RisingPiles$Search", "cameIn", "I", false)
  | _ => ("RisingPiles$Search", "greatest", "I", false)
def rz_ty5 : Nat → FieldType := fun k => match k with
  | 0 => .object "RisingPiles$Piles"
  | 1 => .array .int
  | 2 => .int
  | 3 => .int
  | _ => .int
theorem rz_nm5 : ∀ a, a < 5 → ∀ b, b < 5 → a ≠ b → (rz_T5 a).2.1 ≠ (rz_T5 b).2.1 := by decide +kernel
theorem rz_tok5 : ∀ k, k < 5 → parseFieldDescriptor (rz_T5 k).2.2.1 = some (rz_ty5 k) := by decide +kernel
theorem rz_lay5 : ∀ w ∈ u_ws rz_R5 rz_T5 5, w ∈ rz_tbl := by decide +kernel
def rz_R6 : String := "RisingPiles$State"
def rz_T6 : u_T := fun k => match k with
  | 0 => ("RisingPiles$State", "piles", "LRisingPiles$Piles;", true)
  | 1 => ("RisingPiles$State", "latest", "LRisingPiles$Latest;", true)
  | 2 => ("RisingPiles$State", "roads", "LRisingPiles$Roads;", true)
  | 3 => ("RisingPiles$State", "cameIn", "I", false)
  | 4 => ("RisingPiles$State", "cameOut", "I", false)
  | _ => ("RisingPiles$State", "takenBack", "I", false)
def rz_ty6 : Nat → FieldType := fun k => match k with
  | 0 => .object "RisingPiles$Piles"
  | 1 => .object "RisingPiles$Latest"
  | 2 => .object "RisingPiles$Roads"
  | 3 => .int
  | 4 => .int
  | _ => .int
theorem rz_nm6 : ∀ a, a < 6 → ∀ b, b < 6 → a ≠ b → (rz_T6 a).2.1 ≠ (rz_T6 b).2.1 := by decide +kernel
theorem rz_tok6 : ∀ k, k < 6 → parseFieldDescriptor (rz_T6 k).2.2.1 = some (rz_ty6 k) := by decide +kernel
theorem rz_lay6 : ∀ w ∈ u_ws rz_R6 rz_T6 6, w ∈ rz_tbl := by decide +kernel
def rz_R7 : String := "RisingPiles$Text"
def rz_T7 : u_T := fun k => match k with
  | 0 => ("RisingPiles$Text", "signs", "[C", true)
  | _ => ("RisingPiles$Text", "length", "I", false)
def rz_ty7 : Nat → FieldType := fun k => match k with
  | 0 => .array .char
  | _ => .int
theorem rz_nm7 : ∀ a, a < 2 → ∀ b, b < 2 → a ≠ b → (rz_T7 a).2.1 ≠ (rz_T7 b).2.1 := by decide +kernel
theorem rz_tok7 : ∀ k, k < 2 → parseFieldDescriptor (rz_T7 k).2.2.1 = some (rz_ty7 k) := by decide +kernel
theorem rz_lay7 : ∀ w ∈ u_ws rz_R7 rz_T7 2, w ∈ rz_tbl := by decide +kernel
def rz_R8 : String := "RisingPiles"
def rz_T8 : u_T := fun k => match k with
  | 0 => ("RisingPiles", "now", "LRisingPiles$State;", true)
  | 1 => ("RisingPiles", "before", "LRisingPiles$State;", true)
  | 2 => ("RisingPiles", "snapshot", "LRisingPiles$State;", true)
  | 3 => ("RisingPiles", "history", "LRisingPiles$History;", true)
  | 4 => ("RisingPiles", "text", "LRisingPiles$Text;", true)
  | 5 => ("RisingPiles", "orders", "LRisingPiles$Orders;", true)
  | 6 => ("RisingPiles", "ways", "LRisingPiles$Search;", true)
  | 7 => ("RisingPiles", "snapshotTaken", "Z", false)
  | 8 => ("RisingPiles", "refusedOrder", "I", false)
  | _ => ("RisingPiles", "refusedError", "I", false)
def rz_ty8 : Nat → FieldType := fun k => match k with
  | 0 => .object "RisingPiles$State"
  | 1 => .object "RisingPiles$State"
  | 2 => .object "RisingPiles$State"
  | 3 => .object "RisingPiles$History"
  | 4 => .object "RisingPiles$Text"
  | 5 => .object "RisingPiles$Orders"
  | 6 => .object "RisingPiles$Search"
  | 7 => .boolean
  | 8 => .int
  | _ => .int
theorem rz_nm8 : ∀ a, a < 10 → ∀ b, b < 10 → a ≠ b → (rz_T8 a).2.1 ≠ (rz_T8 b).2.1 := by decide +kernel
theorem rz_tok8 : ∀ k, k < 10 → parseFieldDescriptor (rz_T8 k).2.2.1 = some (rz_ty8 k) := by decide +kernel
theorem rz_lay8 : ∀ w ∈ u_ws rz_R8 rz_T8 10, w ∈ rz_tbl := by decide +kernel
def rz_R9 : String := "RisingPilesLaw"
def rz_T9 : u_T := fun _ => ("", "", "", false)
def rz_ty9 : Nat → FieldType := fun _ => .int
abbrev rz_cls : List vw_C := [(rz_R0, rz_T0, 2), (rz_R1, rz_T1, 5), (rz_R2, rz_T2, 5), (rz_R3, rz_T3, 8), (rz_R4, rz_T4, 2), (rz_R5, rz_T5, 5), (rz_R6, rz_T6, 6), (rz_R7, rz_T7, 2), (rz_R8, rz_T8, 10)]
def rz_R : Nat → String := fun k => match k with
  | 0 => rz_R0
  | 1 => rz_R1
  | 2 => rz_R2
  | 3 => rz_R3
  | 4 => rz_R4
  | 5 => rz_R5
  | 6 => rz_R6
  | 7 => rz_R7
  | 8 => rz_R8
  | 9 => rz_R9
  | _ => ""
def rz_T : Nat → u_T := fun k => match k with
  | 0 => rz_T0
  | 1 => rz_T1
  | 2 => rz_T2
  | 3 => rz_T3
  | 4 => rz_T4
  | 5 => rz_T5
  | 6 => rz_T6
  | 7 => rz_T7
  | 8 => rz_T8
  | 9 => rz_T9
  | _ => rz_T0
def rz_N : Nat → Nat := fun k => match k with
  | 0 => 2
  | 1 => 5
  | 2 => 5
  | 3 => 8
  | 4 => 2
  | 5 => 5
  | 6 => 6
  | 7 => 2
  | 8 => 10
  | 9 => 0
  | _ => 0
def rz_ty : Nat → (Nat → FieldType) := fun k => match k with
  | 0 => rz_ty0
  | 1 => rz_ty1
  | 2 => rz_ty2
  | 3 => rz_ty3
  | 4 => rz_ty4
  | 5 => rz_ty5
  | 6 => rz_ty6
  | 7 => rz_ty7
  | 8 => rz_ty8
  | 9 => rz_ty9
  | _ => (fun _ => .int)
-- methods by number
-- 0 RisingPiles$History.<init>()V
-- 1 RisingPiles$History.size()I
-- 2 RisingPiles$History.stateAt(I)LRisingPiles$State;
-- 3 RisingPiles$History.put(LRisingPiles$State;)V
-- 4 RisingPiles$History.dropOldest()V
-- 5 RisingPiles$History.giveLatestTo(LRisingPiles$State;)I
-- 6 RisingPiles$Latest.<init>()V
-- 7 RisingPiles$Latest.copyFrom(LRisingPiles$Latest;)V
-- 8 RisingPiles$Latest.put(IIII)V
-- 9 RisingPiles$Latest.putFirst([II)V
-- 10 RisingPiles$Latest.tell(II)I
-- 11 RisingPiles$Orders.<init>()V
-- 12 RisingPiles$Orders.size()I
-- 13 RisingPiles$Orders.has(I)Z
-- 14 RisingPiles$Orders.kindAt(I)I
-- 15 RisingPiles$Orders.firstAt(I)I
-- 16 RisingPiles$Orders.secondAt(I)I
-- 17 RisingPiles$Orders.readFrom(LRisingPiles$Text;)I
-- 18 RisingPiles$Orders.readOrder(LRisingPiles$Text;)Z
-- 19 RisingPiles$Orders.readComeIn(LRisingPiles$Text;)Z
-- 20 RisingPiles$Orders.readComeOut()Z
-- 21 RisingPiles$Orders.readTakeBack(LRisingPiles$Text;)Z
-- 22 RisingPiles$Orders.readMakeLess(LRisingPiles$Text;)Z
-- 23 RisingPiles$Orders.readNumber(LRisingPiles$Text;I)I
-- 24 RisingPiles$Orders.withDigit(II)I
-- 25 RisingPiles$Orders.put(CII)Z
-- 26 RisingPiles$Piles.<init>()V
-- 27 RisingPiles$Piles.copyFrom(LRisingPiles$Piles;)V
-- 28 RisingPiles$Piles.clear()V
-- 29 RisingPiles$Piles.size()I
-- 30 RisingPiles$Piles.floor()I
-- 31 RisingPiles$Piles.allMoves()I
-- 32 RisingPiles$Piles.isFull()Z
-- 33 RisingPiles$Piles.has(I)Z
-- 34 RisingPiles$Piles.numberAt(I)I
-- 35 RisingPiles$Piles.keyAt(I)I
-- 36 RisingPiles$Piles.valueAt(I)I
-- 37 RisingPiles$Piles.movesAt(I)I
-- 38 RisingPiles$Piles.pileAt(I)I
-- 39 RisingPiles$Piles.placeAt(I)I
-- 40 RisingPiles$Piles.indexOf(I)I
-- 41 RisingPiles$Piles.append(IIII)V
-- 42 RisingPiles$Piles.removeAt(I)V
-- 43 RisingPiles$Piles.pileFor(I)I
-- 44 RisingPiles$Piles.lessenAt(II)I
-- 45 RisingPiles$Piles.indexOfNext()I
-- 46 RisingPiles$Piles.indexOfRank(I)I
-- 47 RisingPiles$Piles.rankAt(I)I
-- 48 RisingPiles$Piles.movesToReach(I)I
-- 49 RisingPiles$Piles.reach(I)V
-- 50 RisingPiles$Piles.sizeOf(I)I
-- 51 RisingPiles$Piles.leastKeyOf(I)I
-- 52 RisingPiles$Piles.greatestKeyOf(I)I
-- 53 RisingPiles$Piles.frontOf(I)I
-- 54 RisingPiles$Piles.sumOfPiles()I
-- 55 RisingPiles$Piles.pilesInUse()I
-- 56 RisingPiles$Roads.<init>()V
-- 57 RisingPiles$Roads.copyFrom(LRisingPiles$Roads;)V
-- 58 RisingPiles$Roads.size()I
-- 59 RisingPiles$Roads.lengthOf(II)I
-- 60 RisingPiles$Roads.setLength(III)V
-- 61 RisingPiles$Roads.lay(III)I
-- 62 RisingPiles$Roads.remove(II)I
-- 63 RisingPiles$Search.<init>()V
-- 64 RisingPiles$Search.townsDone()I
-- 65 RisingPiles$Search.cameIn()I
-- 66 RisingPiles$Search.moves()I
-- 67 RisingPiles$Search.greatestDistance()I
-- 68 RisingPiles$Search.distanceOf(I)I
-- 69 RisingPiles$Search.findFrom(ILRisingPiles$Roads;)V
-- 70 RisingPiles$Search.clear()V
-- 71 RisingPiles$Search.bringIn(II)V
-- 72 RisingPiles$Search.letOut(LRisingPiles$Roads;)V
-- 73 RisingPiles$Search.followRoads(IILRisingPiles$Roads;)V
-- 74 RisingPiles$State.<init>()V
-- 75 RisingPiles$State.copyFrom(LRisingPiles$State;)V
-- 76 RisingPiles$State.bringIn(II)I
-- 77 RisingPiles$State.letOut()I
-- 78 RisingPiles$State.letOutUpTo(I)I
-- 79 RisingPiles$State.makeLess(II)I
-- 80 RisingPiles$State.giveBack(I)I
-- 81 RisingPiles$State.carryOut(III)I
-- 82 RisingPiles$Text.<init>()V
-- 83 RisingPiles$Text.size()I
-- 84 RisingPiles$Text.append(C)I
-- 85 RisingPiles$Text.clear()I
-- 86 RisingPiles$Text.signAt(I)I
-- 87 RisingPiles.<init>()V
-- 88 RisingPiles.comeIn(II)I
-- 89 RisingPiles.comeOut()I
-- 90 RisingPiles.comeOutUpTo(I)I
-- 91 RisingPiles.less(II)I
-- 92 RisingPiles.takeBack(I)I
-- 93 RisingPiles.road(III)I
-- 94 RisingPiles.unroad(II)I
-- 95 RisingPiles.type(C)I
-- 96 RisingPiles.clearText()I
-- 97 RisingPiles.perform()I
-- 98 RisingPiles.refusal(I)I
-- 99 RisingPiles.undo()I
-- 100 RisingPiles.keep()I
-- 101 RisingPiles.restore()I
-- 102 RisingPiles.entry(II)I
-- 103 RisingPiles.pile(II)I
-- 104 RisingPiles.next(I)I
-- 105 RisingPiles.ranked(I)I
-- 106 RisingPiles.movesLeft()I
-- 107 RisingPiles.out(II)I
-- 108 RisingPiles.roadOf(II)I
-- 109 RisingPiles.distance(II)I
-- 110 RisingPiles.search(II)I
-- 111 RisingPiles.count(I)I
-- 112 RisingPiles.recorded(I)I
-- 113 RisingPiles.isError(I)Z
-- 114 RisingPiles.isKey(I)Z
-- 115 RisingPiles.isTown(I)Z
-- 116 RisingPiles.copyRow([I[I)V
-- 117 RisingPilesLaw.part(II)I
-- 118 RisingPilesLaw.drawn([II)I
-- 119 RisingPilesLaw.seen(LRisingPiles;)J
-- 120 RisingPilesLaw.refusesAny(LRisingPiles;I)Z
-- 121 RisingPilesLaw.refused(LRisingPiles;)Z
-- 122 RisingPilesLaw.piles()Z
-- 123 RisingPilesLaw.ways()Z
-- 124 RisingPilesLaw.types(LRisingPiles;J)Z
-- 125 RisingPilesLaw.faultOf(JJ)I
-- 126 RisingPilesLaw.texts()Z
-- 127 RisingPilesLaw.law([I)Z
def rz_B : Nat → ByteArray := fun k => match k with
  | 0 => prog_2_method_1_code
  | 1 => prog_2_method_2_code
  | 2 => prog_2_method_3_code
  | 3 => prog_2_method_4_code
  | 4 => prog_2_method_5_code
  | 5 => prog_2_method_6_code
  | 6 => prog_3_method_1_code
  | 7 => prog_3_method_2_code
  | 8 => prog_3_method_3_code
  | 9 => prog_3_method_4_code
  | 10 => prog_3_method_5_code
  | 11 => prog_4_method_1_code
  | 12 => prog_4_method_2_code
  | 13 => prog_4_method_3_code
  | 14 => prog_4_method_4_code
  | 15 => prog_4_method_5_code
  | 16 => prog_4_method_6_code
  | 17 => prog_4_method_7_code
  | 18 => prog_4_method_8_code
  | 19 => prog_4_method_9_code
  | 20 => prog_4_method_10_code
  | 21 => prog_4_method_11_code
  | 22 => prog_4_method_12_code
  | 23 => prog_4_method_13_code
  | 24 => prog_4_method_14_code
  | 25 => prog_4_method_15_code
  | 26 => prog_5_method_1_code
  | 27 => prog_5_method_2_code
  | 28 => prog_5_method_3_code
  | 29 => prog_5_method_4_code
  | 30 => prog_5_method_5_code
  | 31 => prog_5_method_6_code
  | 32 => prog_5_method_7_code
  | 33 => prog_5_method_8_code
  | 34 => prog_5_method_9_code
  | 35 => prog_5_method_10_code
  | 36 => prog_5_method_11_code
  | 37 => prog_5_method_12_code
  | 38 => prog_5_method_13_code
  | 39 => prog_5_method_14_code
  | 40 => prog_5_method_15_code
  | 41 => prog_5_method_16_code
  | 42 => prog_5_method_17_code
  | 43 => prog_5_method_18_code
  | 44 => prog_5_method_19_code
  | 45 => prog_5_method_20_code
  | 46 => prog_5_method_21_code
  | 47 => prog_5_method_22_code
  | 48 => prog_5_method_23_code
  | 49 => prog_5_method_24_code
  | 50 => prog_5_method_25_code
  | 51 => prog_5_method_26_code
  | 52 => prog_5_method_27_code
  | 53 => prog_5_method_28_code
  | 54 => prog_5_method_29_code
  | 55 => prog_5_method_30_code
  | 56 => prog_6_method_1_code
  | 57 => prog_6_method_2_code
  | 58 => prog_6_method_3_code
  | 59 => prog_6_method_4_code
  | 60 => prog_6_method_5_code
  | 61 => prog_6_method_6_code
  | 62 => prog_6_method_7_code
  | 63 => prog_7_method_1_code
  | 64 => prog_7_method_2_code
  | 65 => prog_7_method_3_code
  | 66 => prog_7_method_4_code
  | 67 => prog_7_method_5_code
  | 68 => prog_7_method_6_code
  | 69 => prog_7_method_7_code
  | 70 => prog_7_method_8_code
  | 71 => prog_7_method_9_code
  | 72 => prog_7_method_10_code
  | 73 => prog_7_method_11_code
  | 74 => prog_8_method_1_code
  | 75 => prog_8_method_2_code
  | 76 => prog_8_method_3_code
  | 77 => prog_8_method_4_code
  | 78 => prog_8_method_5_code
  | 79 => prog_8_method_6_code
  | 80 => prog_8_method_7_code
  | 81 => prog_8_method_8_code
  | 82 => prog_9_method_1_code
  | 83 => prog_9_method_2_code
  | 84 => prog_9_method_3_code
  | 85 => prog_9_method_4_code
  | 86 => prog_9_method_5_code
  | 87 => prog_1_method_1_code
  | 88 => prog_1_method_2_code
  | 89 => prog_1_method_3_code
  | 90 => prog_1_method_4_code
  | 91 => prog_1_method_5_code
  | 92 => prog_1_method_6_code
  | 93 => prog_1_method_7_code
  | 94 => prog_1_method_8_code
  | 95 => prog_1_method_9_code
  | 96 => prog_1_method_10_code
  | 97 => prog_1_method_11_code
  | 98 => prog_1_method_12_code
  | 99 => prog_1_method_13_code
  | 100 => prog_1_method_14_code
  | 101 => prog_1_method_15_code
  | 102 => prog_1_method_16_code
  | 103 => prog_1_method_17_code
  | 104 => prog_1_method_18_code
  | 105 => prog_1_method_19_code
  | 106 => prog_1_method_20_code
  | 107 => prog_1_method_21_code
  | 108 => prog_1_method_22_code
  | 109 => prog_1_method_23_code
  | 110 => prog_1_method_24_code
  | 111 => prog_1_method_25_code
  | 112 => prog_1_method_26_code
  | 113 => prog_1_method_27_code
  | 114 => prog_1_method_28_code
  | 115 => prog_1_method_29_code
  | 116 => prog_1_method_30_code
  | 117 => method_2_code
  | 118 => method_3_code
  | 119 => method_4_code
  | 120 => method_5_code
  | 121 => method_6_code
  | 122 => method_7_code
  | 123 => method_8_code
  | 124 => method_9_code
  | 125 => method_10_code
  | 126 => method_11_code
  | 127 => code
  | _ => ⟨#[]⟩
def rz_Y : Nat → MethodName := fun k => match k with
  | 0 => ⟨rz_R0, "<init>", "()V"⟩
  | 1 => ⟨rz_R0, "size", "()I"⟩
  | 2 => ⟨rz_R0, "stateAt", "(I)LRisingPiles$State;"⟩
  | 3 => ⟨rz_R0, "put", "(LRisingPiles$State;)V"⟩
  | 4 => ⟨rz_R0, "dropOldest", "()V"⟩
  | 5 => ⟨rz_R0, "giveLatestTo", "(LRisingPiles$State;)I"⟩
  | 6 => ⟨rz_R1, "<init>", "()V"⟩
  | 7 => ⟨rz_R1, "copyFrom", "(LRisingPiles$Latest;)V"⟩
  | 8 => ⟨rz_R1, "put", "(IIII)V"⟩
  | 9 => ⟨rz_R1, "putFirst", "([II)V"⟩
  | 10 => ⟨rz_R1, "tell", "(II)I"⟩
  | 11 => ⟨rz_R2, "<init>", "()V"⟩
  | 12 => ⟨rz_R2, "size", "()I"⟩
  | 13 => ⟨rz_R2, "has", "(I)Z"⟩
  | 14 => ⟨rz_R2, "kindAt", "(I)I"⟩
  | 15 => ⟨rz_R2, "firstAt", "(I)I"⟩
  | 16 => ⟨rz_R2, "secondAt", "(I)I"⟩
  | 17 => ⟨rz_R2, "readFrom", "(LRisingPiles$Text;)I"⟩
  | 18 => ⟨rz_R2, "readOrder", "(LRisingPiles$Text;)Z"⟩
  | 19 => ⟨rz_R2, "readComeIn", "(LRisingPiles$Text;)Z"⟩
  | 20 => ⟨rz_R2, "readComeOut", "()Z"⟩
  | 21 => ⟨rz_R2, "readTakeBack", "(LRisingPiles$Text;)Z"⟩
  | 22 => ⟨rz_R2, "readMakeLess", "(LRisingPiles$Text;)Z"⟩
  | 23 => ⟨rz_R2, "readNumber", "(LRisingPiles$Text;I)I"⟩
  | 24 => ⟨rz_R2, "withDigit", "(II)I"⟩
  | 25 => ⟨rz_R2, "put", "(CII)Z"⟩
  | 26 => ⟨rz_R3, "<init>", "()V"⟩
  | 27 => ⟨rz_R3, "copyFrom", "(LRisingPiles$Piles;)V"⟩
  | 28 => ⟨rz_R3, "clear", "()V"⟩
  | 29 => ⟨rz_R3, "size", "()I"⟩
  | 30 => ⟨rz_R3, "floor", "()I"⟩
  | 31 => ⟨rz_R3, "allMoves", "()I"⟩
  | 32 => ⟨rz_R3, "isFull", "()Z"⟩
  | 33 => ⟨rz_R3, "has", "(I)Z"⟩
  | 34 => ⟨rz_R3, "numberAt", "(I)I"⟩
  | 35 => ⟨rz_R3, "keyAt", "(I)I"⟩
  | 36 => ⟨rz_R3, "valueAt", "(I)I"⟩
  | 37 => ⟨rz_R3, "movesAt", "(I)I"⟩
  | 38 => ⟨rz_R3, "pileAt", "(I)I"⟩
  | 39 => ⟨rz_R3, "placeAt", "(I)I"⟩
  | 40 => ⟨rz_R3, "indexOf", "(I)I"⟩
  | 41 => ⟨rz_R3, "append", "(IIII)V"⟩
  | 42 => ⟨rz_R3, "removeAt", "(I)V"⟩
  | 43 => ⟨rz_R3, "pileFor", "(I)I"⟩
  | 44 => ⟨rz_R3, "lessenAt", "(II)I"⟩
  | 45 => ⟨rz_R3, "indexOfNext", "()I"⟩
  | 46 => ⟨rz_R3, "indexOfRank", "(I)I"⟩
  | 47 => ⟨rz_R3, "rankAt", "(I)I"⟩
  | 48 => ⟨rz_R3, "movesToReach", "(I)I"⟩
  | 49 => ⟨rz_R3, "reach", "(I)V"⟩
  | 50 => ⟨rz_R3, "sizeOf", "(I)I"⟩
  | 51 => ⟨rz_R3, "leastKeyOf", "(I)I"⟩
  | 52 => ⟨rz_R3, "greatestKeyOf", "(I)I"⟩
  | 53 => ⟨rz_R3, "frontOf", "(I)I"⟩
  | 54 => ⟨rz_R3, "sumOfPiles", "()I"⟩
  | 55 => ⟨rz_R3, "pilesInUse", "()I"⟩
  | 56 => ⟨rz_R4, "<init>", "()V"⟩
  | 57 => ⟨rz_R4, "copyFrom", "(LRisingPiles$Roads;)V"⟩
  | 58 => ⟨rz_R4, "size", "()I"⟩
  | 59 => ⟨rz_R4, "lengthOf", "(II)I"⟩
  | 60 => ⟨rz_R4, "setLength", "(III)V"⟩
  | 61 => ⟨rz_R4, "lay", "(III)I"⟩
  | 62 => ⟨rz_R4, "remove", "(II)I"⟩
  | 63 => ⟨rz_R5, "<init>", "()V"⟩
  | 64 => ⟨rz_R5, "townsDone", "()I"⟩
  | 65 => ⟨rz_R5, "cameIn", "()I"⟩
  | 66 => ⟨rz_R5, "moves", "()I"⟩
  | 67 => ⟨rz_R5, "greatestDistance", "()I"⟩
  | 68 => ⟨rz_R5, "distanceOf", "(I)I"⟩
  | 69 => ⟨rz_R5, "findFrom", "(ILRisingPiles$Roads;)V"⟩
  | 70 => ⟨rz_R5, "clear", "()V"⟩
  | 71 => ⟨rz_R5, "bringIn", "(II)V"⟩
  | 72 => ⟨rz_R5, "letOut", "(LRisingPiles$Roads;)V"⟩
  | 73 => ⟨rz_R5, "followRoads", "(IILRisingPiles$Roads;)V"⟩
  | 74 => ⟨rz_R6, "<init>", "()V"⟩
  | 75 => ⟨rz_R6, "copyFrom", "(LRisingPiles$State;)V"⟩
  | 76 => ⟨rz_R6, "bringIn", "(II)I"⟩
  | 77 => ⟨rz_R6, "letOut", "()I"⟩
  | 78 => ⟨rz_R6, "letOutUpTo", "(I)I"⟩
  | 79 => ⟨rz_R6, "makeLess", "(II)I"⟩
  | 80 => ⟨rz_R6, "giveBack", "(I)I"⟩
  | 81 => ⟨rz_R6, "carryOut", "(III)I"⟩
  | 82 => ⟨rz_R7, "<init>", "()V"⟩
  | 83 => ⟨rz_R7, "size", "()I"⟩
  | 84 => ⟨rz_R7, "append", "(C)I"⟩
  | 85 => ⟨rz_R7, "clear", "()I"⟩
  | 86 => ⟨rz_R7, "signAt", "(I)I"⟩
  | 87 => ⟨rz_R8, "<init>", "()V"⟩
  | 88 => ⟨rz_R8, "comeIn", "(II)I"⟩
  | 89 => ⟨rz_R8, "comeOut", "()I"⟩
  | 90 => ⟨rz_R8, "comeOutUpTo", "(I)I"⟩
  | 91 => ⟨rz_R8, "less", "(II)I"⟩
  | 92 => ⟨rz_R8, "takeBack", "(I)I"⟩
  | 93 => ⟨rz_R8, "road", "(III)I"⟩
  | 94 => ⟨rz_R8, "unroad", "(II)I"⟩
  | 95 => ⟨rz_R8, "type", "(C)I"⟩
  | 96 => ⟨rz_R8, "clearText", "()I"⟩
  | 97 => ⟨rz_R8, "perform", "()I"⟩
  | 98 => ⟨rz_R8, "refusal", "(I)I"⟩
  | 99 => ⟨rz_R8, "undo", "()I"⟩
  | 100 => ⟨rz_R8, "keep", "()I"⟩
  | 101 => ⟨rz_R8, "restore", "()I"⟩
  | 102 => ⟨rz_R8, "entry", "(II)I"⟩
  | 103 => ⟨rz_R8, "pile", "(II)I"⟩
  | 104 => ⟨rz_R8, "next", "(I)I"⟩
  | 105 => ⟨rz_R8, "ranked", "(I)I"⟩
  | 106 => ⟨rz_R8, "movesLeft", "()I"⟩
  | 107 => ⟨rz_R8, "out", "(II)I"⟩
  | 108 => ⟨rz_R8, "roadOf", "(II)I"⟩
  | 109 => ⟨rz_R8, "distance", "(II)I"⟩
  | 110 => ⟨rz_R8, "search", "(II)I"⟩
  | 111 => ⟨rz_R8, "count", "(I)I"⟩
  | 112 => ⟨rz_R8, "recorded", "(I)I"⟩
  | 113 => ⟨rz_R8, "isError", "(I)Z"⟩
  | 114 => ⟨rz_R8, "isKey", "(I)Z"⟩
  | 115 => ⟨rz_R8, "isTown", "(I)Z"⟩
  | 116 => ⟨rz_R8, "copyRow", "([I[I)V"⟩
  | 117 => ⟨rz_R9, "part", "(II)I"⟩
  | 118 => ⟨rz_R9, "drawn", "([II)I"⟩
  | 119 => ⟨rz_R9, "seen", "(LRisingPiles;)J"⟩
  | 120 => ⟨rz_R9, "refusesAny", "(LRisingPiles;I)Z"⟩
  | 121 => ⟨rz_R9, "refused", "(LRisingPiles;)Z"⟩
  | 122 => ⟨rz_R9, "piles", "()Z"⟩
  | 123 => ⟨rz_R9, "ways", "()Z"⟩
  | 124 => ⟨rz_R9, "types", "(LRisingPiles;J)Z"⟩
  | 125 => ⟨rz_R9, "faultOf", "(JJ)I"⟩
  | 126 => ⟨rz_R9, "texts", "()Z"⟩
  | 127 => ⟨rz_R9, "law", "([I)Z"⟩
  | _ => ⟨"", "", ""⟩
def rz_K : Nat → Nat := fun k => match k with
  | 0 => 0
  | 1 => 0
  | 2 => 0
  | 3 => 0
  | 4 => 0
  | 5 => 0
  | 6 => 1
  | 7 => 1
  | 8 => 1
  | 9 => 1
  | 10 => 1
  | 11 => 2
  | 12 => 2
  | 13 => 2
  | 14 => 2
  | 15 => 2
  | 16 => 2
  | 17 => 2
  | 18 => 2
  | 19 => 2
  | 20 => 2
  | 21 => 2
  | 22 => 2
  | 23 => 2
  | 24 => 2
  | 25 => 2
  | 26 => 3
  | 27 => 3
  | 28 => 3
  | 29 => 3
  | 30 => 3
  | 31 => 3
  | 32 => 3
  | 33 => 3
  | 34 => 3
  | 35 => 3
  | 36 => 3
  | 37 => 3
  | 38 => 3
  | 39 => 3
  | 40 => 3
  | 41 => 3
  | 42 => 3
  | 43 => 3
  | 44 => 3
  | 45 => 3
  | 46 => 3
  | 47 => 3
  | 48 => 3
  | 49 => 3
  | 50 => 3
  | 51 => 3
  | 52 => 3
  | 53 => 3
  | 54 => 3
  | 55 => 3
  | 56 => 4
  | 57 => 4
  | 58 => 4
  | 59 => 4
  | 60 => 4
  | 61 => 4
  | 62 => 4
  | 63 => 5
  | 64 => 5
  | 65 => 5
  | 66 => 5
  | 67 => 5
  | 68 => 5
  | 69 => 5
  | 70 => 5
  | 71 => 5
  | 72 => 5
  | 73 => 5
  | 74 => 6
  | 75 => 6
  | 76 => 6
  | 77 => 6
  | 78 => 6
  | 79 => 6
  | 80 => 6
  | 81 => 6
  | 82 => 7
  | 83 => 7
  | 84 => 7
  | 85 => 7
  | 86 => 7
  | 87 => 8
  | 88 => 8
  | 89 => 8
  | 90 => 8
  | 91 => 8
  | 92 => 8
  | 93 => 8
  | 94 => 8
  | 95 => 8
  | 96 => 8
  | 97 => 8
  | 98 => 8
  | 99 => 8
  | 100 => 8
  | 101 => 8
  | 102 => 8
  | 103 => 8
  | 104 => 8
  | 105 => 8
  | 106 => 8
  | 107 => 8
  | 108 => 8
  | 109 => 8
  | 110 => 8
  | 111 => 8
  | 112 => 8
  | 113 => 8
  | 114 => 8
  | 115 => 8
  | 116 => 8
  | 117 => 9
  | 118 => 9
  | 119 => 9
  | 120 => 9
  | 121 => 9
  | 122 => 9
  | 123 => 9
  | 124 => 9
  | 125 => 9
  | 126 => 9
  | 127 => 9
  | _ => 0
def rz_ML : Nat → Nat := fun k => match k with
  | 0 => 2
  | 1 => 1
  | 2 => 2
  | 3 => 3
  | 4 => 3
  | 5 => 3
  | 6 => 1
  | 7 => 2
  | 8 => 5
  | 9 => 2
  | 10 => 3
  | 11 => 1
  | 12 => 1
  | 13 => 2
  | 14 => 2
  | 15 => 2
  | 16 => 2
  | 17 => 3
  | 18 => 3
  | 19 => 4
  | 20 => 1
  | 21 => 3
  | 22 => 4
  | 23 => 6
  | 24 => 3
  | 25 => 4
  | 26 => 1
  | 27 => 2
  | 28 => 1
  | 29 => 1
  | 30 => 1
  | 31 => 1
  | 32 => 1
  | 33 => 2
  | 34 => 2
  | 35 => 2
  | 36 => 2
  | 37 => 2
  | 38 => 2
  | 39 => 4
  | 40 => 3
  | 41 => 5
  | 42 => 3
  | 43 => 5
  | 44 => 7
  | 45 => 3
  | 46 => 3
  | 47 => 6
  | 48 => 3
  | 49 => 4
  | 50 => 4
  | 51 => 4
  | 52 => 4
  | 53 => 3
  | 54 => 3
  | 55 => 3
  | 56 => 2
  | 57 => 2
  | 58 => 1
  | 59 => 3
  | 60 => 4
  | 61 => 5
  | 62 => 4
  | 63 => 1
  | 64 => 1
  | 65 => 1
  | 66 => 1
  | 67 => 1
  | 68 => 2
  | 69 => 4
  | 70 => 2
  | 71 => 3
  | 72 => 5
  | 73 => 6
  | 74 => 1
  | 75 => 2
  | 76 => 4
  | 77 => 3
  | 78 => 5
  | 79 => 5
  | 80 => 4
  | 81 => 4
  | 82 => 1
  | 83 => 1
  | 84 => 2
  | 85 => 2
  | 86 => 2
  | 87 => 1
  | 88 => 3
  | 89 => 1
  | 90 => 2
  | 91 => 3
  | 92 => 2
  | 93 => 4
  | 94 => 3
  | 95 => 2
  | 96 => 1
  | 97 => 4
  | 98 => 2
  | 99 => 1
  | 100 => 1
  | 101 => 1
  | 102 => 4
  | 103 => 3
  | 104 => 3
  | 105 => 3
  | 106 => 1
  | 107 => 3
  | 108 => 3
  | 109 => 3
  | 110 => 3
  | 111 => 2
  | 112 => 2
  | 113 => 1
  | 114 => 1
  | 115 => 1
  | 116 => 2
  | 117 => 2
  | 118 => 2
  | 119 => 4
  | 120 => 5
  | 121 => 4
  | 122 => 3
  | 123 => 3
  | 124 => 6
  | 125 => 6
  | 126 => 2
  | 127 => 11
  | _ => 0
def rz_RT : Nat → Option FieldType := fun k => match k with
  | 0 => none
  | 1 => some .int
  | 2 => some (.object "RisingPiles$State")
  | 3 => none
  | 4 => none
  | 5 => some .int
  | 6 => none
  | 7 => none
  | 8 => none
  | 9 => none
  | 10 => some .int
  | 11 => none
  | 12 => some .int
  | 13 => some .boolean
  | 14 => some .int
  | 15 => some .int
  | 16 => some .int
  | 17 => some .int
  | 18 => some .boolean
  | 19 => some .boolean
  | 20 => some .boolean
  | 21 => some .boolean
  | 22 => some .boolean
  | 23 => some .int
  | 24 => some .int
  | 25 => some .boolean
  | 26 => none
  | 27 => none
  | 28 => none
  | 29 => some .int
  | 30 => some .int
  | 31 => some .int
  | 32 => some .boolean
  | 33 => some .boolean
  | 34 => some .int
  | 35 => some .int
  | 36 => some .int
  | 37 => some .int
  | 38 => some .int
  | 39 => some .int
  | 40 => some .int
  | 41 => none
  | 42 => none
  | 43 => some .int
  | 44 => some .int
  | 45 => some .int
  | 46 => some .int
  | 47 => some .int
  | 48 => some .int
  | 49 => none
  | 50 => some .int
  | 51 => some .int
  | 52 => some .int
  | 53 => some .int
  | 54 => some .int
  | 55 => some .int
  | 56 => none
  | 57 => none
  | 58 => some .int
  | 59 => some .int
  | 60 => none
  | 61 => some .int
  | 62 => some .int
  | 63 => none
  | 64 => some .int
  | 65 => some .int
  | 66 => some .int
  | 67 => some .int
  | 68 => some .int
  | 69 => none
  | 70 => none
  | 71 => none
  | 72 => none
  | 73 => none
  | 74 => none
  | 75 => none
  | 76 => some .int
  | 77 => some .int
  | 78 => some .int
  | 79 => some .int
  | 80 => some .int
  | 81 => some .int
  | 82 => none
  | 83 => some .int
  | 84 => some .int
  | 85 => some .int
  | 86 => some .int
  | 87 => none
  | 88 => some .int
  | 89 => some .int
  | 90 => some .int
  | 91 => some .int
  | 92 => some .int
  | 93 => some .int
  | 94 => some .int
  | 95 => some .int
  | 96 => some .int
  | 97 => some .int
  | 98 => some .int
  | 99 => some .int
  | 100 => some .int
  | 101 => some .int
  | 102 => some .int
  | 103 => some .int
  | 104 => some .int
  | 105 => some .int
  | 106 => some .int
  | 107 => some .int
  | 108 => some .int
  | 109 => some .int
  | 110 => some .int
  | 111 => some .int
  | 112 => some .int
  | 113 => some .boolean
  | 114 => some .boolean
  | 115 => some .boolean
  | 116 => none
  | 117 => some .int
  | 118 => some .int
  | 119 => some .long
  | 120 => some .boolean
  | 121 => some .boolean
  | 122 => some .boolean
  | 123 => some .boolean
  | 124 => some .boolean
  | 125 => some .int
  | 126 => some .boolean
  | 127 => some .boolean
  | _ => none
def rz_kd : Nat → Nat := fun k => match k with
  | 0 => 2
  | 1 => 0
  | 2 => 0
  | 3 => 0
  | 4 => 0
  | 5 => 0
  | 6 => 2
  | 7 => 0
  | 8 => 0
  | 9 => 1
  | 10 => 0
  | 11 => 2
  | 12 => 0
  | 13 => 0
  | 14 => 0
  | 15 => 0
  | 16 => 0
  | 17 => 0
  | 18 => 0
  | 19 => 0
  | 20 => 0
  | 21 => 0
  | 22 => 0
  | 23 => 0
  | 24 => 1
  | 25 => 0
  | 26 => 2
  | 27 => 0
  | 28 => 0
  | 29 => 0
  | 30 => 0
  | 31 => 0
  | 32 => 0
  | 33 => 0
  | 34 => 0
  | 35 => 0
  | 36 => 0
  | 37 => 0
  | 38 => 0
  | 39 => 0
  | 40 => 0
  | 41 => 0
  | 42 => 0
  | 43 => 0
  | 44 => 0
  | 45 => 0
  | 46 => 0
  | 47 => 0
  | 48 => 0
  | 49 => 0
  | 50 => 0
  | 51 => 0
  | 52 => 0
  | 53 => 0
  | 54 => 0
  | 55 => 0
  | 56 => 2
  | 57 => 0
  | 58 => 0
  | 59 => 0
  | 60 => 0
  | 61 => 0
  | 62 => 0
  | 63 => 2
  | 64 => 0
  | 65 => 0
  | 66 => 0
  | 67 => 0
  | 68 => 0
  | 69 => 0
  | 70 => 0
  | 71 => 0
  | 72 => 0
  | 73 => 0
  | 74 => 2
  | 75 => 0
  | 76 => 0
  | 77 => 0
  | 78 => 0
  | 79 => 0
  | 80 => 0
  | 81 => 0
  | 82 => 2
  | 83 => 0
  | 84 => 0
  | 85 => 0
  | 86 => 0
  | 87 => 2
  | 88 => 0
  | 89 => 0
  | 90 => 0
  | 91 => 0
  | 92 => 0
  | 93 => 0
  | 94 => 0
  | 95 => 0
  | 96 => 0
  | 97 => 0
  | 98 => 0
  | 99 => 0
  | 100 => 0
  | 101 => 0
  | 102 => 0
  | 103 => 0
  | 104 => 0
  | 105 => 0
  | 106 => 0
  | 107 => 0
  | 108 => 0
  | 109 => 0
  | 110 => 0
  | 111 => 0
  | 112 => 0
  | 113 => 1
  | 114 => 1
  | 115 => 1
  | 116 => 1
  | 117 => 1
  | 118 => 1
  | 119 => 1
  | 120 => 1
  | 121 => 1
  | 122 => 1
  | 123 => 1
  | 124 => 1
  | 125 => 1
  | 126 => 1
  | 127 => 1
  | _ => 0
def rz_np : Nat → Nat := fun k => match k with
  | 0 => 0
  | 1 => 0
  | 2 => 1
  | 3 => 1
  | 4 => 0
  | 5 => 1
  | 6 => 0
  | 7 => 1
  | 8 => 4
  | 9 => 2
  | 10 => 2
  | 11 => 0
  | 12 => 0
  | 13 => 1
  | 14 => 1
  | 15 => 1
  | 16 => 1
  | 17 => 1
  | 18 => 1
  | 19 => 1
  | 20 => 0
  | 21 => 1
  | 22 => 1
  | 23 => 2
  | 24 => 2
  | 25 => 3
  | 26 => 0
  | 27 => 1
  | 28 => 0
  | 29 => 0
  | 30 => 0
  | 31 => 0
  | 32 => 0
  | 33 => 1
  | 34 => 1
  | 35 => 1
  | 36 => 1
  | 37 => 1
  | 38 => 1
  | 39 => 1
  | 40 => 1
  | 41 => 4
  | 42 => 1
  | 43 => 1
  | 44 => 2
  | 45 => 0
  | 46 => 1
  | 47 => 1
  | 48 => 1
  | 49 => 1
  | 50 => 1
  | 51 => 1
  | 52 => 1
  | 53 => 1
  | 54 => 0
  | 55 => 0
  | 56 => 0
  | 57 => 1
  | 58 => 0
  | 59 => 2
  | 60 => 3
  | 61 => 3
  | 62 => 2
  | 63 => 0
  | 64 => 0
  | 65 => 0
  | 66 => 0
  | 67 => 0
  | 68 => 1
  | 69 => 2
  | 70 => 0
  | 71 => 2
  | 72 => 1
  | 73 => 3
  | 74 => 0
  | 75 => 1
  | 76 => 2
  | 77 => 0
  | 78 => 1
  | 79 => 2
  | 80 => 1
  | 81 => 3
  | 82 => 0
  | 83 => 0
  | 84 => 1
  | 85 => 0
  | 86 => 1
  | 87 => 0
  | 88 => 2
  | 89 => 0
  | 90 => 1
  | 91 => 2
  | 92 => 1
  | 93 => 3
  | 94 => 2
  | 95 => 1
  | 96 => 0
  | 97 => 0
  | 98 => 1
  | 99 => 0
  | 100 => 0
  | 101 => 0
  | 102 => 2
  | 103 => 2
  | 104 => 1
  | 105 => 1
  | 106 => 0
  | 107 => 2
  | 108 => 2
  | 109 => 2
  | 110 => 2
  | 111 => 1
  | 112 => 1
  | 113 => 1
  | 114 => 1
  | 115 => 1
  | 116 => 2
  | 117 => 2
  | 118 => 2
  | 119 => 1
  | 120 => 2
  | 121 => 1
  | 122 => 0
  | 123 => 0
  | 124 => 2
  | 125 => 2
  | 126 => 0
  | 127 => 1
  | _ => 0
def rz_xC : Nat → Nat := fun k => match k with
  | 0 => 140
  | 1 => 478
  | 2 => 314
  | 3 => 306
  | 4 => 310
  | 5 => 441
  | 6 => 80
  | 7 => 267
  | 8 => 360
  | 9 => 363
  | 10 => 523
  | 11 => 170
  | 12 => 720
  | 13 => 728
  | 14 => 724
  | 15 => 732
  | 16 => 736
  | 17 => 680
  | 18 => 684
  | 19 => 692
  | 20 => 708
  | 21 => 712
  | 22 => 716
  | 23 => 697
  | 24 => 700
  | 25 => 704
  | 26 => 48
  | 27 => 254
  | 28 => 600
  | 29 => 449
  | 30 => 285
  | 31 => 462
  | 32 => 289
  | 33 => 335
  | 34 => 347
  | 35 => 331
  | 36 => 352
  | 37 => 356
  | 38 => 343
  | 39 => 514
  | 40 => 391
  | 41 => 293
  | 42 => 369
  | 43 => 298
  | 44 => 396
  | 45 => 327
  | 46 => 580
  | 47 => 584
  | 48 => 571
  | 49 => 339
  | 50 => 549
  | 51 => 553
  | 52 => 557
  | 53 => 470
  | 54 => 501
  | 55 => 466
  | 56 => 102
  | 57 => 272
  | 58 => 474
  | 59 => 421
  | 60 => 425
  | 61 => 414
  | 62 => 433
  | 63 => 192
  | 64 => 635
  | 65 => 639
  | 66 => 643
  | 67 => 648
  | 68 => 626
  | 69 => 592
  | 70 => 596
  | 71 => 604
  | 72 => 610
  | 73 => 621
  | 74 => 42
  | 75 => 250
  | 76 => 277
  | 77 => 323
  | 78 => 378
  | 79 => 387
  | 80 => 406
  | 81 => 740
  | 82 => 156
  | 83 => 482
  | 84 => 672
  | 85 => 773
  | 86 => 688
  | 87 => 34
  | 88 => 246
  | 89 => 319
  | 90 => 374
  | 91 => 383
  | 92 => 402
  | 93 => 410
  | 94 => 429
  | 95 => 668
  | 96 => 769
  | 97 => 676
  | 98 => 541
  | 99 => 437
  | 100 => 445
  | 101 => 453
  | 102 => 506
  | 103 => 545
  | 104 => 565
  | 105 => 576
  | 106 => 497
  | 107 => 519
  | 108 => 527
  | 109 => 588
  | 110 => 631
  | 111 => 457
  | 112 => 302
  | 113 => 746
  | 114 => 280
  | 115 => 417
  | 116 => 257
  | 117 => 485
  | 118 => 489
  | 119 => 493
  | 120 => 535
  | 121 => 532
  | 122 => 651
  | 123 => 654
  | 124 => 663
  | 125 => 660
  | 126 => 657
  | _ => 0
def rz_xI : Nat → Nat := fun k => match k with
  | 0 => 139
  | 1 => 476
  | 2 => 313
  | 3 => 304
  | 4 => 309
  | 5 => 439
  | 6 => 79
  | 7 => 265
  | 8 => 358
  | 9 => 362
  | 10 => 521
  | 11 => 169
  | 12 => 718
  | 13 => 727
  | 14 => 722
  | 15 => 730
  | 16 => 734
  | 17 => 678
  | 18 => 683
  | 19 => 691
  | 20 => 707
  | 21 => 711
  | 22 => 715
  | 23 => 696
  | 24 => 699
  | 25 => 703
  | 26 => 47
  | 27 => 252
  | 28 => 598
  | 29 => 447
  | 30 => 283
  | 31 => 460
  | 32 => 287
  | 33 => 334
  | 34 => 345
  | 35 => 329
  | 36 => 350
  | 37 => 354
  | 38 => 341
  | 39 => 512
  | 40 => 389
  | 41 => 291
  | 42 => 367
  | 43 => 296
  | 44 => 394
  | 45 => 325
  | 46 => 578
  | 47 => 583
  | 48 => 569
  | 49 => 337
  | 50 => 547
  | 51 => 551
  | 52 => 555
  | 53 => 468
  | 54 => 499
  | 55 => 464
  | 56 => 101
  | 57 => 270
  | 58 => 472
  | 59 => 419
  | 60 => 424
  | 61 => 412
  | 62 => 431
  | 63 => 191
  | 64 => 633
  | 65 => 637
  | 66 => 641
  | 67 => 646
  | 68 => 624
  | 69 => 590
  | 70 => 595
  | 71 => 603
  | 72 => 609
  | 73 => 620
  | 74 => 41
  | 75 => 248
  | 76 => 275
  | 77 => 321
  | 78 => 376
  | 79 => 385
  | 80 => 404
  | 81 => 738
  | 82 => 155
  | 83 => 480
  | 84 => 670
  | 85 => 771
  | 86 => 686
  | 87 => 33
  | 88 => 244
  | 89 => 317
  | 90 => 372
  | 91 => 381
  | 92 => 400
  | 93 => 408
  | 94 => 427
  | 95 => 666
  | 96 => 767
  | 97 => 674
  | 98 => 539
  | 99 => 435
  | 100 => 443
  | 101 => 451
  | 102 => 504
  | 103 => 543
  | 104 => 563
  | 105 => 574
  | 106 => 495
  | 107 => 517
  | 108 => 525
  | 109 => 586
  | 110 => 629
  | 111 => 455
  | 112 => 301
  | 113 => 745
  | 114 => 279
  | 115 => 416
  | 116 => 256
  | 117 => 484
  | 118 => 488
  | 119 => 492
  | 120 => 534
  | 121 => 531
  | 122 => 650
  | 123 => 653
  | 124 => 662
  | 125 => 659
  | 126 => 656
  | _ => 0
def rz_xS : Nat → Nat := fun k => match k with
  | 0 => 0
  | 1 => 477
  | 2 => 2
  | 3 => 305
  | 4 => 1
  | 5 => 440
  | 6 => 0
  | 7 => 266
  | 8 => 359
  | 9 => 0
  | 10 => 522
  | 11 => 0
  | 12 => 719
  | 13 => 17
  | 14 => 723
  | 15 => 731
  | 16 => 735
  | 17 => 679
  | 18 => 10
  | 19 => 11
  | 20 => 14
  | 21 => 15
  | 22 => 16
  | 23 => 12
  | 24 => 0
  | 25 => 13
  | 26 => 0
  | 27 => 253
  | 28 => 599
  | 29 => 448
  | 30 => 284
  | 31 => 461
  | 32 => 288
  | 33 => 3
  | 34 => 346
  | 35 => 330
  | 36 => 351
  | 37 => 355
  | 38 => 342
  | 39 => 513
  | 40 => 390
  | 41 => 292
  | 42 => 368
  | 43 => 297
  | 44 => 395
  | 45 => 326
  | 46 => 579
  | 47 => 5
  | 48 => 570
  | 49 => 338
  | 50 => 548
  | 51 => 552
  | 52 => 556
  | 53 => 469
  | 54 => 500
  | 55 => 465
  | 56 => 0
  | 57 => 271
  | 58 => 473
  | 59 => 420
  | 60 => 4
  | 61 => 413
  | 62 => 432
  | 63 => 0
  | 64 => 634
  | 65 => 638
  | 66 => 642
  | 67 => 647
  | 68 => 625
  | 69 => 591
  | 70 => 6
  | 71 => 7
  | 72 => 8
  | 73 => 9
  | 74 => 0
  | 75 => 249
  | 76 => 276
  | 77 => 322
  | 78 => 377
  | 79 => 386
  | 80 => 405
  | 81 => 739
  | 82 => 0
  | 83 => 481
  | 84 => 671
  | 85 => 772
  | 86 => 687
  | 87 => 0
  | 88 => 245
  | 89 => 318
  | 90 => 373
  | 91 => 382
  | 92 => 401
  | 93 => 409
  | 94 => 428
  | 95 => 667
  | 96 => 768
  | 97 => 675
  | 98 => 540
  | 99 => 436
  | 100 => 444
  | 101 => 452
  | 102 => 505
  | 103 => 544
  | 104 => 564
  | 105 => 575
  | 106 => 496
  | 107 => 518
  | 108 => 526
  | 109 => 587
  | 110 => 630
  | 111 => 456
  | 112 => 0
  | 113 => 0
  | 114 => 0
  | 115 => 0
  | 116 => 0
  | 117 => 0
  | 118 => 0
  | 119 => 0
  | 120 => 0
  | 121 => 0
  | 122 => 0
  | 123 => 0
  | 124 => 0
  | 125 => 0
  | 126 => 0
  | 127 => 0
  | _ => 0
def rz_xN : Nat → Nat := fun k => match k with
  | 0 => 24
  | 1 => 22
  | 2 => 26
  | 3 => 21
  | 4 => 23
  | 5 => 27
  | 6 => 20
  | 7 => 25
  | 8 => 19
  | 9 => 18
  | _ => 0
def rz_xW : Nat → Nat := fun k => match k with
  | 0 => 137
  | 1 => 77
  | 2 => 167
  | 3 => 45
  | 4 => 99
  | 5 => 189
  | 6 => 39
  | 7 => 153
  | 8 => 31
  | _ => 0
set_option maxRecDepth 100000 in
theorem rz_cd0 : lw_tbl[140]? = some (Cond.code (rz_Y 0) (rz_B 0) (rz_ML 0) (rz_RT 0)) := rfl
set_option maxRecDepth 100000 in
theorem rz_cd1 : lw_tbl[478]? = some (Cond.code (rz_Y 1) (rz_B 1) (rz_ML 1) (rz_RT 1)) := rfl
set_option maxRecDepth 100000 in
theorem rz_cd2 : lw_tbl[314]? = some (Cond.code (rz_Y 2) (rz_B 2) (rz_ML 2) (rz_RT 2)) := rfl
set_option maxRecDepth 100000 in
theorem rz_cd3 : lw_tbl[306]? = some (Cond.code (rz_Y 3) (rz_B 3) (rz_ML 3) (rz_RT 3)) := rfl
set_option maxRecDepth 100000 in
theorem rz_cd4 : lw_tbl[310]? = some (Cond.code (rz_Y 4) (rz_B 4) (rz_ML 4) (rz_RT 4)) := rfl
set_option maxRecDepth 100000 in
theorem rz_cd5 : lw_tbl[441]? = some (Cond.code (rz_Y 5) (rz_B 5) (rz_ML 5) (rz_RT 5)) := rfl
set_option maxRecDepth 100000 in
theorem rz_cd6 : lw_tbl[80]? = some (Cond.code (rz_Y 6) (rz_B 6) (rz_ML 6) (rz_RT 6)) := rfl
set_option maxRecDepth 100000 in
theorem rz_cd7 : lw_tbl[267]? = some (Cond.code (rz_Y 7) (rz_B 7) (rz_ML 7) (rz_RT 7)) := rfl
set_option maxRecDepth 100000 in
theorem rz_cd8 : lw_tbl[360]? = some (Cond.code (rz_Y 8) (rz_B 8) (rz_ML 8) (rz_RT 8)) := rfl
set_option maxRecDepth 100000 in
theorem rz_cd9 : lw_tbl[363]? = some (Cond.code (rz_Y 9) (rz_B 9) (rz_ML 9) (rz_RT 9)) := rfl
set_option maxRecDepth 100000 in
theorem rz_cd10 : lw_tbl[523]? = some (Cond.code (rz_Y 10) (rz_B 10) (rz_ML 10) (rz_RT 10)) := rfl
set_option maxRecDepth 100000 in
theorem rz_cd11 : lw_tbl[170]? = some (Cond.code (rz_Y 11) (rz_B 11) (rz_ML 11) (rz_RT 11)) := rfl
set_option maxRecDepth 100000 in
theorem rz_cd12 : lw_tbl[720]? = some (Cond.code (rz_Y 12) (rz_B 12) (rz_ML 12) (rz_RT 12)) := rfl
set_option maxRecDepth 100000 in
theorem rz_cd13 : lw_tbl[728]? = some (Cond.code (rz_Y 13) (rz_B 13) (rz_ML 13) (rz_RT 13)) := rfl
set_option maxRecDepth 100000 in
theorem rz_cd14 : lw_tbl[724]? = some (Cond.code (rz_Y 14) (rz_B 14) (rz_ML 14) (rz_RT 14)) := rfl
set_option maxRecDepth 100000 in
theorem rz_cd15 : lw_tbl[732]? = some (Cond.code (rz_Y 15) (rz_B 15) (rz_ML 15) (rz_RT 15)) := rfl
set_option maxRecDepth 100000 in
theorem rz_cd16 : lw_tbl[736]? = some (Cond.code (rz_Y 16) (rz_B 16) (rz_ML 16) (rz_RT 16)) := rfl
set_option maxRecDepth 100000 in
theorem rz_cd17 : lw_tbl[680]? = some (Cond.code (rz_Y 17) (rz_B 17) (rz_ML 17) (rz_RT 17)) := rfl
set_option maxRecDepth 100000 in
theorem rz_cd18 : lw_tbl[684]? = some (Cond.code (rz_Y 18) (rz_B 18) (rz_ML 18) (rz_RT 18)) := rfl
set_option maxRecDepth 100000 in
theorem rz_cd19 : lw_tbl[692]? = some (Cond.code (rz_Y 19) (rz_B 19) (rz_ML 19) (rz_RT 19)) := rfl
set_option maxRecDepth 100000 in
theorem rz_cd20 : lw_tbl[708]? = some (Cond.code (rz_Y 20) (rz_B 20) (rz_ML 20) (rz_RT 20)) := rfl
set_option maxRecDepth 100000 in
theorem rz_cd21 : lw_tbl[712]? = some (Cond.code (rz_Y 21) (rz_B 21) (rz_ML 21) (rz_RT 21)) := rfl
set_option maxRecDepth 100000 in
theorem rz_cd22 : lw_tbl[716]? = some (Cond.code (rz_Y 22) (rz_B 22) (rz_ML 22) (rz_RT 22)) := rfl
set_option maxRecDepth 100000 in
theorem rz_cd23 : lw_tbl[697]? = some (Cond.code (rz_Y 23) (rz_B 23) (rz_ML 23) (rz_RT 23)) := rfl
set_option maxRecDepth 100000 in
theorem rz_cd24 : lw_tbl[700]? = some (Cond.code (rz_Y 24) (rz_B 24) (rz_ML 24) (rz_RT 24)) := rfl
set_option maxRecDepth 100000 in
theorem rz_cd25 : lw_tbl[704]? = some (Cond.code (rz_Y 25) (rz_B 25) (rz_ML 25) (rz_RT 25)) := rfl
set_option maxRecDepth 100000 in
theorem rz_cd26 : lw_tbl[48]? = some (Cond.code (rz_Y 26) (rz_B 26) (rz_ML 26) (rz_RT 26)) := rfl
set_option maxRecDepth 100000 in
theorem rz_cd27 : lw_tbl[254]? = some (Cond.code (rz_Y 27) (rz_B 27) (rz_ML 27) (rz_RT 27)) := rfl
set_option maxRecDepth 100000 in
theorem rz_cd28 : lw_tbl[600]? = some (Cond.code (rz_Y 28) (rz_B 28) (rz_ML 28) (rz_RT 28)) := rfl
set_option maxRecDepth 100000 in
theorem rz_cd29 : lw_tbl[449]? = some (Cond.code (rz_Y 29) (rz_B 29) (rz_ML 29) (rz_RT 29)) := rfl
set_option maxRecDepth 100000 in
theorem rz_cd30 : lw_tbl[285]? = some (Cond.code (rz_Y 30) (rz_B 30) (rz_ML 30) (rz_RT 30)) := rfl
set_option maxRecDepth 100000 in
theorem rz_cd31 : lw_tbl[462]? = some (Cond.code (rz_Y 31) (rz_B 31) (rz_ML 31) (rz_RT 31)) := rfl
set_option maxRecDepth 100000 in
theorem rz_cd32 : lw_tbl[289]? = some (Cond.code (rz_Y 32) (rz_B 32) (rz_ML 32) (rz_RT 32)) := rfl
set_option maxRecDepth 100000 in
theorem rz_cd33 : lw_tbl[335]? = some (Cond.code (rz_Y 33) (rz_B 33) (rz_ML 33) (rz_RT 33)) := rfl
set_option maxRecDepth 100000 in
theorem rz_cd34 : lw_tbl[347]? = some (Cond.code (rz_Y 34) (rz_B 34) (rz_ML 34) (rz_RT 34)) := rfl
set_option maxRecDepth 100000 in
theorem rz_cd35 : lw_tbl[331]? = some (Cond.code (rz_Y 35) (rz_B 35) (rz_ML 35) (rz_RT 35)) := rfl
set_option maxRecDepth 100000 in
theorem rz_cd36 : lw_tbl[352]? = some (Cond.code (rz_Y 36) (rz_B 36) (rz_ML 36) (rz_RT 36)) := rfl
set_option maxRecDepth 100000 in
theorem rz_cd37 : lw_tbl[356]? = some (Cond.code (rz_Y 37) (rz_B 37) (rz_ML 37) (rz_RT 37)) := rfl
set_option maxRecDepth 100000 in
theorem rz_cd38 : lw_tbl[343]? = some (Cond.code (rz_Y 38) (rz_B 38) (rz_ML 38) (rz_RT 38)) := rfl
set_option maxRecDepth 100000 in
theorem rz_cd39 : lw_tbl[514]? = some (Cond.code (rz_Y 39) (rz_B 39) (rz_ML 39) (rz_RT 39)) := rfl
set_option maxRecDepth 100000 in
theorem rz_cd40 : lw_tbl[391]? = some (Cond.code (rz_Y 40) (rz_B 40) (rz_ML 40) (rz_RT 40)) := rfl
set_option maxRecDepth 100000 in
theorem rz_cd41 : lw_tbl[293]? = some (Cond.code (rz_Y 41) (rz_B 41) (rz_ML 41) (rz_RT 41)) := rfl
set_option maxRecDepth 100000 in
theorem rz_cd42 : lw_tbl[369]? = some (Cond.code (rz_Y 42) (rz_B 42) (rz_ML 42) (rz_RT 42)) := rfl
set_option maxRecDepth 100000 in
theorem rz_cd43 : lw_tbl[298]? = some (Cond.code (rz_Y 43) (rz_B 43) (rz_ML 43) (rz_RT 43)) := rfl
set_option maxRecDepth 100000 in
theorem rz_cd44 : lw_tbl[396]? = some (Cond.code (rz_Y 44) (rz_B 44) (rz_ML 44) (rz_RT 44)) := rfl
set_option maxRecDepth 100000 in
theorem rz_cd45 : lw_tbl[327]? = some (Cond.code (rz_Y 45) (rz_B 45) (rz_ML 45) (rz_RT 45)) := rfl
set_option maxRecDepth 100000 in
theorem rz_cd46 : lw_tbl[580]? = some (Cond.code (rz_Y 46) (rz_B 46) (rz_ML 46) (rz_RT 46)) := rfl
set_option maxRecDepth 100000 in
theorem rz_cd47 : lw_tbl[584]? = some (Cond.code (rz_Y 47) (rz_B 47) (rz_ML 47) (rz_RT 47)) := rfl
set_option maxRecDepth 100000 in
theorem rz_cd48 : lw_tbl[571]? = some (Cond.code (rz_Y 48) (rz_B 48) (rz_ML 48) (rz_RT 48)) := rfl
set_option maxRecDepth 100000 in
theorem rz_cd49 : lw_tbl[339]? = some (Cond.code (rz_Y 49) (rz_B 49) (rz_ML 49) (rz_RT 49)) := rfl
set_option maxRecDepth 100000 in
theorem rz_cd50 : lw_tbl[549]? = some (Cond.code (rz_Y 50) (rz_B 50) (rz_ML 50) (rz_RT 50)) := rfl
set_option maxRecDepth 100000 in
theorem rz_cd51 : lw_tbl[553]? = some (Cond.code (rz_Y 51) (rz_B 51) (rz_ML 51) (rz_RT 51)) := rfl
set_option maxRecDepth 100000 in
theorem rz_cd52 : lw_tbl[557]? = some (Cond.code (rz_Y 52) (rz_B 52) (rz_ML 52) (rz_RT 52)) := rfl
set_option maxRecDepth 100000 in
theorem rz_cd53 : lw_tbl[470]? = some (Cond.code (rz_Y 53) (rz_B 53) (rz_ML 53) (rz_RT 53)) := rfl
set_option maxRecDepth 100000 in
theorem rz_cd54 : lw_tbl[501]? = some (Cond.code (rz_Y 54) (rz_B 54) (rz_ML 54) (rz_RT 54)) := rfl
set_option maxRecDepth 100000 in
theorem rz_cd55 : lw_tbl[466]? = some (Cond.code (rz_Y 55) (rz_B 55) (rz_ML 55) (rz_RT 55)) := rfl
set_option maxRecDepth 100000 in
theorem rz_cd56 : lw_tbl[102]? = some (Cond.code (rz_Y 56) (rz_B 56) (rz_ML 56) (rz_RT 56)) := rfl
set_option maxRecDepth 100000 in
theorem rz_cd57 : lw_tbl[272]? = some (Cond.code (rz_Y 57) (rz_B 57) (rz_ML 57) (rz_RT 57)) := rfl
set_option maxRecDepth 100000 in
theorem rz_cd58 : lw_tbl[474]? = some (Cond.code (rz_Y 58) (rz_B 58) (rz_ML 58) (rz_RT 58)) := rfl
set_option maxRecDepth 100000 in
theorem rz_cd59 : lw_tbl[421]? = some (Cond.code (rz_Y 59) (rz_B 59) (rz_ML 59) (rz_RT 59)) := rfl
set_option maxRecDepth 100000 in
theorem rz_cd60 : lw_tbl[425]? = some (Cond.code (rz_Y 60) (rz_B 60) (rz_ML 60) (rz_RT 60)) := rfl
set_option maxRecDepth 100000 in
theorem rz_cd61 : lw_tbl[414]? = some (Cond.code (rz_Y 61) (rz_B 61) (rz_ML 61) (rz_RT 61)) := rfl
set_option maxRecDepth 100000 in
theorem rz_cd62 : lw_tbl[433]? = some (Cond.code (rz_Y 62) (rz_B 62) (rz_ML 62) (rz_RT 62)) := rfl
set_option maxRecDepth 100000 in
theorem rz_cd63 : lw_tbl[192]? = some (Cond.code (rz_Y 63) (rz_B 63) (rz_ML 63) (rz_RT 63)) := rfl
set_option maxRecDepth 100000 in
theorem rz_cd64 : lw_tbl[635]? = some (Cond.code (rz_Y 64) (rz_B 64) (rz_ML 64) (rz_RT 64)) := rfl
set_option maxRecDepth 100000 in
theorem rz_cd65 : lw_tbl[639]? = some (Cond.code (rz_Y 65) (rz_B 65) (rz_ML 65) (rz_RT 65)) := rfl
set_option maxRecDepth 100000 in
theorem rz_cd66 : lw_tbl[643]? = some (Cond.code (rz_Y 66) (rz_B 66) (rz_ML 66) (rz_RT 66)) := rfl
set_option maxRecDepth 100000 in
theorem rz_cd67 : lw_tbl[648]? = some (Cond.code (rz_Y 67) (rz_B 67) (rz_ML 67) (rz_RT 67)) := rfl
set_option maxRecDepth 100000 in
theorem rz_cd68 : lw_tbl[626]? = some (Cond.code (rz_Y 68) (rz_B 68) (rz_ML 68) (rz_RT 68)) := rfl
set_option maxRecDepth 100000 in
theorem rz_cd69 : lw_tbl[592]? = some (Cond.code (rz_Y 69) (rz_B 69) (rz_ML 69) (rz_RT 69)) := rfl
set_option maxRecDepth 100000 in
theorem rz_cd70 : lw_tbl[596]? = some (Cond.code (rz_Y 70) (rz_B 70) (rz_ML 70) (rz_RT 70)) := rfl
set_option maxRecDepth 100000 in
theorem rz_cd71 : lw_tbl[604]? = some (Cond.code (rz_Y 71) (rz_B 71) (rz_ML 71) (rz_RT 71)) := rfl
set_option maxRecDepth 100000 in
theorem rz_cd72 : lw_tbl[610]? = some (Cond.code (rz_Y 72) (rz_B 72) (rz_ML 72) (rz_RT 72)) := rfl
set_option maxRecDepth 100000 in
theorem rz_cd73 : lw_tbl[621]? = some (Cond.code (rz_Y 73) (rz_B 73) (rz_ML 73) (rz_RT 73)) := rfl
set_option maxRecDepth 100000 in
theorem rz_cd74 : lw_tbl[42]? = some (Cond.code (rz_Y 74) (rz_B 74) (rz_ML 74) (rz_RT 74)) := rfl
set_option maxRecDepth 100000 in
theorem rz_cd75 : lw_tbl[250]? = some (Cond.code (rz_Y 75) (rz_B 75) (rz_ML 75) (rz_RT 75)) := rfl
set_option maxRecDepth 100000 in
theorem rz_cd76 : lw_tbl[277]? = some (Cond.code (rz_Y 76) (rz_B 76) (rz_ML 76) (rz_RT 76)) := rfl
set_option maxRecDepth 100000 in
theorem rz_cd77 : lw_tbl[323]? = some (Cond.code (rz_Y 77) (rz_B 77) (rz_ML 77) (rz_RT 77)) := rfl
set_option maxRecDepth 100000 in
theorem rz_cd78 : lw_tbl[378]? = some (Cond.code (rz_Y 78) (rz_B 78) (rz_ML 78) (rz_RT 78)) := rfl
set_option maxRecDepth 100000 in
theorem rz_cd79 : lw_tbl[387]? = some (Cond.code (rz_Y 79) (rz_B 79) (rz_ML 79) (rz_RT 79)) := rfl
set_option maxRecDepth 100000 in
theorem rz_cd80 : lw_tbl[406]? = some (Cond.code (rz_Y 80) (rz_B 80) (rz_ML 80) (rz_RT 80)) := rfl
set_option maxRecDepth 100000 in
theorem rz_cd81 : lw_tbl[740]? = some (Cond.code (rz_Y 81) (rz_B 81) (rz_ML 81) (rz_RT 81)) := rfl
set_option maxRecDepth 100000 in
theorem rz_cd82 : lw_tbl[156]? = some (Cond.code (rz_Y 82) (rz_B 82) (rz_ML 82) (rz_RT 82)) := rfl
set_option maxRecDepth 100000 in
theorem rz_cd83 : lw_tbl[482]? = some (Cond.code (rz_Y 83) (rz_B 83) (rz_ML 83) (rz_RT 83)) := rfl
set_option maxRecDepth 100000 in
theorem rz_cd84 : lw_tbl[672]? = some (Cond.code (rz_Y 84) (rz_B 84) (rz_ML 84) (rz_RT 84)) := rfl
set_option maxRecDepth 100000 in
theorem rz_cd85 : lw_tbl[773]? = some (Cond.code (rz_Y 85) (rz_B 85) (rz_ML 85) (rz_RT 85)) := rfl
set_option maxRecDepth 100000 in
theorem rz_cd86 : lw_tbl[688]? = some (Cond.code (rz_Y 86) (rz_B 86) (rz_ML 86) (rz_RT 86)) := rfl
set_option maxRecDepth 100000 in
theorem rz_cd87 : lw_tbl[34]? = some (Cond.code (rz_Y 87) (rz_B 87) (rz_ML 87) (rz_RT 87)) := rfl
set_option maxRecDepth 100000 in
theorem rz_cd88 : lw_tbl[246]? = some (Cond.code (rz_Y 88) (rz_B 88) (rz_ML 88) (rz_RT 88)) := rfl
set_option maxRecDepth 100000 in
theorem rz_cd89 : lw_tbl[319]? = some (Cond.code (rz_Y 89) (rz_B 89) (rz_ML 89) (rz_RT 89)) := rfl
set_option maxRecDepth 100000 in
theorem rz_cd90 : lw_tbl[374]? = some (Cond.code (rz_Y 90) (rz_B 90) (rz_ML 90) (rz_RT 90)) := rfl
set_option maxRecDepth 100000 in
theorem rz_cd91 : lw_tbl[383]? = some (Cond.code (rz_Y 91) (rz_B 91) (rz_ML 91) (rz_RT 91)) := rfl
set_option maxRecDepth 100000 in
theorem rz_cd92 : lw_tbl[402]? = some (Cond.code (rz_Y 92) (rz_B 92) (rz_ML 92) (rz_RT 92)) := rfl
set_option maxRecDepth 100000 in
theorem rz_cd93 : lw_tbl[410]? = some (Cond.code (rz_Y 93) (rz_B 93) (rz_ML 93) (rz_RT 93)) := rfl
set_option maxRecDepth 100000 in
theorem rz_cd94 : lw_tbl[429]? = some (Cond.code (rz_Y 94) (rz_B 94) (rz_ML 94) (rz_RT 94)) := rfl
set_option maxRecDepth 100000 in
theorem rz_cd95 : lw_tbl[668]? = some (Cond.code (rz_Y 95) (rz_B 95) (rz_ML 95) (rz_RT 95)) := rfl
set_option maxRecDepth 100000 in
theorem rz_cd96 : lw_tbl[769]? = some (Cond.code (rz_Y 96) (rz_B 96) (rz_ML 96) (rz_RT 96)) := rfl
set_option maxRecDepth 100000 in
theorem rz_cd97 : lw_tbl[676]? = some (Cond.code (rz_Y 97) (rz_B 97) (rz_ML 97) (rz_RT 97)) := rfl
set_option maxRecDepth 100000 in
theorem rz_cd98 : lw_tbl[541]? = some (Cond.code (rz_Y 98) (rz_B 98) (rz_ML 98) (rz_RT 98)) := rfl
set_option maxRecDepth 100000 in
theorem rz_cd99 : lw_tbl[437]? = some (Cond.code (rz_Y 99) (rz_B 99) (rz_ML 99) (rz_RT 99)) := rfl
set_option maxRecDepth 100000 in
theorem rz_cd100 : lw_tbl[445]? = some (Cond.code (rz_Y 100) (rz_B 100) (rz_ML 100) (rz_RT 100)) := rfl
set_option maxRecDepth 100000 in
theorem rz_cd101 : lw_tbl[453]? = some (Cond.code (rz_Y 101) (rz_B 101) (rz_ML 101) (rz_RT 101)) := rfl
set_option maxRecDepth 100000 in
theorem rz_cd102 : lw_tbl[506]? = some (Cond.code (rz_Y 102) (rz_B 102) (rz_ML 102) (rz_RT 102)) := rfl
set_option maxRecDepth 100000 in
theorem rz_cd103 : lw_tbl[545]? = some (Cond.code (rz_Y 103) (rz_B 103) (rz_ML 103) (rz_RT 103)) := rfl
set_option maxRecDepth 100000 in
theorem rz_cd104 : lw_tbl[565]? = some (Cond.code (rz_Y 104) (rz_B 104) (rz_ML 104) (rz_RT 104)) := rfl
set_option maxRecDepth 100000 in
theorem rz_cd105 : lw_tbl[576]? = some (Cond.code (rz_Y 105) (rz_B 105) (rz_ML 105) (rz_RT 105)) := rfl
set_option maxRecDepth 100000 in
theorem rz_cd106 : lw_tbl[497]? = some (Cond.code (rz_Y 106) (rz_B 106) (rz_ML 106) (rz_RT 106)) := rfl
set_option maxRecDepth 100000 in
theorem rz_cd107 : lw_tbl[519]? = some (Cond.code (rz_Y 107) (rz_B 107) (rz_ML 107) (rz_RT 107)) := rfl
set_option maxRecDepth 100000 in
theorem rz_cd108 : lw_tbl[527]? = some (Cond.code (rz_Y 108) (rz_B 108) (rz_ML 108) (rz_RT 108)) := rfl
set_option maxRecDepth 100000 in
theorem rz_cd109 : lw_tbl[588]? = some (Cond.code (rz_Y 109) (rz_B 109) (rz_ML 109) (rz_RT 109)) := rfl
set_option maxRecDepth 100000 in
theorem rz_cd110 : lw_tbl[631]? = some (Cond.code (rz_Y 110) (rz_B 110) (rz_ML 110) (rz_RT 110)) := rfl
set_option maxRecDepth 100000 in
theorem rz_cd111 : lw_tbl[457]? = some (Cond.code (rz_Y 111) (rz_B 111) (rz_ML 111) (rz_RT 111)) := rfl
set_option maxRecDepth 100000 in
theorem rz_cd112 : lw_tbl[302]? = some (Cond.code (rz_Y 112) (rz_B 112) (rz_ML 112) (rz_RT 112)) := rfl
set_option maxRecDepth 100000 in
theorem rz_cd113 : lw_tbl[746]? = some (Cond.code (rz_Y 113) (rz_B 113) (rz_ML 113) (rz_RT 113)) := rfl
set_option maxRecDepth 100000 in
theorem rz_cd114 : lw_tbl[280]? = some (Cond.code (rz_Y 114) (rz_B 114) (rz_ML 114) (rz_RT 114)) := rfl
set_option maxRecDepth 100000 in
theorem rz_cd115 : lw_tbl[417]? = some (Cond.code (rz_Y 115) (rz_B 115) (rz_ML 115) (rz_RT 115)) := rfl
set_option maxRecDepth 100000 in
theorem rz_cd116 : lw_tbl[257]? = some (Cond.code (rz_Y 116) (rz_B 116) (rz_ML 116) (rz_RT 116)) := rfl
set_option maxRecDepth 100000 in
theorem rz_cd117 : lw_tbl[485]? = some (Cond.code (rz_Y 117) (rz_B 117) (rz_ML 117) (rz_RT 117)) := rfl
set_option maxRecDepth 100000 in
theorem rz_cd118 : lw_tbl[489]? = some (Cond.code (rz_Y 118) (rz_B 118) (rz_ML 118) (rz_RT 118)) := rfl
set_option maxRecDepth 100000 in
theorem rz_cd119 : lw_tbl[493]? = some (Cond.code (rz_Y 119) (rz_B 119) (rz_ML 119) (rz_RT 119)) := rfl
set_option maxRecDepth 100000 in
theorem rz_cd120 : lw_tbl[535]? = some (Cond.code (rz_Y 120) (rz_B 120) (rz_ML 120) (rz_RT 120)) := rfl
set_option maxRecDepth 100000 in
theorem rz_cd121 : lw_tbl[532]? = some (Cond.code (rz_Y 121) (rz_B 121) (rz_ML 121) (rz_RT 121)) := rfl
set_option maxRecDepth 100000 in
theorem rz_cd122 : lw_tbl[651]? = some (Cond.code (rz_Y 122) (rz_B 122) (rz_ML 122) (rz_RT 122)) := rfl
set_option maxRecDepth 100000 in
theorem rz_cd123 : lw_tbl[654]? = some (Cond.code (rz_Y 123) (rz_B 123) (rz_ML 123) (rz_RT 123)) := rfl
set_option maxRecDepth 100000 in
theorem rz_cd124 : lw_tbl[663]? = some (Cond.code (rz_Y 124) (rz_B 124) (rz_ML 124) (rz_RT 124)) := rfl
set_option maxRecDepth 100000 in
theorem rz_cd125 : lw_tbl[660]? = some (Cond.code (rz_Y 125) (rz_B 125) (rz_ML 125) (rz_RT 125)) := rfl
set_option maxRecDepth 100000 in
theorem rz_cd126 : lw_tbl[657]? = some (Cond.code (rz_Y 126) (rz_B 126) (rz_ML 126) (rz_RT 126)) := rfl
theorem rz_okD : ∀ k, k < 127 → ∃ i : Nat, lw_tbl[i]? = some (Cond.code (rz_Y k) (rz_B k) (rz_ML k) (rz_RT k)) := by
  intro k hk
  match k, hk with
  | 0, _ => exact ⟨_, rz_cd0⟩
  | 1, _ => exact ⟨_, rz_cd1⟩
  | 2, _ => exact ⟨_, rz_cd2⟩
  | 3, _ => exact ⟨_, rz_cd3⟩
  | 4, _ => exact ⟨_, rz_cd4⟩
  | 5, _ => exact ⟨_, rz_cd5⟩
  | 6, _ => exact ⟨_, rz_cd6⟩
  | 7, _ => exact ⟨_, rz_cd7⟩
  | 8, _ => exact ⟨_, rz_cd8⟩
  | 9, _ => exact ⟨_, rz_cd9⟩
  | 10, _ => exact ⟨_, rz_cd10⟩
  | 11, _ => exact ⟨_, rz_cd11⟩
  | 12, _ => exact ⟨_, rz_cd12⟩
  | 13, _ => exact ⟨_, rz_cd13⟩
  | 14, _ => exact ⟨_, rz_cd14⟩
  | 15, _ => exact ⟨_, rz_cd15⟩
  | 16, _ => exact ⟨_, rz_cd16⟩
  | 17, _ => exact ⟨_, rz_cd17⟩
  | 18, _ => exact ⟨_, rz_cd18⟩
  | 19, _ => exact ⟨_, rz_cd19⟩
  | 20, _ => exact ⟨_, rz_cd20⟩
  | 21, _ => exact ⟨_, rz_cd21⟩
  | 22, _ => exact ⟨_, rz_cd22⟩
  | 23, _ => exact ⟨_, rz_cd23⟩
  | 24, _ => exact ⟨_, rz_cd24⟩
  | 25, _ => exact ⟨_, rz_cd25⟩
  | 26, _ => exact ⟨_, rz_cd26⟩
  | 27, _ => exact ⟨_, rz_cd27⟩
  | 28, _ => exact ⟨_, rz_cd28⟩
  | 29, _ => exact ⟨_, rz_cd29⟩
  | 30, _ => exact ⟨_, rz_cd30⟩
  | 31, _ => exact ⟨_, rz_cd31⟩
  | 32, _ => exact ⟨_, rz_cd32⟩
  | 33, _ => exact ⟨_, rz_cd33⟩
  | 34, _ => exact ⟨_, rz_cd34⟩
  | 35, _ => exact ⟨_, rz_cd35⟩
  | 36, _ => exact ⟨_, rz_cd36⟩
  | 37, _ => exact ⟨_, rz_cd37⟩
  | 38, _ => exact ⟨_, rz_cd38⟩
  | 39, _ => exact ⟨_, rz_cd39⟩
  | 40, _ => exact ⟨_, rz_cd40⟩
  | 41, _ => exact ⟨_, rz_cd41⟩
  | 42, _ => exact ⟨_, rz_cd42⟩
  | 43, _ => exact ⟨_, rz_cd43⟩
  | 44, _ => exact ⟨_, rz_cd44⟩
  | 45, _ => exact ⟨_, rz_cd45⟩
  | 46, _ => exact ⟨_, rz_cd46⟩
  | 47, _ => exact ⟨_, rz_cd47⟩
  | 48, _ => exact ⟨_, rz_cd48⟩
  | 49, _ => exact ⟨_, rz_cd49⟩
  | 50, _ => exact ⟨_, rz_cd50⟩
  | 51, _ => exact ⟨_, rz_cd51⟩
  | 52, _ => exact ⟨_, rz_cd52⟩
  | 53, _ => exact ⟨_, rz_cd53⟩
  | 54, _ => exact ⟨_, rz_cd54⟩
  | 55, _ => exact ⟨_, rz_cd55⟩
  | 56, _ => exact ⟨_, rz_cd56⟩
  | 57, _ => exact ⟨_, rz_cd57⟩
  | 58, _ => exact ⟨_, rz_cd58⟩
  | 59, _ => exact ⟨_, rz_cd59⟩
  | 60, _ => exact ⟨_, rz_cd60⟩
  | 61, _ => exact ⟨_, rz_cd61⟩
  | 62, _ => exact ⟨_, rz_cd62⟩
  | 63, _ => exact ⟨_, rz_cd63⟩
  | 64, _ => exact ⟨_, rz_cd64⟩
  | 65, _ => exact ⟨_, rz_cd65⟩
  | 66, _ => exact ⟨_, rz_cd66⟩
  | 67, _ => exact ⟨_, rz_cd67⟩
  | 68, _ => exact ⟨_, rz_cd68⟩
  | 69, _ => exact ⟨_, rz_cd69⟩
  | 70, _ => exact ⟨_, rz_cd70⟩
  | 71, _ => exact ⟨_, rz_cd71⟩
  | 72, _ => exact ⟨_, rz_cd72⟩
  | 73, _ => exact ⟨_, rz_cd73⟩
  | 74, _ => exact ⟨_, rz_cd74⟩
  | 75, _ => exact ⟨_, rz_cd75⟩
  | 76, _ => exact ⟨_, rz_cd76⟩
  | 77, _ => exact ⟨_, rz_cd77⟩
  | 78, _ => exact ⟨_, rz_cd78⟩
  | 79, _ => exact ⟨_, rz_cd79⟩
  | 80, _ => exact ⟨_, rz_cd80⟩
  | 81, _ => exact ⟨_, rz_cd81⟩
  | 82, _ => exact ⟨_, rz_cd82⟩
  | 83, _ => exact ⟨_, rz_cd83⟩
  | 84, _ => exact ⟨_, rz_cd84⟩
  | 85, _ => exact ⟨_, rz_cd85⟩
  | 86, _ => exact ⟨_, rz_cd86⟩
  | 87, _ => exact ⟨_, rz_cd87⟩
  | 88, _ => exact ⟨_, rz_cd88⟩
  | 89, _ => exact ⟨_, rz_cd89⟩
  | 90, _ => exact ⟨_, rz_cd90⟩
  | 91, _ => exact ⟨_, rz_cd91⟩
  | 92, _ => exact ⟨_, rz_cd92⟩
  | 93, _ => exact ⟨_, rz_cd93⟩
  | 94, _ => exact ⟨_, rz_cd94⟩
  | 95, _ => exact ⟨_, rz_cd95⟩
  | 96, _ => exact ⟨_, rz_cd96⟩
  | 97, _ => exact ⟨_, rz_cd97⟩
  | 98, _ => exact ⟨_, rz_cd98⟩
  | 99, _ => exact ⟨_, rz_cd99⟩
  | 100, _ => exact ⟨_, rz_cd100⟩
  | 101, _ => exact ⟨_, rz_cd101⟩
  | 102, _ => exact ⟨_, rz_cd102⟩
  | 103, _ => exact ⟨_, rz_cd103⟩
  | 104, _ => exact ⟨_, rz_cd104⟩
  | 105, _ => exact ⟨_, rz_cd105⟩
  | 106, _ => exact ⟨_, rz_cd106⟩
  | 107, _ => exact ⟨_, rz_cd107⟩
  | 108, _ => exact ⟨_, rz_cd108⟩
  | 109, _ => exact ⟨_, rz_cd109⟩
  | 110, _ => exact ⟨_, rz_cd110⟩
  | 111, _ => exact ⟨_, rz_cd111⟩
  | 112, _ => exact ⟨_, rz_cd112⟩
  | 113, _ => exact ⟨_, rz_cd113⟩
  | 114, _ => exact ⟨_, rz_cd114⟩
  | 115, _ => exact ⟨_, rz_cd115⟩
  | 116, _ => exact ⟨_, rz_cd116⟩
  | 117, _ => exact ⟨_, rz_cd117⟩
  | 118, _ => exact ⟨_, rz_cd118⟩
  | 119, _ => exact ⟨_, rz_cd119⟩
  | 120, _ => exact ⟨_, rz_cd120⟩
  | 121, _ => exact ⟨_, rz_cd121⟩
  | 122, _ => exact ⟨_, rz_cd122⟩
  | 123, _ => exact ⟨_, rz_cd123⟩
  | 124, _ => exact ⟨_, rz_cd124⟩
  | 125, _ => exact ⟨_, rz_cd125⟩
  | 126, _ => exact ⟨_, rz_cd126⟩
  | n + 127, h => omega
theorem rz_okM : ∀ k, k < 127 → (rz_kd k = 1 → lw_tbl[rz_xI k]? = some (Cond.static (rz_Y k))) ∧ (rz_kd k ≠ 1 → lw_tbl[rz_xI k]? = some (Cond.instanceMethod (rz_Y k))) ∧ (rz_kd k = 0 → lw_tbl[rz_xS k]? = some (Cond.selects (rz_Y k).cls (rz_Y k) (rz_Y k))) := by decide +kernel
theorem rz_okY : ∀ k, k < 128 → (rz_Y k).cls = rz_R (rz_K k) ∧ rz_K k < 10 ∧ ((rz_Y k).cls ≠ "java/lang/invoke/MethodHandle" ∧ (rz_Y k).cls ≠ "java/lang/invoke/VarHandle") ∧ (parseMethodDescriptor (rz_Y k).desc).map (fun d => d.parameters.length) = some (rz_np k) ∧ rz_ML k ≤ 11 ∧ rz_np k + (if rz_kd k = 1 then 0 else 1) ≤ rz_ML k ∧ (rz_kd k = 2 → (rz_Y k).name = "<init>" ∧ rz_RT k = none) ∧ plainName (rz_Y k).cls = true := by decide +kernel
theorem rz_okN : ∀ c, c < 10 → lw_tbl[rz_xN c]? = some (Cond.initialized (rz_R c)) := by decide +kernel
theorem rz_okC : ∀ c, c < 9 → lw_tbl[rz_xN c]? = some (Cond.initialized (rz_R c)) ∧ lw_tbl[rz_xW c]? = some (Cond.instantiable (rz_R c) (rz_N c)) ∧ rz_cls[c]? = some (rz_R c, rz_T c, rz_N c) := by
  intro c hc
  refine ⟨?_, ?_, ?_⟩
  · revert c; decide +kernel
  · revert c; decide +kernel
  · match c, hc with
    | 0, _ => rfl
    | 1, _ => rfl
    | 2, _ => rfl
    | 3, _ => rfl
    | 4, _ => rfl
    | 5, _ => rfl
    | 6, _ => rfl
    | 7, _ => rfl
    | 8, _ => rfl
    | n + 9, h => omega
-- links by class number and index: fields ((class, index), (class of the field, its place), place in the tables)
def rz_fl : List ((Nat × Nat) × (Nat × Nat)) := [((3, 9), (3, 0)), ((3, 15), (3, 1)), ((3, 18), (3, 2)), ((3, 21), (3, 3)), ((3, 24), (3, 4)), ((3, 31), (3, 5)), ((3, 35), (3, 6)), ((3, 38), (3, 7)), ((1, 9), (1, 0)), ((1, 15), (1, 1)), ((1, 18), (1, 2)), ((1, 21), (1, 3)), ((1, 28), (1, 4)), ((4, 9), (4, 0)), ((4, 19), (4, 1)), ((6, 12), (6, 0)), ((8, 133), (6, 0)), ((6, 21), (6, 1)), ((8, 185), (6, 1)), ((6, 28), (6, 2)), ((8, 79), (6, 2)), ((6, 42), (6, 3)), ((8, 219), (6, 3)), ((6, 46), (6, 4)), ((8, 221), (6, 4)), ((6, 49), (6, 5)), ((8, 234), (6, 5)), ((0, 11), (0, 0)), ((0, 18), (0, 1)), ((7, 9), (7, 0)), ((7, 15), (7, 1)), ((2, 9), (2, 0)), ((2, 15), (2, 1)), ((2, 19), (2, 2)), ((2, 22), (2, 3)), ((2, 30), (2, 4)), ((5, 12), (5, 0)), ((5, 18), (5, 1)), ((5, 22), (5, 2)), ((5, 26), (5, 3)), ((5, 33), (5, 4)), ((8, 10), (8, 0)), ((8, 16), (8, 1)), ((8, 19), (8, 2)), ((8, 25), (8, 3)), ((8, 32), (8, 4)), ((8, 39), (8, 5)), ((8, 46), (8, 6)), ((8, 129), (8, 7)), ((8, 122), (8, 8)), ((8, 50), (8, 9))]
def rz_flx : List Nat := [50, 51, 52, 53, 54, 55, 56, 57, 82, 83, 84, 85, 86, 104, 105, 111, 112, 113, 114, 115, 116, 117, 118, 119, 120, 121, 122, 145, 146, 158, 159, 172, 173, 174, 175, 176, 196, 197, 198, 199, 200, 212, 213, 214, 215, 216, 217, 218, 219, 220, 221]
theorem rz_okF : (rz_fl.zip rz_flx).all (fun q => decide (lw_tbl[q.2]? = some (Cond.fieldLink (rz_R q.1.1.1) q.1.1.2 (rz_R q.1.2.1) (rz_T q.1.2.1 q.1.2.2).2.1 (rz_T q.1.2.1 q.1.2.2).2.2.1)) && decide (q.1.2.1 < 9) && decide (q.1.2.2 < rz_N q.1.2.1) && decide ((rz_T q.1.2.1 q.1.2.2).1 = rz_R q.1.2.1)) = true := by decide +kernel
-- methods: ((class, index), (kind, number)): 0 virtual, 1 static, 2 constructor, 3 static of a nest mate, 5 arraycopy, 6 min, 7 max, 8 Object()
def rz_ml : List ((Nat × Nat) × (Nat × Nat)) := [((9, 80), (2, 87)), ((8, 1), (8, 0)), ((8, 9), (2, 74)), ((6, 3), (8, 0)), ((6, 11), (2, 26)), ((3, 3), (8, 0)), ((6, 20), (2, 6)), ((1, 3), (8, 0)), ((6, 27), (2, 56)), ((4, 3), (8, 0)), ((8, 24), (2, 0)), ((0, 3), (8, 0)), ((0, 17), (2, 74)), ((8, 31), (2, 82)), ((7, 3), (8, 0)), ((8, 38), (2, 11)), ((2, 3), (8, 0)), ((8, 45), (2, 63)), ((5, 3), (8, 0)), ((5, 11), (2, 26)), ((9, 32), (0, 88)), ((8, 54), (0, 75)), ((6, 32), (0, 27)), ((8, 243), (6, 0)), ((8, 248), (5, 0)), ((6, 36), (0, 7)), ((6, 39), (0, 57)), ((8, 58), (0, 76)), ((6, 56), (0, 30)), ((6, 60), (0, 32)), ((6, 64), (0, 41)), ((3, 52), (0, 32)), ((3, 56), (0, 43)), ((8, 62), (0, 112)), ((8, 239), (0, 3)), ((0, 22), (0, 4)), ((0, 25), (0, 2)), ((0, 29), (0, 75)), ((9, 87), (0, 89)), ((8, 66), (0, 77)), ((6, 68), (0, 45)), ((3, 73), (0, 35)), ((3, 41), (0, 33)), ((6, 71), (0, 49)), ((3, 45), (0, 38)), ((6, 75), (0, 34)), ((6, 79), (0, 35)), ((6, 82), (0, 36)), ((6, 85), (0, 37)), ((6, 88), (0, 8)), ((1, 32), (1, 9)), ((1, 42), (5, 0)), ((1, 36), (6, 0)), ((6, 91), (0, 42)), ((3, 59), (5, 0)), ((9, 38), (0, 90)), ((8, 70), (0, 78)), ((6, 94), (0, 77)), ((9, 41), (0, 91)), ((8, 73), (0, 79)), ((6, 97), (0, 40)), ((3, 49), (0, 34)), ((6, 100), (0, 44)), ((3, 65), (0, 42)), ((3, 69), (0, 41)), ((9, 44), (0, 92)), ((8, 76), (0, 80)), ((9, 47), (0, 93)), ((8, 83), (0, 61)), ((4, 27), (0, 59)), ((4, 31), (0, 60)), ((9, 51), (0, 94)), ((8, 89), (0, 62)), ((9, 81), (0, 99)), ((8, 125), (0, 5)), ((9, 177), (0, 100)), ((8, 137), (0, 29)), ((9, 84), (0, 101)), ((9, 17), (0, 111)), ((8, 224), (0, 30)), ((8, 227), (0, 31)), ((8, 230), (0, 55)), ((3, 88), (0, 53)), ((8, 233), (0, 58)), ((8, 237), (0, 1)), ((8, 238), (0, 83)), ((9, 174), (1, 117)), ((9, 170), (1, 118)), ((9, 72), (1, 119)), ((9, 9), (0, 106)), ((8, 182), (0, 54)), ((9, 21), (0, 102)), ((8, 140), (0, 40)), ((8, 143), (0, 35)), ((8, 146), (0, 36)), ((8, 149), (0, 38)), ((8, 152), (0, 39)), ((8, 155), (0, 37)), ((9, 25), (0, 107)), ((8, 189), (0, 10)), ((9, 28), (0, 108)), ((8, 194), (1, 115)), ((8, 197), (0, 59)), ((9, 90), (1, 121)), ((9, 76), (1, 120)), ((9, 54), (0, 98)), ((9, 57), (0, 103)), ((8, 158), (0, 50)), ((8, 161), (0, 51)), ((8, 164), (0, 52)), ((3, 82), (7, 0)), ((8, 167), (0, 53)), ((9, 60), (0, 104)), ((8, 170), (0, 45)), ((8, 173), (0, 34)), ((8, 176), (0, 48)), ((3, 79), (0, 50)), ((9, 63), (0, 105)), ((8, 179), (0, 46)), ((3, 76), (0, 47)), ((9, 66), (0, 109)), ((8, 200), (0, 69)), ((5, 40), (0, 70)), ((5, 54), (0, 28)), ((5, 43), (0, 71)), ((5, 55), (0, 41)), ((5, 47), (0, 29)), ((5, 50), (0, 72)), ((5, 59), (0, 45)), ((5, 62), (0, 49)), ((5, 66), (0, 35)), ((5, 70), (0, 36)), ((5, 73), (0, 42)), ((5, 76), (7, 0)), ((5, 82), (0, 73)), ((5, 86), (0, 59)), ((5, 91), (0, 68)), ((8, 204), (0, 68)), ((9, 69), (0, 110)), ((8, 207), (0, 64)), ((8, 210), (0, 65)), ((8, 213), (0, 66)), ((5, 29), (0, 31)), ((8, 216), (0, 67)), ((9, 160), (1, 122)), ((9, 164), (1, 123)), ((9, 167), (1, 126)), ((9, 107), (1, 125)), ((9, 100), (1, 124)), ((9, 96), (0, 95)), ((8, 92), (0, 84)), ((9, 104), (0, 97)), ((8, 99), (0, 17)), ((2, 33), (0, 18)), ((2, 37), (0, 86)), ((2, 43), (0, 19)), ((2, 57), (0, 23)), ((2, 65), (1, 24)), ((2, 61), (0, 25)), ((2, 46), (0, 20)), ((2, 50), (0, 21)), ((2, 53), (0, 22)), ((8, 103), (0, 12)), ((8, 106), (0, 14)), ((2, 26), (0, 13)), ((8, 109), (0, 15)), ((8, 112), (0, 16)), ((8, 115), (0, 81)), ((6, 104), (0, 76)), ((6, 107), (0, 80)), ((6, 110), (0, 79)), ((8, 118), (1, 113)), ((9, 149), (0, 96)), ((8, 96), (0, 85)), ((3, 27), (3, 116)), ((1, 24), (3, 116)), ((4, 15), (3, 116)), ((6, 52), (3, 114)), ((4, 23), (3, 115)), ((5, 36), (3, 115))]
def rz_mlx : List Nat := [32, 35, 40, 43, 46, 49, 78, 81, 100, 103, 138, 141, 144, 154, 157, 168, 171, 190, 193, 195, 243, 247, 251, 258, 261, 264, 269, 274, 282, 286, 290, 294, 295, 299, 303, 307, 311, 315, 316, 320, 324, 328, 332, 336, 340, 344, 348, 349, 353, 357, 361, 364, 365, 366, 370, 371, 375, 379, 380, 384, 388, 392, 393, 397, 398, 399, 403, 407, 411, 418, 422, 426, 430, 434, 438, 442, 446, 450, 454, 458, 459, 463, 467, 471, 475, 479, 483, 487, 491, 494, 498, 503, 507, 508, 509, 510, 511, 515, 516, 520, 524, 528, 529, 530, 533, 538, 542, 546, 550, 554, 558, 561, 562, 566, 567, 568, 572, 573, 577, 581, 585, 589, 593, 597, 601, 605, 606, 607, 611, 612, 613, 614, 615, 617, 618, 622, 623, 627, 628, 632, 636, 640, 644, 645, 649, 652, 655, 658, 661, 665, 669, 673, 677, 681, 685, 689, 694, 698, 701, 705, 709, 713, 717, 721, 725, 729, 733, 737, 741, 742, 743, 744, 766, 770, 255, 268, 273, 278, 415, 616]
def rz_mw (q : (Nat × Nat) × (Nat × Nat)) : Cond := match q.2.1 with
  | 3 => Cond.methodLinkNest (rz_R q.1.1) q.1.2 (rz_Y q.2.2) "RisingPiles"
  | 5 => Cond.methodLink (rz_R q.1.1) q.1.2 arraycopyName
  | 6 => Cond.methodLink (rz_R q.1.1) q.1.2 Lib.Math.min.name
  | 7 => Cond.methodLink (rz_R q.1.1) q.1.2 Lib.Math.max.name
  | 8 => Cond.methodLink (rz_R q.1.1) q.1.2 Lib.objectInit
  | _ => Cond.methodLink (rz_R q.1.1) q.1.2 (rz_Y q.2.2)
theorem rz_okL : (rz_ml.zip rz_mlx).all (fun q => decide (lw_tbl[q.2]? = some (rz_mw q.1)) && decide (q.1.2.2 < 127) && (decide (rz_kd q.1.2.2 = q.1.2.1) || decide (4 < q.1.2.1) || (decide (q.1.2.1 = 3) && decide (rz_kd q.1.2.2 = 1))) && decide (q.1.1.1 < 10)) = true := by decide +kernel
-- classes that new and anewarray name
def rz_cl : List ((Nat × Nat) × Nat) := [((9, 10), 8), ((8, 7), 6), ((6, 9), 3), ((6, 18), 1), ((6, 25), 4), ((8, 22), 0), ((0, 9), 6), ((8, 29), 7), ((8, 36), 2), ((8, 43), 5), ((5, 9), 3)]
def rz_clx : List Nat := [30, 38, 44, 76, 98, 136, 142, 152, 166, 188, 194]
theorem rz_okK : (rz_cl.zip rz_clx).all (fun q => decide (lw_tbl[q.2]? = some (Cond.classLink (rz_R q.1.1.1) q.1.1.2 (rz_R q.1.2))) && decide (q.1.2 < 9)) = true := by decide +kernel
def rz_kl : List ((Nat × Nat) × Int32) := [((8, 242), 65535), ((9, 7), 2147483647), ((9, 8), 2654435), ((9, 31), 65536), ((9, 37), 65535), ((2, 56), 65535)]
def rz_klx : List Nat := [281, 486, 490, 536, 537, 693]
theorem rz_okI : (rz_kl.zip rz_klx).all (fun q => decide (lw_tbl[q.2]? = some (Cond.constant (rz_R q.1.1.1) q.1.1.2 q.1.2))) = true := by decide +kernel
def rz_kL : List ((Nat × Nat) × Int64) := [((9, 15), 31), ((9, 94), 255), ((9, 111), 47511820907318), ((9, 113), 12157550001664048), ((9, 115), 516221317168), ((9, 117), 15411), ((9, 119), 2830385), ((9, 121), 11564), ((9, 123), 45), ((9, 125), 2830650), ((9, 127), 120), ((9, 129), 3945277), ((9, 131), 4337878169118126901), ((9, 133), 3113734694981941817), ((9, 135), 97), ((9, 137), 11565), ((9, 139), 185509490738), ((9, 141), 16942581639298353), ((9, 143), 12715268667878201), ((9, 145), 3114006231404656940), ((9, 147), 49668011605301), ((9, 152), 3255026298693631283), ((9, 154), 11058), ((9, 156), 43), ((9, 158), 2960429)]
def rz_kLx : List Nat := [502, 664, 747, 748, 749, 750, 751, 752, 753, 754, 755, 756, 757, 758, 759, 760, 761, 762, 763, 764, 765, 774, 775, 776, 777]
theorem rz_okG : (rz_kL.zip rz_kLx).all (fun q => decide (lw_tbl[q.2]? = some (Cond.constantLong (rz_R q.1.1.1) q.1.1.2 q.1.2))) = true := by decide +kernel
theorem rz_w1 : Cond.native arraycopyName ∈ lw_tbl := List.mem_of_getElem? (i := 263) (by decide +kernel)
theorem rz_w2 : Cond.static arraycopyName ∈ lw_tbl := List.mem_of_getElem? (i := 262) (by decide +kernel)
theorem rz_w3 : Cond.initialized "java/lang/System" ∈ lw_tbl := List.mem_of_getElem? (i := 29) (by decide +kernel)
theorem rz_w4 : Cond.initialized "java/lang/Math" ∈ lw_tbl := List.mem_of_getElem? (i := 28) (by decide +kernel)
theorem rz_w5 : Cond.static Lib.Math.min.name ∈ lw_tbl ∧ Cond.code Lib.Math.min.name Lib.Math.min.code 2 (some .int) ∈ lw_tbl := ⟨List.mem_of_getElem? (i := 259) (by decide +kernel), List.mem_of_getElem? (i := 260) (by decide +kernel)⟩
theorem rz_w6 : Cond.static Lib.Math.max.name ∈ lw_tbl ∧ Cond.code Lib.Math.max.name Lib.Math.max.code 2 (some .int) ∈ lw_tbl := ⟨List.mem_of_getElem? (i := 559) (by decide +kernel), List.mem_of_getElem? (i := 560) (by decide +kernel)⟩
theorem rz_w7 : Cond.instanceMethod Lib.objectInit ∈ lw_tbl ∧ Cond.code Lib.objectInit ⟨#[0xb1]⟩ 1 none ∈ lw_tbl := ⟨List.mem_of_getElem? (i := 36) (by decide +kernel), List.mem_of_getElem? (i := 37) (by decide +kernel)⟩
theorem rz_w9 : Cond.arrayClass .long ∈ lw_tbl := List.mem_of_getElem? (i := 778) (by decide +kernel)
theorem rz_w8 : Cond.arrayClass .int ∈ lw_tbl ∧ Cond.arrayClass .char ∈ lw_tbl ∧ Cond.arrayOver (.object "RisingPiles$State") ∈ lw_tbl := ⟨List.mem_of_getElem? (i := 75) (by decide +kernel), List.mem_of_getElem? (i := 165) (by decide +kernel), List.mem_of_getElem? (i := 143) (by decide +kernel)⟩
end
section
/-! A machine of places: the cells of the system's own objects by the order in which they were made (place a stands for the address b0 + a), values with places for addresses.
rz_go n d k pc lv st hp R: method k, at pc, with locals lv and operand stack st over the cells hp, comes within n steps and d frames to its end, and R holds of what it answers and of the cells then. -/
abbrev rz_Cl : Type := (Nat × Nat × (Nat → Int32)) ⊕ ((Nat × (Nat → Option Nat)) ⊕ (Nat × List Value))
abbrev rz_Hp : Type := (Nat → rz_Cl) × Nat × Nat
/-- a field of an object, an array of ints (kind 0) or chars (kind 1), an array of references, an array's length, an object's class -/
def rz_fv (hp : rz_Hp) (a ci j : Nat) : Option Value := if a < hp.2.1 then (match hp.1 a with | .inr (.inr (c, fs)) => if c = ci then fs[j]? else none | _ => none) else none
def rz_av (hp : rz_Hp) (a : Nat) : Option (Nat × Nat × (Nat → Int32)) := if a < hp.2.1 then (match hp.1 a with | .inl x => some x | _ => none) else none
def rz_qv (hp : rz_Hp) (a : Nat) : Option (Nat × (Nat → Option Nat)) := if a < hp.2.1 then (match hp.1 a with | .inr (.inl x) => some x | _ => none) else none
def rz_ln (hp : rz_Hp) (a : Nat) : Option Nat := if a < hp.2.1 then (match hp.1 a with | .inl x => some x.2.1 | .inr (.inl x) => some x.1 | _ => none) else none
def rz_co (hp : rz_Hp) (a : Nat) : Option Nat := if a < hp.2.1 then (match hp.1 a with | .inr (.inr x) => some x.1 | _ => none) else none
def rz_set (hp : rz_Hp) (a : Nat) (c : rz_Cl) : rz_Hp := (fun j => if j = a then c else hp.1 j, hp.2)
def rz_pf (hp : rz_Hp) (a j : Nat) (v : Value) : rz_Hp := rz_set hp a (match hp.1 a with | .inr (.inr (c, fs)) => .inr (.inr (c, fs.set j v)) | x => x)
def rz_pa (hp : rz_Hp) (a : Nat) (f : Nat → Int32) : rz_Hp := rz_set hp a (match hp.1 a with | .inl (t, n, _) => .inl (t, n, f) | x => x)
def rz_pq (hp : rz_Hp) (a : Nat) (f : Nat → Option Nat) : rz_Hp := rz_set hp a (match hp.1 a with | .inr (.inl (n, _)) => .inr (.inl (n, f)) | x => x)
def rz_push (hp : rz_Hp) (c : rz_Cl) (n : Nat) : rz_Hp := (fun j => if j = hp.2.1 then c else hp.1 j, hp.2.1 + 1, hp.2.2 + n)
def rz_one : Value → Bool
  | .int _ => true
  | .ref _ => true
  | .null => true
  | .float _ => true
  | _ => false
/-- a float stands for the script of the law, whose contents the cells hold at a place beyond all others -/
def rz_val : Value → Bool
  | .long _ => true
  | v => rz_one v
def rz_sl : List Value → List (Option Value)
  | [] => []
  | .long x :: l => some (.long x) :: none :: rz_sl l
  | v :: l => some v :: rz_sl l
def rz_cs (l : List Value) : Nat := (rz_sl l).length
def rz_SP : Nat := 1000000
def rz_scr (hp : rz_Hp) : Option (Nat × (Nat → Int32)) := match hp.1 rz_SP with
  | .inl (2, n, f) => some (n, f)
  | _ => none
/-- no long ends at a local -/
def rz_nl (lv : List (Option Value)) : Nat → Bool
  | 0 => true
  | i + 1 => match lv[i]? with
    | some (some (.long _)) => false
    | _ => true
def rz_fit : FieldType → Value → Prop
  | .int, .int _ => True
  | .boolean, .int v => v = 0 ∨ v = 1
  | .object _, .ref _ => True
  | .object _, .null => True
  | .array _, .ref _ => True
  | .array _, .null => True
  | _, _ => False
def rz_en (k : Nat) (as : List Value) : List (Option Value) := rz_sl as ++ List.replicate (rz_ML k - (rz_sl as).length) none
def rz_dv (ci : Nat) : List Value := (List.range (rz_N ci)).map (fun j => defaultValue (rz_ty ci j))
/-- to a place of the code, by an offset -/
def rz_to (pc : Nat) (off : Int) (f : Nat → Prop) : Prop := 0 ≤ (pc : Int) + off ∧ f ((pc : Int) + off).toNat
section RZ1
variable (lv : List (Option Value)) (st : List Value)
def rz_ldi (i : Nat) (f : Value → Prop) : Prop := match lv[i]? with
  | some (some (.int x)) => f (.int x)
  | _ => False
def rz_lda (i : Nat) (f : Value → Prop) : Prop := match lv[i]? with
  | some (some (.ref x)) => f (.ref x)
  | some (some .null) => f .null
  | some (some (.float x)) => f (.float x)
  | _ => False
def rz_ldl (i : Nat) (f : Value → Prop) : Prop := match lv[i]? with
  | some (some (.long x)) => f (.long x)
  | _ => False
def rz_stl (i : Nat) (f : List (Option Value) → List Value → Prop) : Prop := match st with
  | .long x :: s2 => (i + 1 < lv.length ∧ rz_nl lv i = true) ∧ f ((lv.set i (some (.long x))).set (i + 1) none) s2
  | _ => False
def rz_sti (i : Nat) (f : List (Option Value) → List Value → Prop) : Prop := match st with
  | .int x :: s2 => i < lv.length ∧ f (lv.set i (some (.int x))) s2
  | _ => False
def rz_sta (i : Nat) (f : List (Option Value) → List Value → Prop) : Prop := match st with
  | .ref x :: s2 => i < lv.length ∧ f (lv.set i (some (.ref x))) s2
  | .null :: s2 => i < lv.length ∧ f (lv.set i (some .null)) s2
  | _ => False
def rz_i1 (f : Int32 → List Value → Prop) : Prop := match st with
  | .int x :: s2 => f x s2
  | _ => False
def rz_i2 (f : Int32 → Int32 → List Value → Prop) : Prop := match st with
  | .int y :: .int x :: s2 => f x y s2
  | _ => False
def rz_l1 (f : Int64 → List Value → Prop) : Prop := match st with
  | .long x :: s2 => f x s2
  | _ => False
def rz_l2 (f : Int64 → Int64 → List Value → Prop) : Prop := match st with
  | .long y :: .long x :: s2 => f x y s2
  | _ => False
def rz_li (f : Int64 → Int32 → List Value → Prop) : Prop := match st with
  | .int y :: .long x :: s2 => f x y s2
  | _ => False
def rz_r1 (f : Nat → List Value → Prop) : Prop := match st with
  | .ref a :: s2 => f a s2
  | _ => False
end RZ1
section RZ2
variable (k : Nat) (nat : Prop) (len pc : Nat) (lv : List (Option Value)) (st : List Value) (hp : rz_Hp) (K : Nat → List (Option Value) → List Value → rz_Hp → Prop) (Ca : Nat → List Value → rz_Hp → (Option Value → rz_Hp → Prop) → Prop) (R : Option Value → rz_Hp → Prop)
def rz_inv (index : Nat) : Prop := match rz_ml.lookup (rz_K k, index) with
  | some (0, k2) => (match st.drop (rz_np k2) with
    | .ref b :: rest => rz_co hp b = some (rz_K k2) ∧ rz_np k2 ≤ st.length ∧ st.all rz_val = true ∧ (rz_cs rest ≤ 8 ∧ rz_cs (.ref b :: (st.take (rz_np k2)).reverse) ≤ rz_ML k2 ∧ (rz_K k2 = 9 ∨ (Value.ref b :: (st.take (rz_np k2)).reverse).all rz_one = true)) ∧ nat ∧ Ca k2 (.ref b :: (st.take (rz_np k2)).reverse) hp (fun r h => K (pc + 3) lv (r.toList ++ rest) h)
    | _ => False)
  | _ => False
def rz_ins (index : Nat) : Prop := match rz_ml.lookup (rz_K k, index) with
  | some (2, k2) => (match st.drop (rz_np k2) with
    | .ref b :: rest => rz_np k2 ≤ st.length ∧ st.all rz_val = true ∧ (rz_cs rest ≤ 8 ∧ rz_cs (.ref b :: (st.take (rz_np k2)).reverse) ≤ rz_ML k2 ∧ (rz_K k2 = 9 ∨ (Value.ref b :: (st.take (rz_np k2)).reverse).all rz_one = true)) ∧ nat ∧ Ca k2 (.ref b :: (st.take (rz_np k2)).reverse) hp (fun r h => K (pc + 3) lv (r.toList ++ rest) h)
    | _ => False)
  | some (8, _) => (match st with
    | .ref _ :: rest => rest.all rz_val = true ∧ rz_cs rest ≤ 8 ∧ nat ∧ K (pc + 3) lv rest hp
    | _ => False)
  | _ => False
def rz_cpS (f : Nat → Nat → Nat → Int32 → Int32 → Int32 → List Value → Prop) : Prop := match st with
  | .int n :: .int dp :: .ref a :: .int sp :: .ref a0 :: rest => f a0 a 0 sp dp n rest
  | _ => False
def rz_inS (index : Nat) : Prop := match rz_ml.lookup (rz_K k, index) with
  | some (1, k2) => rz_np k2 ≤ st.length ∧ st.all rz_val = true ∧ (rz_cs (st.drop (rz_np k2)) ≤ 8 ∧ rz_cs (st.take (rz_np k2)).reverse ≤ rz_ML k2 ∧ (rz_K k2 = 9 ∨ (st.take (rz_np k2)).reverse.all rz_one = true)) ∧ nat ∧ Ca k2 (st.take (rz_np k2)).reverse hp (fun r h => K (pc + 3) lv (r.toList ++ st.drop (rz_np k2)) h)
  | some (3, k2) => rz_np k2 ≤ st.length ∧ st.all rz_val = true ∧ (rz_cs (st.drop (rz_np k2)) ≤ 8 ∧ rz_cs (st.take (rz_np k2)).reverse ≤ rz_ML k2 ∧ (rz_K k2 = 9 ∨ (st.take (rz_np k2)).reverse.all rz_one = true)) ∧ nat ∧ Ca k2 (st.take (rz_np k2)).reverse hp (fun r h => K (pc + 3) lv (r.toList ++ st.drop (rz_np k2)) h)
  | some (5, _) => rz_cpS st (fun a0 a _ sp dp n rest => rest.all rz_val = true ∧ rz_cs rest ≤ 8 ∧ nat ∧ ∃ n0 f n1 g, rz_av hp a0 = some (0, n0, f) ∧ rz_av hp a = some (0, n1, g) ∧ ¬ sp < 0 ∧ ¬ dp < 0 ∧ ¬ n < 0 ∧ sp.toNatClampNeg + n.toNatClampNeg ≤ n0 ∧ dp.toNatClampNeg + n.toNatClampNeg ≤ n1 ∧ K (pc + 3) lv rest (rz_pa hp a (va_cpy f g sp.toNatClampNeg dp.toNatClampNeg n.toNatClampNeg)))
  | some (6, _) => rz_i2 st (fun x y rest => rest.all rz_val = true ∧ rz_cs rest ≤ 8 ∧ nat ∧ K (pc + 3) lv (.int (if y < x then y else x) :: rest) hp)
  | some (7, _) => rz_i2 st (fun x y rest => rest.all rz_val = true ∧ rz_cs rest ≤ 8 ∧ nat ∧ K (pc + 3) lv (.int (if x < y then y else x) :: rest) hp)
  | _ => False
def rz_getf (index : Nat) : Prop := rz_r1 st (fun a s2 => match rz_fl.lookup (rz_K k, index) with
  | some (ci, j) => ∃ v, rz_fv hp a ci j = some v ∧ K (pc + 3) lv (v :: s2) hp
  | none => False)
def rz_putf (index : Nat) : Prop := match st with
  | v :: .ref a :: s2 => (match rz_fl.lookup (rz_K k, index) with
    | some (ci, j) => (∃ w, rz_fv hp a ci j = some w) ∧ rz_fit (rz_ty ci j) v ∧ ((rz_T ci j).2.2.2 = true → (rz_Y k).name = "<init>" ∧ ci = rz_K k) ∧ K (pc + 3) lv s2 (rz_pf hp a j v)
    | none => False)
  | _ => False
def rz_ald (t : Nat) : Prop := match st with
  | .int i :: .ref a :: s2 => ∃ n f, rz_av hp a = some (t, n, f) ∧ vp_in i n ∧ K (pc + 1) lv (.int (f i.toNatClampNeg) :: s2) hp
  | .int i :: .float _ :: s2 => t = 0 ∧ ∃ n f, rz_scr hp = some (n, f) ∧ vp_in i n ∧ K (pc + 1) lv (.int (f i.toNatClampNeg) :: s2) hp
  | _ => False
def rz_alen : Prop := match st with
  | .ref a :: s2 => ∃ n, rz_ln hp a = some n ∧ K (pc + 1) lv (.int (Int32.ofNat n) :: s2) hp
  | .float _ :: s2 => ∃ n f, rz_scr hp = some (n, f) ∧ K (pc + 1) lv (.int (Int32.ofNat n) :: s2) hp
  | _ => False
def rz_lald : Prop := match st with
  | .int i :: .ref a :: s2 => ∃ v, ¬ i < 0 ∧ rz_fv hp a 10 i.toNatClampNeg = some (.long v) ∧ K (pc + 1) lv (.long v :: s2) hp
  | _ => False
def rz_last : Prop := match st with
  | .long x :: .int i :: .ref a :: s2 => ¬ i < 0 ∧ (∃ w, rz_fv hp a 10 i.toNatClampNeg = some w) ∧ K (pc + 1) lv s2 (rz_pf hp a i.toNatClampNeg (.long x))
  | _ => False
def rz_ast (t : Nat) (nar : Int32 → Int32) : Prop := match st with
  | .int x :: .int i :: .ref a :: s2 => ∃ n f, rz_av hp a = some (t, n, f) ∧ vp_in i n ∧ K (pc + 1) lv s2 (rz_pa hp a (upd f i.toNatClampNeg (nar x)))
  | _ => False
def rz_aald : Prop := match st with
  | .int i :: .ref a :: s2 => ∃ n f, rz_qv hp a = some (n, f) ∧ vp_in i n ∧ K (pc + 1) lv (va_rf (f i.toNatClampNeg) :: s2) hp
  | _ => False
def rz_aast : Prop := match st with
  | .ref v :: .int i :: .ref a :: s2 => ∃ n f, rz_qv hp a = some (n, f) ∧ vp_in i n ∧ rz_co hp v = some 6 ∧ K (pc + 1) lv s2 (rz_pq hp a (va_up f i.toNatClampNeg (some v)))
  | _ => False
def rz_newa (f : Int32 → List Value → Prop) : Prop := rz_i1 st (fun n s2 => ¬ n < 0 ∧ n.toNatClampNeg ≤ 4096 ∧ f n s2)
def rz_iret : Prop := match st with
  | [.int v] => (match rz_RT k with
    | some .int => R (some (.int v)) hp
    | some .boolean => (v = 0 ∨ v = 1) ∧ R (some (.int v)) hp
    | _ => False)
  | _ => False
def rz_arT : Prop := match rz_RT k with
  | some (.object _) => True
  | _ => False
def rz_lret : Prop := match st with
  | [.long v] => rz_RT k = some .long ∧ R (some (.long v)) hp
  | _ => False
def rz_aret : Prop := match st with
  | [.ref a] => rz_arT k ∧ R (some (.ref a)) hp
  | [.null] => rz_arT k ∧ R (some .null) hp
  | _ => False
/-- one step -/
def rz_stp (i : Instr) : Prop := match i with
  | .aload_n j => len = 1 ∧ rz_lda lv j.val (fun v => K (pc + 1) lv (v :: st) hp)
  | .iload_n j => len = 1 ∧ rz_ldi lv j.val (fun v => K (pc + 1) lv (v :: st) hp)
  | .iload j => len = 2 ∧ rz_ldi lv j (fun v => K (pc + 2) lv (v :: st) hp)
  | .astore_n j => len = 1 ∧ (rz_K k ≠ 9 ∨ rz_nl lv j.val = true) ∧ rz_sta lv st j.val (fun lv' s2 => K (pc + 1) lv' s2 hp)
  | .istore_n j => len = 1 ∧ (rz_K k ≠ 9 ∨ rz_nl lv j.val = true) ∧ rz_sti lv st j.val (fun lv' s2 => K (pc + 1) lv' s2 hp)
  | .istore j => len = 2 ∧ (rz_K k ≠ 9 ∨ rz_nl lv j = true) ∧ rz_sti lv st j (fun lv' s2 => K (pc + 2) lv' s2 hp)
  | .iinc j c => len = 3 ∧ (match lv[j]? with
    | some (some (.int x)) => K (pc + 3) (lv.set j (some (.int (x + Int32.ofInt c)))) st hp
    | _ => False)
  | .iconst n => len = 1 ∧ K (pc + 1) lv (.int (Int32.ofInt n) :: st) hp
  | .bipush n => len = 2 ∧ K (pc + 2) lv (.int (Int8.ofInt n).toInt32 :: st) hp
  | .sipush n => len = 3 ∧ K (pc + 3) lv (.int (Int16.ofInt n).toInt32 :: st) hp
  | .ldc index => len = 2 ∧ (match rz_kl.lookup (rz_K k, index) with
    | some v => K (pc + 2) lv (.int v :: st) hp
    | none => False)
  | .aconst_null => len = 1 ∧ K (pc + 1) lv (.null :: st) hp
  | .iadd => len = 1 ∧ rz_i2 st (fun x y s2 => K (pc + 1) lv (.int (x + y) :: s2) hp)
  | .isub => len = 1 ∧ rz_i2 st (fun x y s2 => K (pc + 1) lv (.int (x - y) :: s2) hp)
  | .imul => len = 1 ∧ rz_i2 st (fun x y s2 => K (pc + 1) lv (.int (x * y) :: s2) hp)
  | .iand => len = 1 ∧ rz_i2 st (fun x y s2 => K (pc + 1) lv (.int (x &&& y) :: s2) hp)
  | .ixor => len = 1 ∧ rz_i2 st (fun x y s2 => K (pc + 1) lv (.int (x ^^^ y) :: s2) hp)
  | .ishr => len = 1 ∧ rz_i2 st (fun x y s2 => K (pc + 1) lv (.int (x >>> (y &&& 31)) :: s2) hp)
  | .idiv => len = 1 ∧ rz_i2 st (fun x y s2 => ¬ y = 0 ∧ K (pc + 1) lv (.int (x / y) :: s2) hp)
  | .i2c => len = 1 ∧ rz_i1 st (fun x s2 => K (pc + 1) lv (.int (x.toUInt32 % 65536).toInt32 :: s2) hp)
  | .dup => len = 1 ∧ (match st with
    | v :: s2 => rz_one v = true ∧ K (pc + 1) lv (v :: v :: s2) hp
    | _ => False)
  | .dup2 => len = 1 ∧ (match st with
    | v :: w :: s2 => rz_one v = true ∧ rz_one w = true ∧ K (pc + 1) lv (v :: w :: v :: w :: s2) hp
    | _ => False)
  | .pop => len = 1 ∧ (match st with
    | v :: s2 => rz_one v = true ∧ K (pc + 1) lv s2 hp
    | _ => False)
  | .getfield index => len = 3 ∧ rz_getf k pc lv st hp K index
  | .putfield index => len = 3 ∧ rz_putf k pc lv st hp K index
  | .iaload => len = 1 ∧ rz_ald pc lv st hp K 0
  | .caload => len = 1 ∧ rz_ald pc lv st hp K 1
  | .iastore => len = 1 ∧ rz_ast pc lv st hp K 0 (fun x => x)
  | .castore => len = 1 ∧ rz_ast pc lv st hp K 1 (vp_nar .char)
  | .aaload => len = 1 ∧ rz_aald pc lv st hp K
  | .aastore => len = 1 ∧ rz_aast pc lv st hp K
  | .arraylength => len = 1 ∧ rz_alen pc lv st hp K
  | .aload j => len = 2 ∧ rz_lda lv j (fun v => K (pc + 2) lv (v :: st) hp)
  | .astore j => len = 2 ∧ (rz_K k ≠ 9 ∨ rz_nl lv j = true) ∧ rz_sta lv st j (fun lv' s2 => K (pc + 2) lv' s2 hp)
  | .lload_n j => len = 1 ∧ rz_ldl lv j.val (fun v => K (pc + 1) lv (v :: st) hp)
  | .lstore_n j => len = 1 ∧ rz_K k = 9 ∧ rz_stl lv st j.val (fun lv' s2 => K (pc + 1) lv' s2 hp)
  | .ldc2_w index => len = 3 ∧ (match rz_kL.lookup (rz_K k, index) with
    | some v => K (pc + 3) lv (.long v :: st) hp
    | none => False)
  | .lconst n => len = 1 ∧ K (pc + 1) lv (.long (Int64.ofNat (n : Nat)) :: st) hp
  | .i2l => len = 1 ∧ rz_i1 st (fun x s2 => K (pc + 1) lv (.long x.toInt64 :: s2) hp)
  | .l2i => len = 1 ∧ rz_l1 st (fun x s2 => K (pc + 1) lv (.int x.toInt32 :: s2) hp)
  | .lmul => len = 1 ∧ rz_l2 st (fun x y s2 => K (pc + 1) lv (.long (x * y) :: s2) hp)
  | .ladd => len = 1 ∧ rz_l2 st (fun x y s2 => K (pc + 1) lv (.long (x + y) :: s2) hp)
  | .land => len = 1 ∧ rz_l2 st (fun x y s2 => K (pc + 1) lv (.long (x &&& y) :: s2) hp)
  | .lcmp => len = 1 ∧ rz_l2 st (fun x y s2 => K (pc + 1) lv (.int (lg_cmp x y) :: s2) hp)
  | .lshr => len = 1 ∧ rz_li st (fun x y s2 => K (pc + 1) lv (.long (x >>> (y.toInt64 &&& 63)) :: s2) hp)
  | .irem => len = 1 ∧ rz_i2 st (fun x y s2 => ¬ y = 0 ∧ K (pc + 1) lv (.int (x - x / y * y) :: s2) hp)
  | .laload => len = 1 ∧ rz_lald pc lv st hp K
  | .lastore => len = 1 ∧ rz_last pc lv st hp K
  | .lreturn => len = 1 ∧ rz_lret k st hp R
  | .new index => len = 3 ∧ (match rz_cl.lookup (rz_K k, index) with
    | some ci => K (pc + 3) lv (.ref hp.2.1 :: st) (rz_push hp (.inr (.inr (ci, rz_dv ci))) (rz_N ci))
    | none => False)
  | .newarray t => len = 2 ∧ (match t with
    | .int => rz_newa st (fun n s2 => K (pc + 2) lv (.ref hp.2.1 :: s2) (rz_push hp (.inl (0, n.toNatClampNeg, fun _ => 0)) n.toNatClampNeg))
    | .char => rz_newa st (fun n s2 => K (pc + 2) lv (.ref hp.2.1 :: s2) (rz_push hp (.inl (1, n.toNatClampNeg, fun _ => 0)) n.toNatClampNeg))
    | .long => rz_newa st (fun n s2 => K (pc + 2) lv (.ref hp.2.1 :: s2) (rz_push hp (.inr (.inr (10, List.replicate n.toNatClampNeg (.long 0)))) n.toNatClampNeg))
    | _ => False)
  | .anewarray index => len = 3 ∧ rz_cl.lookup (rz_K k, index) = some 6 ∧ rz_newa st (fun n s2 => K (pc + 3) lv (.ref hp.2.1 :: s2) (rz_push hp (.inr (.inl (n.toNatClampNeg, fun _ => none))) n.toNatClampNeg))
  | .goto off => len = 3 ∧ rz_to pc off (fun t => K t lv st hp)
  | .if_icmp c off => len = 3 ∧ rz_to pc off (fun t => rz_i2 st (fun x y s2 => match c with
    | .eq => if x = y then K t lv s2 hp else K (pc + 3) lv s2 hp
    | .ne => if x = y then K (pc + 3) lv s2 hp else K t lv s2 hp
    | .lt => if x < y then K t lv s2 hp else K (pc + 3) lv s2 hp
    | .ge => if y ≤ x then K t lv s2 hp else K (pc + 3) lv s2 hp
    | .gt => if y < x then K t lv s2 hp else K (pc + 3) lv s2 hp
    | .le => if x ≤ y then K t lv s2 hp else K (pc + 3) lv s2 hp))
  | .ifCond c off => len = 3 ∧ rz_to pc off (fun t => rz_i1 st (fun x s2 => match c with
    | .eq => if x = 0 then K t lv s2 hp else K (pc + 3) lv s2 hp
    | .ne => if x = 0 then K (pc + 3) lv s2 hp else K t lv s2 hp
    | .lt => if x < 0 then K t lv s2 hp else K (pc + 3) lv s2 hp
    | .ge => if 0 ≤ x then K t lv s2 hp else K (pc + 3) lv s2 hp
    | .gt => if 0 < x then K t lv s2 hp else K (pc + 3) lv s2 hp
    | .le => if x ≤ 0 then K t lv s2 hp else K (pc + 3) lv s2 hp))
  | .ifnull off => len = 3 ∧ (match st with
    | .null :: s2 => rz_to pc off (fun t => K t lv s2 hp)
    | .ref _ :: s2 => K (pc + 3) lv s2 hp
    | _ => False)
  | .ifnonnull off => len = 3 ∧ (match st with
    | .ref _ :: s2 => rz_to pc off (fun t => K t lv s2 hp)
    | .null :: s2 => K (pc + 3) lv s2 hp
    | _ => False)
  | .tableswitch dflt lo hi offs => rz_i1 st (fun x s2 => if x.toInt < lo ∨ hi < x.toInt then rz_to pc dflt (fun t => K t lv s2 hp) else match offs[(x.toInt - lo).toNat]? with
    | some off => rz_to pc off (fun t => K t lv s2 hp)
    | none => False)
  | .lookupswitch dflt ps => (ps.toList.zip (ps.toList.drop 1)).all (fun (a, next) => a.1 < next.1) = true ∧ rz_i1 st (fun x s2 => rz_to pc (Op.lookupswitch.offset ps.toList dflt x.toInt) (fun t => K t lv s2 hp))
  | .invokevirtual index => len = 3 ∧ rz_inv k nat pc lv st hp K Ca index
  | .invokespecial index => len = 3 ∧ rz_ins k nat pc lv st hp K Ca index
  | .invokestatic index => len = 3 ∧ rz_inS k nat pc lv st hp K Ca index
  | .ireturn => len = 1 ∧ rz_iret k st hp R
  | .areturn => len = 1 ∧ rz_aret k st hp R
  | .return_ => len = 1 ∧ st = [] ∧ rz_RT k = none ∧ R none hp
  | _ => False
end RZ2
def rz_go : Nat → Nat → Nat → Nat → List (Option Value) → List Value → rz_Hp → (Option Value → rz_Hp → Prop) → Prop
  | 0, _, _, _, _, _, _, _ => False
  | n + 1, d, k, pc, lv, st, hp, R => match decode (rz_B k) pc with
    | .ok (i, len) => rz_stp k (0 < d) len pc lv st hp (fun pc' lv' st' hp' => rz_go n d k pc' lv' st' hp' R) (fun k2 as h post => 0 < d ∧ k2 < 127 ∧ rz_go n (d - 1) k2 0 (rz_en k2 as) [] h post) R i
    | .error _ => False
def rz_ev (d k pc : Nat) (lv : List (Option Value)) (st : List Value) (hp : rz_Hp) (R : Option Value → rz_Hp → Prop) : Prop := ∃ n, rz_go n d k pc lv st hp R
theorem rz_fv_lt {hp : rz_Hp} {a ci j : Nat} {v : Value} (h : rz_fv hp a ci j = some v) : a < hp.2.1 := by
  unfold rz_fv at h
  split at h
  · assumption
  · cases h
theorem rz_av_lt {hp : rz_Hp} {a : Nat} {x : Nat × Nat × (Nat → Int32)} (h : rz_av hp a = some x) : a < hp.2.1 := by
  unfold rz_av at h
  split at h
  · assumption
  · cases h
theorem rz_qv_lt {hp : rz_Hp} {a : Nat} {x : Nat × (Nat → Option Nat)} (h : rz_qv hp a = some x) : a < hp.2.1 := by
  unfold rz_qv at h
  split at h
  · assumption
  · cases h
/-- the script stays as it is -/
def rz_kp (hp hp' : rz_Hp) : Prop := hp'.2.1 ≤ rz_SP → hp'.1 rz_SP = hp.1 rz_SP
theorem rz_kp.rf {hp : rz_Hp} : rz_kp hp hp := fun _ => rfl
theorem rz_kp.tr {a b c : rz_Hp} (h1 : rz_kp a b) (h2 : rz_kp b c) (hm : b.2.1 ≤ c.2.1) : rz_kp a c := fun h => (h2 h).trans (h1 (Nat.le_trans hm h))
theorem rz_kp.set {hp : rz_Hp} {a : Nat} {c : rz_Cl} (h : a < hp.2.1) : rz_kp hp (rz_set hp a c) := fun hm => if_neg (by have hm : hp.2.1 ≤ rz_SP := hm; omega)
theorem rz_kp.push {hp : rz_Hp} {c : rz_Cl} {n : Nat} : rz_kp hp (rz_push hp c n) := fun hm => if_neg (by have hm : hp.2.1 + 1 ≤ rz_SP := hm; omega)
theorem rz_ldi_w {lv : List (Option Value)} {i : Nat} {f : Value → Prop} (h : rz_ldi lv i f) : ∃ x : Int32, lv[i]? = some (some (.int x)) ∧ f (.int x) ∧ ∀ g : Value → Prop, g (.int x) → rz_ldi lv i g := by
  unfold rz_ldi at h
  split at h
  · next x e => exact ⟨x, e, h, fun g hg => by unfold rz_ldi; rw [e]; exact hg⟩
  · exact h.elim
theorem rz_lda_w {lv : List (Option Value)} {i : Nat} {f : Value → Prop} (h : rz_lda lv i f) : ∃ v : Value, (v = .null ∨ (∃ a, v = .ref a) ∨ ∃ x, v = .float x) ∧ lv[i]? = some (some v) ∧ f v ∧ ∀ g : Value → Prop, g v → rz_lda lv i g := by
  unfold rz_lda at h
  split at h
  · next x e => exact ⟨_, Or.inr (Or.inl ⟨x, rfl⟩), e, h, fun g hg => by unfold rz_lda; rw [e]; exact hg⟩
  · next e => exact ⟨_, Or.inl rfl, e, h, fun g hg => by unfold rz_lda; rw [e]; exact hg⟩
  · next x e => exact ⟨_, Or.inr (Or.inr ⟨x, rfl⟩), e, h, fun g hg => by unfold rz_lda; rw [e]; exact hg⟩
  · exact h.elim
theorem rz_sti_w {lv : List (Option Value)} {st : List Value} {i : Nat} {f : List (Option Value) → List Value → Prop} (h : rz_sti lv st i f) : ∃ (x : Int32) (s2 : List Value), st = .int x :: s2 ∧ i < lv.length ∧ f (lv.set i (some (.int x))) s2 ∧ ∀ g : List (Option Value) → List Value → Prop, g (lv.set i (some (.int x))) s2 → rz_sti lv st i g := by
  unfold rz_sti at h
  split at h
  · next x s2 => exact ⟨x, s2, rfl, h.1, h.2, fun g hg => ⟨h.1, hg⟩⟩
  · exact h.elim
theorem rz_sta_w {lv : List (Option Value)} {st : List Value} {i : Nat} {f : List (Option Value) → List Value → Prop} (h : rz_sta lv st i f) : ∃ (v : Value) (s2 : List Value), (v = .null ∨ ∃ a, v = .ref a) ∧ st = v :: s2 ∧ i < lv.length ∧ f (lv.set i (some v)) s2 ∧ ∀ g : List (Option Value) → List Value → Prop, g (lv.set i (some v)) s2 → rz_sta lv st i g := by
  unfold rz_sta at h
  split at h
  · next x s2 => exact ⟨_, s2, Or.inr ⟨x, rfl⟩, rfl, h.1, h.2, fun g hg => ⟨h.1, hg⟩⟩
  · next s2 => exact ⟨_, s2, Or.inl rfl, rfl, h.1, h.2, fun g hg => ⟨h.1, hg⟩⟩
  · exact h.elim
theorem rz_ldl_w {lv : List (Option Value)} {i : Nat} {f : Value → Prop} (h : rz_ldl lv i f) : ∃ x : Int64, lv[i]? = some (some (.long x)) ∧ f (.long x) ∧ ∀ g : Value → Prop, g (.long x) → rz_ldl lv i g := by
  unfold rz_ldl at h
  split at h
  · next x e => exact ⟨x, e, h, fun g hg => by unfold rz_ldl; rw [e]; exact hg⟩
  · exact h.elim
theorem rz_stl_w {lv : List (Option Value)} {st : List Value} {i : Nat} {f : List (Option Value) → List Value → Prop} (h : rz_stl lv st i f) : ∃ (x : Int64) (s2 : List Value), st = .long x :: s2 ∧ (i + 1 < lv.length ∧ rz_nl lv i = true) ∧ f ((lv.set i (some (.long x))).set (i + 1) none) s2 ∧ ∀ g : List (Option Value) → List Value → Prop, g ((lv.set i (some (.long x))).set (i + 1) none) s2 → rz_stl lv st i g := by
  unfold rz_stl at h
  split at h
  · next x s2 => exact ⟨x, s2, rfl, h.1, h.2, fun g hg => ⟨h.1, hg⟩⟩
  · exact h.elim
theorem rz_l1_w {st : List Value} {f : Int64 → List Value → Prop} (h : rz_l1 st f) : ∃ (x : Int64) (s2 : List Value), st = .long x :: s2 ∧ f x s2 ∧ ∀ g : Int64 → List Value → Prop, g x s2 → rz_l1 st g := by
  unfold rz_l1 at h
  split at h
  · next x s2 => exact ⟨x, s2, rfl, h, fun g hg => hg⟩
  · exact h.elim
theorem rz_l2_w {st : List Value} {f : Int64 → Int64 → List Value → Prop} (h : rz_l2 st f) : ∃ (x y : Int64) (s2 : List Value), st = .long y :: .long x :: s2 ∧ f x y s2 ∧ ∀ g : Int64 → Int64 → List Value → Prop, g x y s2 → rz_l2 st g := by
  unfold rz_l2 at h
  split at h
  · next y x s2 => exact ⟨x, y, s2, rfl, h, fun g hg => hg⟩
  · exact h.elim
theorem rz_li_w {st : List Value} {f : Int64 → Int32 → List Value → Prop} (h : rz_li st f) : ∃ (x : Int64) (y : Int32) (s2 : List Value), st = .int y :: .long x :: s2 ∧ f x y s2 ∧ ∀ g : Int64 → Int32 → List Value → Prop, g x y s2 → rz_li st g := by
  unfold rz_li at h
  split at h
  · next y x s2 => exact ⟨x, y, s2, rfl, h, fun g hg => hg⟩
  · exact h.elim
theorem rz_i1_w {st : List Value} {f : Int32 → List Value → Prop} (h : rz_i1 st f) : ∃ (x : Int32) (s2 : List Value), st = .int x :: s2 ∧ f x s2 ∧ ∀ g : Int32 → List Value → Prop, g x s2 → rz_i1 st g := by
  unfold rz_i1 at h
  split at h
  · next x s2 => exact ⟨x, s2, rfl, h, fun g hg => hg⟩
  · exact h.elim
theorem rz_i2_w {st : List Value} {f : Int32 → Int32 → List Value → Prop} (h : rz_i2 st f) : ∃ (x y : Int32) (s2 : List Value), st = .int y :: .int x :: s2 ∧ f x y s2 ∧ ∀ g : Int32 → Int32 → List Value → Prop, g x y s2 → rz_i2 st g := by
  unfold rz_i2 at h
  split at h
  · next y x s2 => exact ⟨x, y, s2, rfl, h, fun g hg => hg⟩
  · exact h.elim
theorem rz_r1_w {st : List Value} {f : Nat → List Value → Prop} (h : rz_r1 st f) : ∃ (a : Nat) (s2 : List Value), st = .ref a :: s2 ∧ f a s2 ∧ ∀ g : Nat → List Value → Prop, g a s2 → rz_r1 st g := by
  unfold rz_r1 at h
  split at h
  · next a s2 => exact ⟨a, s2, rfl, h, fun g hg => hg⟩
  · exact h.elim
theorem rz_to_w {pc : Nat} {off : Int} {f : Nat → Prop} (h : rz_to pc off f) : ∃ t : Nat, (pc : Int) + off = (t : Int) ∧ f t ∧ ∀ g : Nat → Prop, g t → rz_to pc off g :=
  ⟨((pc : Int) + off).toNat, (Int.toNat_of_nonneg h.1).symm, h.2, fun _ hg => ⟨h.1, hg⟩⟩
/-- a step goes on in one way alone: to a state, by a call, or to an end -/
theorem rz_way {k : Nat} {nat : Prop} {len pc : Nat} {lv : List (Option Value)} {st : List Value} {hp : rz_Hp} {K : Nat → List (Option Value) → List Value → rz_Hp → Prop} {Ca : Nat → List Value → rz_Hp → (Option Value → rz_Hp → Prop) → Prop} {R : Option Value → rz_Hp → Prop} {i : Instr} (h : rz_stp k nat len pc lv st hp K Ca R i) :
    (∃ pc' lv' st' hp', K pc' lv' st' hp' ∧ hp.2.1 ≤ hp'.2.1 ∧ (hp.2.2 ≤ hp'.2.2 ∧ rz_kp hp hp') ∧ ∀ (nat' : Prop) (K' : Nat → List (Option Value) → List Value → rz_Hp → Prop) (Ca' : Nat → List Value → rz_Hp → (Option Value → rz_Hp → Prop) → Prop) (R' : Option Value → rz_Hp → Prop), (nat → nat') → K' pc' lv' st' hp' → rz_stp k nat' len pc lv st hp K' Ca' R' i) ∨
    (∃ k2 as pc' rest, Ca k2 as hp (fun r h => K pc' lv (r.toList ++ rest) h) ∧ ∀ (nat' : Prop) (K' : Nat → List (Option Value) → List Value → rz_Hp → Prop) (Ca' : Nat → List Value → rz_Hp → (Option Value → rz_Hp → Prop) → Prop) (R' : Option Value → rz_Hp → Prop), (nat → nat') → Ca' k2 as hp (fun r h => K' pc' lv (r.toList ++ rest) h) → rz_stp k nat' len pc lv st hp K' Ca' R' i) ∨
    (∃ r, R r hp ∧ ∀ (nat' : Prop) (K' : Nat → List (Option Value) → List Value → rz_Hp → Prop) (Ca' : Nat → List Value → rz_Hp → (Option Value → rz_Hp → Prop) → Prop) (R' : Option Value → rz_Hp → Prop), (nat → nat') → R' r hp → rz_stp k nat' len pc lv st hp K' Ca' R' i) := by
  cases i with
  | aload_n j =>
    obtain ⟨hl, h⟩ := h
    obtain ⟨v, -, -, h, g⟩ := rz_lda_w h
    exact Or.inl ⟨_, _, _, _, h, Nat.le_refl _, ⟨Nat.le_refl _, rz_kp.rf⟩, fun nat' K' Ca' R' hn h' => ⟨hl, g _ h'⟩⟩
  | iload_n j =>
    obtain ⟨hl, h⟩ := h
    obtain ⟨v, -, h, g⟩ := rz_ldi_w h
    exact Or.inl ⟨_, _, _, _, h, Nat.le_refl _, ⟨Nat.le_refl _, rz_kp.rf⟩, fun nat' K' Ca' R' hn h' => ⟨hl, g _ h'⟩⟩
  | iload j =>
    obtain ⟨hl, h⟩ := h
    obtain ⟨v, -, h, g⟩ := rz_ldi_w h
    exact Or.inl ⟨_, _, _, _, h, Nat.le_refl _, ⟨Nat.le_refl _, rz_kp.rf⟩, fun nat' K' Ca' R' hn h' => ⟨hl, g _ h'⟩⟩
  | astore_n j =>
    obtain ⟨hl, hnl, h⟩ := h
    obtain ⟨v, s2, -, -, -, h, g⟩ := rz_sta_w h
    exact Or.inl ⟨_, _, _, _, h, Nat.le_refl _, ⟨Nat.le_refl _, rz_kp.rf⟩, fun nat' K' Ca' R' hn h' => ⟨hl, hnl, g _ h'⟩⟩
  | istore_n j =>
    obtain ⟨hl, hnl, h⟩ := h
    obtain ⟨v, s2, -, -, h, g⟩ := rz_sti_w h
    exact Or.inl ⟨_, _, _, _, h, Nat.le_refl _, ⟨Nat.le_refl _, rz_kp.rf⟩, fun nat' K' Ca' R' hn h' => ⟨hl, hnl, g _ h'⟩⟩
  | istore j =>
    obtain ⟨hl, hnl, h⟩ := h
    obtain ⟨v, s2, -, -, h, g⟩ := rz_sti_w h
    exact Or.inl ⟨_, _, _, _, h, Nat.le_refl _, ⟨Nat.le_refl _, rz_kp.rf⟩, fun nat' K' Ca' R' hn h' => ⟨hl, hnl, g _ h'⟩⟩
  | iinc j c =>
    obtain ⟨hl, h⟩ := h
    split at h
    · next x e => exact Or.inl ⟨_, _, _, _, h, Nat.le_refl _, ⟨Nat.le_refl _, rz_kp.rf⟩, fun nat' K' Ca' R' hn h' => ⟨hl, by rw [e]; exact h'⟩⟩
    · exact h.elim
  | iconst n =>
    obtain ⟨hl, h⟩ := h
    exact Or.inl ⟨_, _, _, _, h, Nat.le_refl _, ⟨Nat.le_refl _, rz_kp.rf⟩, fun nat' K' Ca' R' hn h' => ⟨hl, h'⟩⟩
  | bipush n =>
    obtain ⟨hl, h⟩ := h
    exact Or.inl ⟨_, _, _, _, h, Nat.le_refl _, ⟨Nat.le_refl _, rz_kp.rf⟩, fun nat' K' Ca' R' hn h' => ⟨hl, h'⟩⟩
  | sipush n =>
    obtain ⟨hl, h⟩ := h
    exact Or.inl ⟨_, _, _, _, h, Nat.le_refl _, ⟨Nat.le_refl _, rz_kp.rf⟩, fun nat' K' Ca' R' hn h' => ⟨hl, h'⟩⟩
  | aconst_null =>
    obtain ⟨hl, h⟩ := h
    exact Or.inl ⟨_, _, _, _, h, Nat.le_refl _, ⟨Nat.le_refl _, rz_kp.rf⟩, fun nat' K' Ca' R' hn h' => ⟨hl, h'⟩⟩
  | ldc index =>
    obtain ⟨hl, h⟩ := h
    split at h
    · next x e => exact Or.inl ⟨_, _, _, _, h, Nat.le_refl _, ⟨Nat.le_refl _, rz_kp.rf⟩, fun nat' K' Ca' R' hn h' => ⟨hl, by rw [e]; exact h'⟩⟩
    · exact h.elim
  | iadd =>
    obtain ⟨hl, h⟩ := h
    obtain ⟨x, y, s2, -, h, g⟩ := rz_i2_w h
    exact Or.inl ⟨_, _, _, _, h, Nat.le_refl _, ⟨Nat.le_refl _, rz_kp.rf⟩, fun nat' K' Ca' R' hn h' => ⟨hl, g _ h'⟩⟩
  | isub =>
    obtain ⟨hl, h⟩ := h
    obtain ⟨x, y, s2, -, h, g⟩ := rz_i2_w h
    exact Or.inl ⟨_, _, _, _, h, Nat.le_refl _, ⟨Nat.le_refl _, rz_kp.rf⟩, fun nat' K' Ca' R' hn h' => ⟨hl, g _ h'⟩⟩
  | imul =>
    obtain ⟨hl, h⟩ := h
    obtain ⟨x, y, s2, -, h, g⟩ := rz_i2_w h
    exact Or.inl ⟨_, _, _, _, h, Nat.le_refl _, ⟨Nat.le_refl _, rz_kp.rf⟩, fun nat' K' Ca' R' hn h' => ⟨hl, g _ h'⟩⟩
  | iand =>
    obtain ⟨hl, h⟩ := h
    obtain ⟨x, y, s2, -, h, g⟩ := rz_i2_w h
    exact Or.inl ⟨_, _, _, _, h, Nat.le_refl _, ⟨Nat.le_refl _, rz_kp.rf⟩, fun nat' K' Ca' R' hn h' => ⟨hl, g _ h'⟩⟩
  | ixor =>
    obtain ⟨hl, h⟩ := h
    obtain ⟨x, y, s2, -, h, g⟩ := rz_i2_w h
    exact Or.inl ⟨_, _, _, _, h, Nat.le_refl _, ⟨Nat.le_refl _, rz_kp.rf⟩, fun nat' K' Ca' R' hn h' => ⟨hl, g _ h'⟩⟩
  | ishr =>
    obtain ⟨hl, h⟩ := h
    obtain ⟨x, y, s2, -, h, g⟩ := rz_i2_w h
    exact Or.inl ⟨_, _, _, _, h, Nat.le_refl _, ⟨Nat.le_refl _, rz_kp.rf⟩, fun nat' K' Ca' R' hn h' => ⟨hl, g _ h'⟩⟩
  | idiv =>
    obtain ⟨hl, h⟩ := h
    obtain ⟨x, y, s2, -, ⟨h0, h⟩, g⟩ := rz_i2_w h
    exact Or.inl ⟨_, _, _, _, h, Nat.le_refl _, ⟨Nat.le_refl _, rz_kp.rf⟩, fun nat' K' Ca' R' hn h' => ⟨hl, g _ ⟨h0, h'⟩⟩⟩
  | i2c =>
    obtain ⟨hl, h⟩ := h
    obtain ⟨x, s2, -, h, g⟩ := rz_i1_w h
    exact Or.inl ⟨_, _, _, _, h, Nat.le_refl _, ⟨Nat.le_refl _, rz_kp.rf⟩, fun nat' K' Ca' R' hn h' => ⟨hl, g _ h'⟩⟩
  | dup =>
    obtain ⟨hl, h⟩ := h
    split at h
    · exact Or.inl ⟨_, _, _, _, h.2, Nat.le_refl _, ⟨Nat.le_refl _, rz_kp.rf⟩, fun nat' K' Ca' R' hn h' => ⟨hl, ⟨h.1, h'⟩⟩⟩
    · exact h.elim
  | dup2 =>
    obtain ⟨hl, h⟩ := h
    split at h
    · exact Or.inl ⟨_, _, _, _, h.2.2, Nat.le_refl _, ⟨Nat.le_refl _, rz_kp.rf⟩, fun nat' K' Ca' R' hn h' => ⟨hl, ⟨h.1, h.2.1, h'⟩⟩⟩
    · exact h.elim
  | pop =>
    obtain ⟨hl, h⟩ := h
    split at h
    · exact Or.inl ⟨_, _, _, _, h.2, Nat.le_refl _, ⟨Nat.le_refl _, rz_kp.rf⟩, fun nat' K' Ca' R' hn h' => ⟨hl, ⟨h.1, h'⟩⟩⟩
    · exact h.elim
  | getfield index =>
    obtain ⟨hl, h⟩ := h
    unfold rz_getf at h
    obtain ⟨a, s2, -, h, g⟩ := rz_r1_w h
    split at h
    · next ci j e =>
      obtain ⟨v, hv, h⟩ := h
      exact Or.inl ⟨_, _, _, _, h, Nat.le_refl _, ⟨Nat.le_refl _, rz_kp.rf⟩, fun nat' K' Ca' R' hn h' => ⟨hl, g _ (by rw [e]; exact ⟨v, hv, h'⟩)⟩⟩
    · exact h.elim
  | putfield index =>
    obtain ⟨hl, h⟩ := h
    unfold rz_putf at h
    split at h
    · split at h
      · next ci j e =>
        obtain ⟨hv, hf, hn, h⟩ := h
        exact Or.inl ⟨_, _, _, _, h, Nat.le_refl _, ⟨Nat.le_refl _, rz_kp.set (rz_fv_lt hv.choose_spec)⟩, fun nat' K' Ca' R' _ h' => ⟨hl, by unfold rz_putf; rw [e]; exact ⟨hv, hf, hn, h'⟩⟩⟩
      · exact h.elim
    · exact h.elim
  | iaload =>
    obtain ⟨hl, h⟩ := h
    unfold rz_ald at h
    split at h
    · obtain ⟨n, f, hv, hi, h⟩ := h
      exact Or.inl ⟨_, _, _, _, h, Nat.le_refl _, ⟨Nat.le_refl _, rz_kp.rf⟩, fun nat' K' Ca' R' hn h' => ⟨hl, n, f, hv, hi, h'⟩⟩
    · obtain ⟨h0, n, f, hv, hi, h⟩ := h
      exact Or.inl ⟨_, _, _, _, h, Nat.le_refl _, ⟨Nat.le_refl _, rz_kp.rf⟩, fun nat' K' Ca' R' hn h' => ⟨hl, h0, n, f, hv, hi, h'⟩⟩
    · exact h.elim
  | caload =>
    obtain ⟨hl, h⟩ := h
    unfold rz_ald at h
    split at h
    · obtain ⟨n, f, hv, hi, h⟩ := h
      exact Or.inl ⟨_, _, _, _, h, Nat.le_refl _, ⟨Nat.le_refl _, rz_kp.rf⟩, fun nat' K' Ca' R' hn h' => ⟨hl, n, f, hv, hi, h'⟩⟩
    · exact absurd h.1 (by decide)
    · exact h.elim
  | iastore =>
    obtain ⟨hl, h⟩ := h
    unfold rz_ast at h
    split at h
    · obtain ⟨n, f, hv, hi, h⟩ := h
      exact Or.inl ⟨_, _, _, _, h, Nat.le_refl _, ⟨Nat.le_refl _, rz_kp.set (rz_av_lt hv)⟩, fun nat' K' Ca' R' hn h' => ⟨hl, n, f, hv, hi, h'⟩⟩
    · exact h.elim
  | castore =>
    obtain ⟨hl, h⟩ := h
    unfold rz_ast at h
    split at h
    · obtain ⟨n, f, hv, hi, h⟩ := h
      exact Or.inl ⟨_, _, _, _, h, Nat.le_refl _, ⟨Nat.le_refl _, rz_kp.set (rz_av_lt hv)⟩, fun nat' K' Ca' R' hn h' => ⟨hl, n, f, hv, hi, h'⟩⟩
    · exact h.elim
  | aaload =>
    obtain ⟨hl, h⟩ := h
    unfold rz_aald at h
    split at h
    · obtain ⟨n, f, hv, hi, h⟩ := h
      exact Or.inl ⟨_, _, _, _, h, Nat.le_refl _, ⟨Nat.le_refl _, rz_kp.rf⟩, fun nat' K' Ca' R' hn h' => ⟨hl, n, f, hv, hi, h'⟩⟩
    · exact h.elim
  | aastore =>
    obtain ⟨hl, h⟩ := h
    unfold rz_aast at h
    split at h
    · obtain ⟨n, f, hv, hi, hc, h⟩ := h
      exact Or.inl ⟨_, _, _, _, h, Nat.le_refl _, ⟨Nat.le_refl _, rz_kp.set (rz_qv_lt hv)⟩, fun nat' K' Ca' R' hn h' => ⟨hl, n, f, hv, hi, hc, h'⟩⟩
    · exact h.elim
  | arraylength =>
    obtain ⟨hl, h⟩ := h
    unfold rz_alen at h
    split at h
    · obtain ⟨n, hn, h⟩ := h
      exact Or.inl ⟨_, _, _, _, h, Nat.le_refl _, ⟨Nat.le_refl _, rz_kp.rf⟩, fun nat' K' Ca' R' _ h' => ⟨hl, n, hn, h'⟩⟩
    · obtain ⟨n, f, hn, h⟩ := h
      exact Or.inl ⟨_, _, _, _, h, Nat.le_refl _, ⟨Nat.le_refl _, rz_kp.rf⟩, fun nat' K' Ca' R' _ h' => ⟨hl, n, f, hn, h'⟩⟩
    · exact h.elim
  | aload j =>
    obtain ⟨hl, h⟩ := h
    obtain ⟨v, -, -, h, g⟩ := rz_lda_w h
    exact Or.inl ⟨_, _, _, _, h, Nat.le_refl _, ⟨Nat.le_refl _, rz_kp.rf⟩, fun nat' K' Ca' R' hn h' => ⟨hl, g _ h'⟩⟩
  | astore j =>
    obtain ⟨hl, hnl, h⟩ := h
    obtain ⟨v, s2, -, -, -, h, g⟩ := rz_sta_w h
    exact Or.inl ⟨_, _, _, _, h, Nat.le_refl _, ⟨Nat.le_refl _, rz_kp.rf⟩, fun nat' K' Ca' R' hn h' => ⟨hl, hnl, g _ h'⟩⟩
  | lload_n j =>
    obtain ⟨hl, h⟩ := h
    obtain ⟨v, -, h, g⟩ := rz_ldl_w h
    exact Or.inl ⟨_, _, _, _, h, Nat.le_refl _, ⟨Nat.le_refl _, rz_kp.rf⟩, fun nat' K' Ca' R' hn h' => ⟨hl, g _ h'⟩⟩
  | lstore_n j =>
    obtain ⟨hl, hnl, h⟩ := h
    obtain ⟨v, s2, -, -, h, g⟩ := rz_stl_w h
    exact Or.inl ⟨_, _, _, _, h, Nat.le_refl _, ⟨Nat.le_refl _, rz_kp.rf⟩, fun nat' K' Ca' R' hn h' => ⟨hl, hnl, g _ h'⟩⟩
  | ldc2_w index =>
    obtain ⟨hl, h⟩ := h
    split at h
    · next x e => exact Or.inl ⟨_, _, _, _, h, Nat.le_refl _, ⟨Nat.le_refl _, rz_kp.rf⟩, fun nat' K' Ca' R' hn h' => ⟨hl, by rw [e]; exact h'⟩⟩
    · exact h.elim
  | lconst n =>
    obtain ⟨hl, h⟩ := h
    exact Or.inl ⟨_, _, _, _, h, Nat.le_refl _, ⟨Nat.le_refl _, rz_kp.rf⟩, fun nat' K' Ca' R' hn h' => ⟨hl, h'⟩⟩
  | i2l =>
    obtain ⟨hl, h⟩ := h
    obtain ⟨x, s2, -, h, g⟩ := rz_i1_w h
    exact Or.inl ⟨_, _, _, _, h, Nat.le_refl _, ⟨Nat.le_refl _, rz_kp.rf⟩, fun nat' K' Ca' R' hn h' => ⟨hl, g _ h'⟩⟩
  | l2i =>
    obtain ⟨hl, h⟩ := h
    obtain ⟨x, s2, -, h, g⟩ := rz_l1_w h
    exact Or.inl ⟨_, _, _, _, h, Nat.le_refl _, ⟨Nat.le_refl _, rz_kp.rf⟩, fun nat' K' Ca' R' hn h' => ⟨hl, g _ h'⟩⟩
  | lmul =>
    obtain ⟨hl, h⟩ := h
    obtain ⟨x, y, s2, -, h, g⟩ := rz_l2_w h
    exact Or.inl ⟨_, _, _, _, h, Nat.le_refl _, ⟨Nat.le_refl _, rz_kp.rf⟩, fun nat' K' Ca' R' hn h' => ⟨hl, g _ h'⟩⟩
  | ladd =>
    obtain ⟨hl, h⟩ := h
    obtain ⟨x, y, s2, -, h, g⟩ := rz_l2_w h
    exact Or.inl ⟨_, _, _, _, h, Nat.le_refl _, ⟨Nat.le_refl _, rz_kp.rf⟩, fun nat' K' Ca' R' hn h' => ⟨hl, g _ h'⟩⟩
  | land =>
    obtain ⟨hl, h⟩ := h
    obtain ⟨x, y, s2, -, h, g⟩ := rz_l2_w h
    exact Or.inl ⟨_, _, _, _, h, Nat.le_refl _, ⟨Nat.le_refl _, rz_kp.rf⟩, fun nat' K' Ca' R' hn h' => ⟨hl, g _ h'⟩⟩
  | lcmp =>
    obtain ⟨hl, h⟩ := h
    obtain ⟨x, y, s2, -, h, g⟩ := rz_l2_w h
    exact Or.inl ⟨_, _, _, _, h, Nat.le_refl _, ⟨Nat.le_refl _, rz_kp.rf⟩, fun nat' K' Ca' R' hn h' => ⟨hl, g _ h'⟩⟩
  | lshr =>
    obtain ⟨hl, h⟩ := h
    obtain ⟨x, y, s2, -, h, g⟩ := rz_li_w h
    exact Or.inl ⟨_, _, _, _, h, Nat.le_refl _, ⟨Nat.le_refl _, rz_kp.rf⟩, fun nat' K' Ca' R' hn h' => ⟨hl, g _ h'⟩⟩
  | irem =>
    obtain ⟨hl, h⟩ := h
    obtain ⟨x, y, s2, -, ⟨h0, h⟩, g⟩ := rz_i2_w h
    exact Or.inl ⟨_, _, _, _, h, Nat.le_refl _, ⟨Nat.le_refl _, rz_kp.rf⟩, fun nat' K' Ca' R' hn h' => ⟨hl, g _ ⟨h0, h'⟩⟩⟩
  | laload =>
    obtain ⟨hl, h⟩ := h
    unfold rz_lald at h
    split at h
    · obtain ⟨v, h0, hv, h⟩ := h
      exact Or.inl ⟨_, _, _, _, h, Nat.le_refl _, ⟨Nat.le_refl _, rz_kp.rf⟩, fun nat' K' Ca' R' hn h' => ⟨hl, v, h0, hv, h'⟩⟩
    · exact h.elim
  | lastore =>
    obtain ⟨hl, h⟩ := h
    unfold rz_last at h
    split at h
    · obtain ⟨h0, hv, h⟩ := h
      exact Or.inl ⟨_, _, _, _, h, Nat.le_refl _, ⟨Nat.le_refl _, rz_kp.set (rz_fv_lt hv.choose_spec)⟩, fun nat' K' Ca' R' hn h' => ⟨hl, h0, hv, h'⟩⟩
    · exact h.elim
  | lreturn =>
    obtain ⟨hl, h⟩ := h
    unfold rz_lret at h
    split at h
    · exact Or.inr (Or.inr ⟨_, h.2, fun nat' K' Ca' R' hn h' => ⟨hl, h.1, h'⟩⟩)
    · exact h.elim
  | new index =>
    obtain ⟨hl, h⟩ := h
    split at h
    · next ci e => exact Or.inl ⟨_, _, _, _, h, Nat.le_succ _, ⟨Nat.le_add_right _ _, rz_kp.push⟩, fun nat' K' Ca' R' hn h' => ⟨hl, by rw [e]; exact h'⟩⟩
    · exact h.elim
  | newarray t =>
    obtain ⟨hl, h⟩ := h
    split at h
    · obtain ⟨x, s2, -, ⟨h0, h1, h⟩, g⟩ := rz_i1_w h
      exact Or.inl ⟨_, _, _, _, h, Nat.le_succ _, ⟨Nat.le_add_right _ _, rz_kp.push⟩, fun nat' K' Ca' R' hn h' => ⟨hl, g _ ⟨h0, h1, h'⟩⟩⟩
    · obtain ⟨x, s2, -, ⟨h0, h1, h⟩, g⟩ := rz_i1_w h
      exact Or.inl ⟨_, _, _, _, h, Nat.le_succ _, ⟨Nat.le_add_right _ _, rz_kp.push⟩, fun nat' K' Ca' R' hn h' => ⟨hl, g _ ⟨h0, h1, h'⟩⟩⟩
    · obtain ⟨x, s2, -, ⟨h0, h1, h⟩, g⟩ := rz_i1_w h
      exact Or.inl ⟨_, _, _, _, h, Nat.le_succ _, ⟨Nat.le_add_right _ _, rz_kp.push⟩, fun nat' K' Ca' R' hn h' => ⟨hl, g _ ⟨h0, h1, h'⟩⟩⟩
    · exact h.elim
  | anewarray index =>
    obtain ⟨hl, hc, h⟩ := h
    obtain ⟨x, s2, -, ⟨h0, h1, h⟩, g⟩ := rz_i1_w h
    exact Or.inl ⟨_, _, _, _, h, Nat.le_succ _, ⟨Nat.le_add_right _ _, rz_kp.push⟩, fun nat' K' Ca' R' hn h' => ⟨hl, hc, g _ ⟨h0, h1, h'⟩⟩⟩
  | goto off =>
    obtain ⟨hl, h⟩ := h
    obtain ⟨t, -, h, g⟩ := rz_to_w h
    exact Or.inl ⟨_, _, _, _, h, Nat.le_refl _, ⟨Nat.le_refl _, rz_kp.rf⟩, fun nat' K' Ca' R' hn h' => ⟨hl, g _ h'⟩⟩
  | if_icmp c off =>
    obtain ⟨hl, h⟩ := h
    obtain ⟨t, -, h, g2⟩ := rz_to_w h
    obtain ⟨x, y, s2, -, h, g⟩ := rz_i2_w h
    cases c <;> (
      dsimp only at h
      split at h
      · next hc => exact Or.inl ⟨_, _, _, _, h, Nat.le_refl _, ⟨Nat.le_refl _, rz_kp.rf⟩, fun nat' K' Ca' R' hn h' => ⟨hl, g2 _ (g _ (by dsimp only; rw [if_pos hc]; exact h'))⟩⟩
      · next hc => exact Or.inl ⟨_, _, _, _, h, Nat.le_refl _, ⟨Nat.le_refl _, rz_kp.rf⟩, fun nat' K' Ca' R' hn h' => ⟨hl, g2 _ (g _ (by dsimp only; rw [if_neg hc]; exact h'))⟩⟩)
  | ifCond c off =>
    obtain ⟨hl, h⟩ := h
    obtain ⟨t, -, h, g2⟩ := rz_to_w h
    obtain ⟨x, s2, -, h, g⟩ := rz_i1_w h
    cases c <;> (
      dsimp only at h
      split at h
      · next hc => exact Or.inl ⟨_, _, _, _, h, Nat.le_refl _, ⟨Nat.le_refl _, rz_kp.rf⟩, fun nat' K' Ca' R' hn h' => ⟨hl, g2 _ (g _ (by dsimp only; rw [if_pos hc]; exact h'))⟩⟩
      · next hc => exact Or.inl ⟨_, _, _, _, h, Nat.le_refl _, ⟨Nat.le_refl _, rz_kp.rf⟩, fun nat' K' Ca' R' hn h' => ⟨hl, g2 _ (g _ (by dsimp only; rw [if_neg hc]; exact h'))⟩⟩)
  | ifnull off =>
    obtain ⟨hl, h⟩ := h
    split at h
    · obtain ⟨t, -, h, g2⟩ := rz_to_w h
      exact Or.inl ⟨_, _, _, _, h, Nat.le_refl _, ⟨Nat.le_refl _, rz_kp.rf⟩, fun nat' K' Ca' R' hn h' => ⟨hl, g2 _ h'⟩⟩
    · exact Or.inl ⟨_, _, _, _, h, Nat.le_refl _, ⟨Nat.le_refl _, rz_kp.rf⟩, fun nat' K' Ca' R' hn h' => ⟨hl, h'⟩⟩
    · exact h.elim
  | ifnonnull off =>
    obtain ⟨hl, h⟩ := h
    split at h
    · obtain ⟨t, -, h, g2⟩ := rz_to_w h
      exact Or.inl ⟨_, _, _, _, h, Nat.le_refl _, ⟨Nat.le_refl _, rz_kp.rf⟩, fun nat' K' Ca' R' hn h' => ⟨hl, g2 _ h'⟩⟩
    · exact Or.inl ⟨_, _, _, _, h, Nat.le_refl _, ⟨Nat.le_refl _, rz_kp.rf⟩, fun nat' K' Ca' R' hn h' => ⟨hl, h'⟩⟩
    · exact h.elim
  | tableswitch dflt lo hi offs =>
    obtain ⟨x, s2, -, h, g⟩ := rz_i1_w h
    split at h
    · next hc =>
      obtain ⟨t, -, h, g2⟩ := rz_to_w h
      exact Or.inl ⟨_, _, _, _, h, Nat.le_refl _, ⟨Nat.le_refl _, rz_kp.rf⟩, fun nat' K' Ca' R' hn h' => g _ (by rw [if_pos hc]; exact g2 _ h')⟩
    · next hc =>
      split at h
      · next off e =>
        obtain ⟨t, -, h, g2⟩ := rz_to_w h
        exact Or.inl ⟨_, _, _, _, h, Nat.le_refl _, ⟨Nat.le_refl _, rz_kp.rf⟩, fun nat' K' Ca' R' hn h' => g _ (by rw [if_neg hc, e]; exact g2 _ h')⟩
      · exact h.elim
  | lookupswitch dflt ps =>
    obtain ⟨hl, h⟩ := h
    obtain ⟨x, s2, -, h, g⟩ := rz_i1_w h
    obtain ⟨t, -, h, g2⟩ := rz_to_w h
    exact Or.inl ⟨_, _, _, _, h, Nat.le_refl _, ⟨Nat.le_refl _, rz_kp.rf⟩, fun nat' K' Ca' R' hn h' => ⟨hl, g _ (g2 _ h')⟩⟩
  | invokevirtual index =>
    obtain ⟨hl, h⟩ := h
    unfold rz_inv at h
    split at h
    · next k2 e =>
      split at h
      · next b rest e2 =>
        obtain ⟨h1, h2, h3, h4, h5, h⟩ := h
        exact Or.inr (Or.inl ⟨_, _, _, _, h, fun nat' K' Ca' R' hn h' => ⟨hl, by simp only [rz_inv, e, e2]; exact ⟨h1, h2, h3, h4, hn h5, h'⟩⟩⟩)
      · exact h.elim
    · exact h.elim
  | invokespecial index =>
    obtain ⟨hl, h⟩ := h
    unfold rz_ins at h
    split at h
    · next k2 e =>
      split at h
      · next b rest e2 =>
        obtain ⟨h2, h3, h4, h5, h⟩ := h
        exact Or.inr (Or.inl ⟨_, _, _, _, h, fun nat' K' Ca' R' hn h' => ⟨hl, by simp only [rz_ins, e, e2]; exact ⟨h2, h3, h4, hn h5, h'⟩⟩⟩)
      · exact h.elim
    · next k2 e =>
      split at h
      · next b rest =>
        obtain ⟨h3, h4, h5, h⟩ := h
        exact Or.inl ⟨_, _, _, _, h, Nat.le_refl _, ⟨Nat.le_refl _, rz_kp.rf⟩, fun nat' K' Ca' R' hn h' => ⟨hl, by unfold rz_ins; rw [e]; exact ⟨h3, h4, hn h5, h'⟩⟩⟩
      · exact h.elim
    · exact h.elim
  | invokestatic index =>
    obtain ⟨hl, h⟩ := h
    unfold rz_inS at h
    split at h
    · next k2 e =>
      obtain ⟨h2, h3, h4, h5, h⟩ := h
      exact Or.inr (Or.inl ⟨_, _, _, _, h, fun nat' K' Ca' R' hn h' => ⟨hl, by unfold rz_inS; rw [e]; exact ⟨h2, h3, h4, hn h5, h'⟩⟩⟩)
    · next k2 e =>
      obtain ⟨h2, h3, h4, h5, h⟩ := h
      exact Or.inr (Or.inl ⟨_, _, _, _, h, fun nat' K' Ca' R' hn h' => ⟨hl, by unfold rz_inS; rw [e]; exact ⟨h2, h3, h4, hn h5, h'⟩⟩⟩)
    · next k2 e =>
      unfold rz_cpS at h
      split at h
      · obtain ⟨h1, h2, h3, n0, f, n1, g, h4, h5, h6, h7, h8, h9, h10, h⟩ := h
        exact Or.inl ⟨_, _, _, _, h, Nat.le_refl _, ⟨Nat.le_refl _, rz_kp.set (rz_av_lt h5)⟩, fun nat' K' Ca' R' hn h' => ⟨hl, by unfold rz_inS; rw [e]; exact ⟨h1, h2, hn h3, n0, f, n1, g, h4, h5, h6, h7, h8, h9, h10, h'⟩⟩⟩
      · exact h.elim
    · next k2 e =>
      obtain ⟨x, y, s2, -, ⟨h1, h2, h3, h⟩, g⟩ := rz_i2_w h
      exact Or.inl ⟨_, _, _, _, h, Nat.le_refl _, ⟨Nat.le_refl _, rz_kp.rf⟩, fun nat' K' Ca' R' hn h' => ⟨hl, by unfold rz_inS; rw [e]; exact g _ ⟨h1, h2, hn h3, h'⟩⟩⟩
    · next k2 e =>
      obtain ⟨x, y, s2, -, ⟨h1, h2, h3, h⟩, g⟩ := rz_i2_w h
      exact Or.inl ⟨_, _, _, _, h, Nat.le_refl _, ⟨Nat.le_refl _, rz_kp.rf⟩, fun nat' K' Ca' R' hn h' => ⟨hl, by unfold rz_inS; rw [e]; exact g _ ⟨h1, h2, hn h3, h'⟩⟩⟩
    · exact h.elim
  | ireturn =>
    obtain ⟨hl, h⟩ := h
    unfold rz_iret at h
    split at h
    · split at h
      · next e => exact Or.inr (Or.inr ⟨_, h, fun nat' K' Ca' R' hn h' => ⟨hl, by unfold rz_iret; dsimp only; rw [e]; exact h'⟩⟩)
      · next e => exact Or.inr (Or.inr ⟨_, h.2, fun nat' K' Ca' R' hn h' => ⟨hl, by unfold rz_iret; dsimp only; rw [e]; exact ⟨h.1, h'⟩⟩⟩)
      · exact h.elim
    · exact h.elim
  | areturn =>
    obtain ⟨hl, h⟩ := h
    unfold rz_aret at h
    split at h
    · exact Or.inr (Or.inr ⟨_, h.2, fun nat' K' Ca' R' hn h' => ⟨hl, h.1, h'⟩⟩)
    · exact Or.inr (Or.inr ⟨_, h.2, fun nat' K' Ca' R' hn h' => ⟨hl, h.1, h'⟩⟩)
    · exact h.elim
  | return_ =>
    obtain ⟨hl, h1, h2, h⟩ := h
    exact Or.inr (Or.inr ⟨_, h, fun nat' K' Ca' R' hn h' => ⟨hl, h1, h2, h'⟩⟩)
  | _ => exact False.elim h
/-- what comes to an end with R comes to one end, of which R holds; cells are made, none goes -/
theorem rz_go_one : ∀ (n d k pc : Nat) (lv : List (Option Value)) (st : List Value) (hp : rz_Hp) (R : Option Value → rz_Hp → Prop), rz_go n d k pc lv st hp R → ∃ r hp', R r hp' ∧ hp.2.1 ≤ hp'.2.1 ∧ hp.2.2 ≤ hp'.2.2 ∧ ∀ R' : Option Value → rz_Hp → Prop, R' r hp' → rz_go n d k pc lv st hp R' := by
  intro n
  induction n with
  | zero => intro d k pc lv st hp R h; exact h.elim
  | succ n ih =>
    intro d k pc lv st hp R h
    unfold rz_go at h
    split at h
    · next i len e =>
      rcases rz_way h with ⟨pc', lv', st', hp', h1, h2, h3, h4⟩ | ⟨k2, as, pc', rest, ⟨hd, hk, h1⟩, h4⟩ | ⟨r, h1, h4⟩
      · obtain ⟨r, hp2, g1, g2, g3, g4⟩ := ih _ _ _ _ _ _ _ h1
        exact ⟨r, hp2, g1, Nat.le_trans h2 g2, Nat.le_trans h3.1 g3, fun R' hR => by unfold rz_go; rw [e]; exact h4 _ _ _ _ id (g4 R' hR)⟩
      · obtain ⟨r1, hp1, g1, g2, g3, g4⟩ := ih _ _ _ _ _ _ _ h1
        obtain ⟨r, hp2, f1, f2, f3, f4⟩ := ih _ _ _ _ _ _ _ g1
        exact ⟨r, hp2, f1, Nat.le_trans g2 f2, Nat.le_trans g3 f3, fun R' hR => by unfold rz_go; rw [e]; exact h4 _ _ _ _ id ⟨hd, hk, g4 _ (f4 R' hR)⟩⟩
      · exact ⟨r, hp, h1, Nat.le_refl _, Nat.le_refl _, fun R' hR => by unfold rz_go; rw [e]; exact h4 _ _ _ _ id hR⟩
    · exact h.elim
theorem rz_go_mono {n d k pc : Nat} {lv : List (Option Value)} {st : List Value} {hp : rz_Hp} {R R' : Option Value → rz_Hp → Prop} (h : rz_go n d k pc lv st hp R) (hR : ∀ r h', R r h' → R' r h') : rz_go n d k pc lv st hp R' := by
  obtain ⟨r, hp', h1, -, -, h4⟩ := rz_go_one n d k pc lv st hp R h
  exact h4 R' (hR _ _ h1)
theorem rz_go_kp : ∀ (n d k pc : Nat) (lv : List (Option Value)) (st : List Value) (hp : rz_Hp) (R : Option Value → rz_Hp → Prop), rz_go n d k pc lv st hp R → rz_go n d k pc lv st hp (fun r h' => R r h' ∧ rz_kp hp h' ∧ hp.2.1 ≤ h'.2.1) := by
  intro n
  induction n with
  | zero => intro d k pc lv st hp R h; exact h.elim
  | succ n ih =>
    intro d k pc lv st hp R h
    unfold rz_go at h
    split at h
    · next i len e =>
      rcases rz_way h with ⟨pc', lv', st', hp', h1, h2, h3, h4⟩ | ⟨k2, as, pc', rest, ⟨hd, hk, h1⟩, h4⟩ | ⟨r, h1, h4⟩
      · unfold rz_go; rw [e]; exact h4 _ _ _ _ id (rz_go_mono (ih _ _ _ _ _ _ _ h1) (fun r h' q => ⟨q.1, h3.2.tr q.2.1 q.2.2, Nat.le_trans h2 q.2.2⟩))
      · unfold rz_go; rw [e]; exact h4 _ _ _ _ id ⟨hd, hk, rz_go_mono (ih _ _ _ _ _ _ _ h1) (fun r h' q => rz_go_mono (ih _ _ _ _ _ _ _ q.1) (fun r2 h2 q2 => ⟨q2.1, q.2.1.tr q2.2.1 q2.2.2, Nat.le_trans q.2.2 q2.2.2⟩))⟩
      · unfold rz_go; rw [e]; exact h4 _ _ _ _ id ⟨h1, rz_kp.rf, Nat.le_refl _⟩
    · exact h.elim
theorem rz_go_succ : ∀ (n d k pc : Nat) (lv : List (Option Value)) (st : List Value) (hp : rz_Hp) (R : Option Value → rz_Hp → Prop), rz_go n d k pc lv st hp R → rz_go (n + 1) d k pc lv st hp R := by
  intro n
  induction n with
  | zero => intro d k pc lv st hp R h; exact h.elim
  | succ n ih =>
    intro d k pc lv st hp R h
    unfold rz_go at h
    split at h
    · next i len e =>
      rcases rz_way h with ⟨pc', lv', st', hp', h1, h2, h3, h4⟩ | ⟨k2, as, pc', rest, ⟨hd, hk, h1⟩, h4⟩ | ⟨r, h1, h4⟩
      · unfold rz_go; rw [e]; exact h4 _ _ _ _ id (ih _ _ _ _ _ _ _ h1)
      · unfold rz_go; rw [e]; exact h4 _ _ _ _ id ⟨hd, hk, rz_go_mono (ih _ _ _ _ _ _ _ h1) (fun r h' hh => ih _ _ _ _ _ _ _ hh)⟩
      · unfold rz_go; rw [e]; exact h4 _ _ _ _ id h1
    · exact h.elim
theorem rz_go_le {n n2 d k pc : Nat} {lv : List (Option Value)} {st : List Value} {hp : rz_Hp} {R : Option Value → rz_Hp → Prop} (hn : n ≤ n2) (h : rz_go n d k pc lv st hp R) : rz_go n2 d k pc lv st hp R := by
  induction hn with
  | refl => exact h
  | step _ ih => exact rz_go_succ _ _ _ _ _ _ _ _ ih
/-- more frames do no harm -/
theorem rz_go_deep : ∀ (n d d2 k pc : Nat) (lv : List (Option Value)) (st : List Value) (hp : rz_Hp) (R : Option Value → rz_Hp → Prop), d ≤ d2 → rz_go n d k pc lv st hp R → rz_go n d2 k pc lv st hp R := by
  intro n
  induction n with
  | zero => intro d d2 k pc lv st hp R hd h; exact h.elim
  | succ n ih =>
    intro d d2 k pc lv st hp R hd2 h
    unfold rz_go at h
    split at h
    · next i len e =>
      rcases rz_way h with ⟨pc', lv', st', hp', h1, h2, h3, h4⟩ | ⟨k2, as, pc', rest, ⟨hd, hk, h1⟩, h4⟩ | ⟨r, h1, h4⟩
      · unfold rz_go; rw [e]; exact h4 _ _ _ _ (fun q => Nat.lt_of_lt_of_le q hd2) (ih _ _ _ _ _ _ _ _ hd2 h1)
      · unfold rz_go; rw [e]; exact h4 _ _ _ _ (fun q => Nat.lt_of_lt_of_le q hd2) ⟨Nat.lt_of_lt_of_le hd hd2, hk, rz_go_mono (ih _ _ _ _ _ _ _ _ (Nat.sub_le_sub_right hd2 1) h1) (fun r h' hh => ih _ _ _ _ _ _ _ _ hd2 hh)⟩
      · unfold rz_go; rw [e]; exact h4 _ _ _ _ (fun q => Nat.lt_of_lt_of_le q hd2) h1
    · exact h.elim
theorem rz_ev_deep {d d2 k pc : Nat} {lv : List (Option Value)} {st : List Value} {hp : rz_Hp} {R : Option Value → rz_Hp → Prop} (hd : d ≤ d2) (h : rz_ev d k pc lv st hp R) : rz_ev d2 k pc lv st hp R := by
  obtain ⟨n, h⟩ := h
  exact ⟨n, rz_go_deep _ _ _ _ _ _ _ _ _ hd h⟩
theorem rz_ev_mono {d k pc : Nat} {lv : List (Option Value)} {st : List Value} {hp : rz_Hp} {R R' : Option Value → rz_Hp → Prop} (h : rz_ev d k pc lv st hp R) (hR : ∀ r h', R r h' → R' r h') : rz_ev d k pc lv st hp R' := by
  obtain ⟨n, h⟩ := h
  exact ⟨n, rz_go_mono h hR⟩
/-- a step of rz_ev -/
theorem rz_ev_iff {d k pc : Nat} {lv : List (Option Value)} {st : List Value} {hp : rz_Hp} {R : Option Value → rz_Hp → Prop} {i : Instr} {len : Nat} (e : decode (rz_B k) pc = .ok (i, len)) : rz_ev d k pc lv st hp R ↔ rz_stp k (0 < d) len pc lv st hp (fun pc' lv' st' hp' => rz_ev d k pc' lv' st' hp' R) (fun k2 as h post => 0 < d ∧ k2 < 127 ∧ rz_ev (d - 1) k2 0 (rz_en k2 as) [] h post) R i := by
  constructor
  · rintro ⟨n, h⟩
    cases n with
    | zero => exact h.elim
    | succ n =>
      unfold rz_go at h
      rw [e] at h
      rcases rz_way h with ⟨pc', lv', st', hp', h1, h2, h3, h4⟩ | ⟨k2, as, pc', rest, ⟨hd, hk, h1⟩, h4⟩ | ⟨r, h1, h4⟩
      · exact h4 _ _ _ _ id ⟨n, h1⟩
      · exact h4 _ _ _ _ id ⟨hd, hk, n, rz_go_mono h1 (fun r h' hh => ⟨n, hh⟩)⟩
      · exact h4 _ _ _ _ id h1
  · intro h
    rcases rz_way h with ⟨pc', lv', st', hp', ⟨n, h1⟩, h2, h3, h4⟩ | ⟨k2, as, pc', rest, ⟨hd, hk, n, h1⟩, h4⟩ | ⟨r, h1, h4⟩
    · exact ⟨n + 1, by unfold rz_go; rw [e]; exact h4 _ _ _ _ id h1⟩
    · obtain ⟨r, hp', ⟨n2, g1⟩, -, -, g4⟩ := rz_go_one _ _ _ _ _ _ _ _ h1
      refine ⟨max n n2 + 1, ?_⟩
      unfold rz_go
      rw [e]
      exact h4 _ _ _ _ id ⟨hd, hk, rz_go_le (Nat.le_max_left _ _) (g4 _ (rz_go_le (Nat.le_max_right _ _) g1))⟩
    · exact ⟨1, by unfold rz_go; rw [e]; exact h4 _ _ _ _ id h1⟩
theorem rz_ev_kp {d k pc : Nat} {lv : List (Option Value)} {st : List Value} {hp : rz_Hp} {R : Option Value → rz_Hp → Prop} (h : rz_ev d k pc lv st hp R) : rz_ev d k pc lv st hp (fun r h' => R r h' ∧ rz_kp hp h' ∧ hp.2.1 ≤ h'.2.1) := by
  obtain ⟨n, h⟩ := h
  exact ⟨n, rz_go_kp _ _ _ _ _ _ _ _ h⟩
end
section
/-! What rz_go says of places holds of the machine: a method that comes to its end over places meets, at every launch, its contract over the cells. -/
theorem rz_lk {α β : Type} [BEq α] [LawfulBEq α] {l : List (α × β)} {a : α} {b : β} (h : l.lookup a = some b) : (a, b) ∈ l := by
  induction l with
  | nil => simp at h
  | cons x l ih =>
    obtain ⟨y, z⟩ := x
    rw [List.lookup_cons] at h
    split at h
    · next e =>
      cases h
      rw [beq_iff_eq] at e
      subst e
      exact List.mem_cons_self
    · exact List.mem_cons_of_mem _ (ih h)
theorem rz_zip {α β : Type} {l : List α} {l2 : List β} {P : α × β → Bool} (hl : l.length = l2.length) (h : (l.zip l2).all P = true) {x : α} (hx : x ∈ l) : ∃ y, P (x, y) = true := by
  obtain ⟨i, hi⟩ := List.getElem?_of_mem hx
  have h1 : i < l2.length := hl ▸ (List.getElem?_eq_some_iff.mp hi).1
  refine ⟨l2[i], List.all_eq_true.mp h _ (List.mem_of_getElem? (i := i) ?_)⟩
  rw [List.getElem?_zip_eq_some]
  exact ⟨hi, List.getElem?_eq_getElem h1⟩
theorem rz_lay : ∀ c, c < 9 → ∀ w ∈ u_ws (rz_R c) (rz_T c) (rz_N c), w ∈ rz_tbl := by
  intro c hc
  match c, hc with
  | 0, _ => exact rz_lay0
  | 1, _ => exact rz_lay1
  | 2, _ => exact rz_lay2
  | 3, _ => exact rz_lay3
  | 4, _ => exact rz_lay4
  | 5, _ => exact rz_lay5
  | 6, _ => exact rz_lay6
  | 7, _ => exact rz_lay7
  | 8, _ => exact rz_lay8
  | n + 9, h => omega
theorem rz_tok : ∀ c, c < 9 → ∀ k, k < rz_N c → parseFieldDescriptor (rz_T c k).2.2.1 = some (rz_ty c k) := by
  intro c hc
  match c, hc with
  | 0, _ => exact rz_tok0
  | 1, _ => exact rz_tok1
  | 2, _ => exact rz_tok2
  | 3, _ => exact rz_tok3
  | 4, _ => exact rz_tok4
  | 5, _ => exact rz_tok5
  | 6, _ => exact rz_tok6
  | 7, _ => exact rz_tok7
  | 8, _ => exact rz_tok8
  | n + 9, h => omega
theorem rz_nm : ∀ c, c < 9 → ∀ a, a < rz_N c → ∀ b, b < rz_N c → a ≠ b → (rz_T c a).2.1 ≠ (rz_T c b).2.1 := by
  intro c hc
  match c, hc with
  | 0, _ => exact rz_nm0
  | 1, _ => exact rz_nm1
  | 2, _ => exact rz_nm2
  | 3, _ => exact rz_nm3
  | 4, _ => exact rz_nm4
  | 5, _ => exact rz_nm5
  | 6, _ => exact rz_nm6
  | 7, _ => exact rz_nm7
  | 8, _ => exact rz_nm8
  | n + 9, h => omega
theorem rz_mem {i : Nat} {w : Cond} (h : lw_tbl[i]? = some w) (g : goodWord w = true) : w ∈ rz_tbl := rz_in (List.mem_of_getElem? h) g
theorem rz_link {q : (Nat × Nat) × (Nat × Nat)} (h : q ∈ rz_fl) : Cond.fieldLink (rz_R q.1.1) q.1.2 (rz_R q.2.1) (rz_T q.2.1 q.2.2).2.1 (rz_T q.2.1 q.2.2).2.2.1 ∈ rz_tbl ∧ q.2.1 < 9 ∧ q.2.2 < rz_N q.2.1 ∧ (rz_T q.2.1 q.2.2).1 = rz_R q.2.1 := by
  obtain ⟨y, hy⟩ := rz_zip (l2 := rz_flx) (by decide +kernel) rz_okF h
  simp only [Bool.and_eq_true, decide_eq_true_eq] at hy
  exact ⟨rz_mem hy.1.1.1 rfl, hy.1.1.2, hy.1.2, hy.2⟩
theorem rz_calls {q : (Nat × Nat) × (Nat × Nat)} (h : q ∈ rz_ml) : rz_mw q ∈ lw_tbl ∧ q.2.2 < 127 ∧ (rz_kd q.2.2 = q.2.1 ∨ 4 < q.2.1 ∨ (q.2.1 = 3 ∧ rz_kd q.2.2 = 1)) ∧ q.1.1 < 10 := by
  obtain ⟨y, hy⟩ := rz_zip (l2 := rz_mlx) (by decide +kernel) rz_okL h
  simp only [Bool.and_eq_true, Bool.or_eq_true, decide_eq_true_eq] at hy
  exact ⟨List.mem_of_getElem? hy.1.1.1, hy.1.1.2, by rcases hy.1.2 with (h | h) | h <;> simp_all, hy.2⟩
theorem rz_news {q : (Nat × Nat) × Nat} (h : q ∈ rz_cl) : Cond.classLink (rz_R q.1.1) q.1.2 (rz_R q.2) ∈ rz_tbl ∧ q.2 < 9 := by
  obtain ⟨y, hy⟩ := rz_zip (l2 := rz_clx) (by decide +kernel) rz_okK h
  simp only [Bool.and_eq_true, decide_eq_true_eq] at hy
  exact ⟨rz_mem hy.1 rfl, hy.2⟩
theorem rz_consts {q : (Nat × Nat) × Int32} (h : q ∈ rz_kl) : Cond.constant (rz_R q.1.1) q.1.2 q.2 ∈ rz_tbl := by
  obtain ⟨y, hy⟩ := rz_zip (l2 := rz_klx) (by decide +kernel) rz_okI h
  simp only [decide_eq_true_eq] at hy
  exact rz_mem hy rfl
theorem rz_constsL {q : (Nat × Nat) × Int64} (h : q ∈ rz_kL) : Cond.constantLong (rz_R q.1.1) q.1.2 q.2 ∈ rz_tbl := by
  obtain ⟨y, hy⟩ := rz_zip (l2 := rz_kLx) (by decide +kernel) rz_okG h
  simp only [decide_eq_true_eq] at hy
  exact rz_mem hy rfl
theorem rz_ini {c : Nat} (hc : c < 10) : Cond.initialized (rz_R c) ∈ rz_tbl := rz_mem (rz_okN c hc) rfl
theorem rz_okV : ∀ k, k < 127 → rz_kd k = 0 → rz_K k < 9 := by decide +kernel
theorem rz_code {k : Nat} (hk : k < 127) : Cond.code (rz_Y k) (rz_B k) (rz_ML k) (rz_RT k) ∈ rz_tbl := by
  obtain ⟨i, hi⟩ := rz_okD k hk
  exact rz_mem hi rfl
theorem rz_inid {c : Nat} (hc : c < 9) : Cond.initialized (rz_R c) ∈ rz_tbl ∧ Cond.instantiable (rz_R c) (rz_N c) ∈ rz_tbl ∧ rz_cls[c]? = some (rz_R c, rz_T c, rz_N c) := by
  obtain ⟨h1, h2, h3⟩ := rz_okC c hc
  exact ⟨rz_mem h1 rfl, rz_mem h2 rfl, h3⟩
/-! the cells that places stand for -/
/-- the numbers of the classes' fields, the classes of int[], char[], State[] and long[], the script: its address, length and contents -/
abbrev rz_G : Type := va_G × ClassId × ClassId × ClassId × ClassId × (Nat × Nat × (Nat → Int32))
def rz_mv (G : rz_G) (b0 : Nat) : Value → Value
  | .ref a => .ref (b0 + a)
  | .float _ => .ref G.2.2.2.2.2.1
  | v => v
def rz_lf (vs : List Value) : Nat → Int64 := fun j => match vs[j]? with
  | some (.long v) => v
  | _ => 0
def rz_cv (G : rz_G) (b0 : Nat) : rz_Cl → va_E
  | .inl x => .inl (if x.1 = 0 then G.2.1 else G.2.2.1, x.2.1, .inl x.2.2)
  | .inr (.inl x) => .inl (G.2.2.2.1, x.1, .inr (.inr (.inr (.inr (fun j => (x.2 j).map (fun a => b0 + a))))))
  | .inr (.inr x) => if x.1 = 10 then .inl (G.2.2.2.2.1, x.2.length, .inr (.inl (rz_lf x.2))) else .inr (x.1, x.2.map (rz_mv G b0))
theorem rz_cv_obj {G : rz_G} {b0 c : Nat} {fs : List Value} (h : c < 9) : rz_cv G b0 (.inr (.inr (c, fs))) = .inr (c, fs.map (rz_mv G b0)) := by
  show (if c = 10 then _ else _) = _
  rw [if_neg (by omega)]
theorem rz_cv_long {G : rz_G} {b0 : Nat} {fs : List Value} : rz_cv G b0 (.inr (.inr (10, fs))) = .inl (G.2.2.2.2.1, fs.length, .inr (.inl (rz_lf fs))) := by
  rfl
def rz_ws (G : rz_G) (b0 : Nat) (hp : rz_Hp) : va_W := (List.range hp.2.1).map (fun a => (b0 + a, rz_cv G b0 (hp.1 a)))
def rz_tys (G : rz_G) : List (ClassId × FieldType) := [(G.2.1, .int), (G.2.2.1, .char), (G.2.2.2.1, .object "RisingPiles$State"), (G.2.2.2.2.1, .long)]
def rz_env (G : rz_G) (U : State) : Prop := va_K G.1 rz_cls (rz_tys G) U ∧ (∀ q ∈ rz_ml, q.2.1 = 3 → va_Nw (rz_mw q) U) ∧ va_AO "RisingPiles$State" U
def rz_sp (G : rz_G) (hp : rz_Hp) : Prop := hp.1 rz_SP = .inl (2, G.2.2.2.2.2.2.1, G.2.2.2.2.2.2.2)
def rz_wd (G : rz_G) (b0 : Nat) (hp : rz_Hp) (H : Heap) : Prop := va_P G.1 rz_cls (rz_ws G b0 hp) H ∧ rz_sp G hp
/-- the script stands in the heap, ahead of all the cells -/
def rz_xs (G : rz_G) (b0 : Nat) (U : State) : Prop := va_X G.2.2.2.2.2.1 G.2.2.2.2.2.2.1 G.2.2.2.2.2.2.2 U U.heap ∧ G.2.2.2.2.2.1 < b0
theorem rz_sp_set {G : rz_G} {hp : rz_Hp} {a : Nat} {c : rz_Cl} (h : rz_sp G hp) (ha : a < hp.2.1) (hm : hp.2.1 ≤ rz_SP) : rz_sp G (rz_set hp a c) := by
  unfold rz_sp rz_set
  dsimp only
  rw [if_neg (by omega)]
  exact h
theorem rz_sp_push {G : rz_G} {hp : rz_Hp} {c : rz_Cl} {n : Nat} (h : rz_sp G hp) (hm : hp.2.1 < rz_SP) : rz_sp G (rz_push hp c n) := by
  unfold rz_sp rz_push
  dsimp only
  rw [if_neg (by omega)]
  exact h
theorem rz_scr_of {G : rz_G} {hp : rz_Hp} (h : rz_sp G hp) {n : Nat} {f : Nat → Int32} (e : rz_scr hp = some (n, f)) : n = G.2.2.2.2.2.2.1 ∧ f = G.2.2.2.2.2.2.2 := by
  unfold rz_scr at e
  rw [h] at e
  cases e
  exact ⟨rfl, rfl⟩
def rz_A (b0 : Nat) : Nat → Prop := fun q => b0 ≤ q
theorem rz_env.warm {G : rz_G} {s U : State} (hW : s.WarmedH U.vm) (h : rz_env G s) : rz_env G U := by
  refine ⟨va_K.moved hW.alike h.1, fun q hq h3 => ?_, va_AO.moved hW.alike h.2.2⟩
  have h1 := h.2.1 q hq h3
  obtain ⟨⟨c, i⟩, t, k⟩ := q
  dsimp only at h3
  subst h3
  exact va_Nw.warmM hW h1
theorem rz_env.blind {G : rz_G} {U : State} (h : rz_env G U) (g : JFrame) (mk : MethodId) (a : Array Value) : rz_env G (U.calling g mk a) := by
  refine ⟨va_K.moved (u := U) (U := U.calling g mk a) (Vm.Alike.refl U.vm) h.1, fun q hq h3 => ?_, va_AO.moved (u := U) (U := U.calling g mk a) (Vm.Alike.refl U.vm) h.2.2⟩
  have h1 := h.2.1 q hq h3
  obtain ⟨⟨c, i⟩, t, k⟩ := q
  dsimp only at h3
  subst h3
  exact va_Nw.same rfl (show U.vm = (U.calling g mk a).vm from rfl) h1
theorem rz_ws_get (G : rz_G) (b0 : Nat) {hp : rz_Hp} {a : Nat} (h : a < hp.2.1) : (rz_ws G b0 hp)[a]? = some (b0 + a, rz_cv G b0 (hp.1 a)) := by
  unfold rz_ws
  rw [List.getElem?_map, List.getElem?_range h]
  rfl
theorem rz_ws_of {G : rz_G} {b0 : Nat} {hp : rz_Hp} {a : Nat} {q : Nat × va_E} (h : (rz_ws G b0 hp)[a]? = some q) : a < hp.2.1 ∧ q = (b0 + a, rz_cv G b0 (hp.1 a)) := by
  have h1 : a < hp.2.1 := by
    have := (List.getElem?_eq_some_iff.mp h).1
    unfold rz_ws at this
    simpa using this
  exact ⟨h1, (Option.some.inj ((rz_ws_get G b0 h1).symm.trans h)).symm⟩
theorem rz_ws_D (G : rz_G) (b0 : Nat) (hp : rz_Hp) : va_D (rz_A b0) (rz_ws G b0 hp) := by
  refine ⟨fun i j p q hi hj h => ?_, fun k q hk => ?_⟩
  · obtain ⟨-, rfl⟩ := rz_ws_of hi
    obtain ⟨-, rfl⟩ := rz_ws_of hj
    dsimp only at h
    omega
  · obtain ⟨-, rfl⟩ := rz_ws_of hk
    exact Nat.le_add_right _ _
theorem rz_ws_set (G : rz_G) (b0 : Nat) {hp : rz_Hp} {a : Nat} (h : a < hp.2.1) (c : rz_Cl) : (rz_ws G b0 hp).set a (b0 + a, rz_cv G b0 c) = rz_ws G b0 (rz_set hp a c) := by
  apply List.ext_getElem?
  intro i
  unfold rz_ws rz_set
  dsimp only
  by_cases hi : i = a
  · subst hi
    simp [h]
  · rw [List.getElem?_set_ne (fun q => hi q.symm)]
    by_cases h2 : i < hp.2.1
    · simp [h2, hi]
    · simp [h2]
theorem rz_ws_push (G : rz_G) (b0 : Nat) (hp : rz_Hp) (c : rz_Cl) (n : Nat) : rz_ws G b0 hp ++ [(b0 + hp.2.1, rz_cv G b0 c)] = rz_ws G b0 (rz_push hp c n) := by
  unfold rz_ws rz_push
  dsimp only
  rw [List.range_succ, List.map_append]
  congr 1
  · apply List.map_congr_left
    intro a ha
    have := List.mem_range.mp ha
    rw [if_neg (by omega)]
  · simp
theorem rz_ws_obj (G : rz_G) (b0 : Nat) {hp : rz_Hp} {a c : Nat} {fs : List Value} (h : a < hp.2.1) (he : hp.1 a = .inr (.inr (c, fs))) (hc : c < 9) : (rz_ws G b0 hp)[a]? = some (b0 + a, .inr (c, fs.map (rz_mv G b0))) := by
  rw [rz_ws_get G b0 h, he, rz_cv_obj hc]
theorem rz_fv_of {hp : rz_Hp} {a ci j : Nat} {v : Value} (h : rz_fv hp a ci j = some v) : a < hp.2.1 ∧ ∃ fs, hp.1 a = .inr (.inr (ci, fs)) ∧ fs[j]? = some v := by
  unfold rz_fv at h
  split at h
  · next hl =>
    split at h
    · next c fs e =>
      split at h
      · next hc => subst hc; exact ⟨hl, fs, e, h⟩
      · cases h
    · cases h
  · cases h
theorem rz_av_of {hp : rz_Hp} {a : Nat} {x : Nat × Nat × (Nat → Int32)} (h : rz_av hp a = some x) : a < hp.2.1 ∧ hp.1 a = .inl x := by
  unfold rz_av at h
  split at h
  · next hl =>
    split at h
    · next y e => cases h; exact ⟨hl, e⟩
    · cases h
  · cases h
theorem rz_qv_of {hp : rz_Hp} {a : Nat} {x : Nat × (Nat → Option Nat)} (h : rz_qv hp a = some x) : a < hp.2.1 ∧ hp.1 a = .inr (.inl x) := by
  unfold rz_qv at h
  split at h
  · next hl =>
    split at h
    · next y e => cases h; exact ⟨hl, e⟩
    · cases h
  · cases h
theorem rz_co_of {hp : rz_Hp} {a c : Nat} (h : rz_co hp a = some c) : a < hp.2.1 ∧ ∃ fs, hp.1 a = .inr (.inr (c, fs)) := by
  unfold rz_co at h
  split at h
  · next hl =>
    split at h
    · next y e => cases h; exact ⟨hl, y.2, e⟩
    · cases h
  · cases h
theorem rz_ln_of {hp : rz_Hp} {a n : Nat} (h : rz_ln hp a = some n) : a < hp.2.1 ∧ ((∃ x, hp.1 a = .inl x ∧ x.2.1 = n) ∨ ∃ x, hp.1 a = .inr (.inl x) ∧ x.1 = n) := by
  unfold rz_ln at h
  split at h
  · next hl =>
    split at h
    · next y e => cases h; exact ⟨hl, Or.inl ⟨y, e, rfl⟩⟩
    · next y e => cases h; exact ⟨hl, Or.inr ⟨y, e, rfl⟩⟩
    · cases h
  · cases h
/-! locals -/
def rz_as (vs : List (Option Value)) : List (Nat × Value) := (List.range vs.length).filterMap (fun i => (vs[i]?.join).map (fun v => (i, v)))
theorem rz_as_iff {vs : List (Option Value)} {q : Nat × Value} : q ∈ rz_as vs ↔ vs[q.1]? = some (some q.2) := by
  unfold rz_as
  rw [List.mem_filterMap]
  constructor
  · rintro ⟨i, hi, h⟩
    cases hv : vs[i]? with
    | none => rw [hv] at h; simp at h
    | some o =>
      cases o with
      | none => rw [hv] at h; simp at h
      | some v => rw [hv] at h; simp at h; subst h; exact hv
  · intro h
    exact ⟨q.1, List.mem_range.mpr (List.getElem?_eq_some_iff.mp h).1, by rw [h]; rfl⟩
def rz_ls (G : rz_G) (b0 : Nat) (ls : Array Slot) (nL : Nat) (lv : List (Option Value)) : Prop := lv.length = nL ∧ ((∀ (i : Nat) (v : Value), lv[i]? = some (some v) → rz_val v = true) ∧ ∀ (i : Nat) (x : Int64), lv[i]? = some (some (.long x)) → lv[i + 1]? = some none) ∧ lv_has ls nL (rz_as (lv.map (Option.map (rz_mv G b0))))
theorem rz_one_cat {v : Value} (h : rz_one v = true) : v.category = 1 := by
  cases v <;> first | rfl | cases h
theorem rz_one_mv {G : rz_G} {b0 : Nat} {v : Value} (h : rz_one v = true) : rz_one (rz_mv G b0 v) = true := by
  cases v <;> first | rfl | cases h
theorem rz_cat_mv {G : rz_G} {b0 : Nat} {v : Value} (h : rz_one v = true) : (rz_mv G b0 v).category = 1 := rz_one_cat (rz_one_mv h)
theorem rz_one_val {v : Value} (h : rz_one v = true) : rz_val v = true := by
  cases v <;> first | rfl | cases h
theorem rz_val_cases {v : Value} (h : rz_val v = true) : rz_one v = true ∨ ∃ x, v = .long x := by
  cases v <;> first | exact Or.inl rfl | exact Or.inr ⟨_, rfl⟩ | cases h
theorem rz_ls_get {G : rz_G} {b0 : Nat} {ls : Array Slot} {nL : Nat} {lv : List (Option Value)} (h : rz_ls G b0 ls nL lv) {i : Nat} {v : Value} (hi : lv[i]? = some (some v)) : ls[i]? = some (.val (rz_mv G b0 v)) :=
  h.2.2.2.2 (i, rz_mv G b0 v) (rz_as_iff.mpr (by rw [List.getElem?_map, hi]; rfl))
theorem rz_nl_of {G : rz_G} {b0 : Nat} {ls : Array Slot} {nL : Nat} {lv : List (Option Value)} (h : rz_ls G b0 ls nL lv) {i : Nat} {v : Value} (hi : lv[i]? = some (some v)) : rz_nl lv i = true := by
  cases i with
  | zero => rfl
  | succ i =>
    cases hw : lv[i]? with
    | none => simp [rz_nl, hw]
    | some o =>
      cases o with
      | none => simp [rz_nl, hw]
      | some w => cases w <;> first | (simp [rz_nl, hw]; done) | (have := h.2.1.2 i _ hw; rw [hi] at this; cases this)
theorem rz_nl_iff {lv : List (Option Value)} {i j : Nat} {x : Int64} (h : rz_nl lv i = true) (hj : lv[j]? = some (some (.long x))) : ¬ j + 1 = i := by
  intro e
  subst e
  simp [rz_nl, hj] at h
theorem rz_as_mv {G : rz_G} {b0 : Nat} {lv : List (Option Value)} {q : Nat × Value} (hq : (lv.map (Option.map (rz_mv G b0)))[q.1]? = some (some q.2)) : ∃ w, lv[q.1]? = some (some w) ∧ rz_mv G b0 w = q.2 := by
  rw [List.getElem?_map] at hq
  cases hw : lv[q.1]? with
  | none => rw [hw] at hq; cases hq
  | some o =>
    cases o with
    | none => rw [hw] at hq; cases hq
    | some w =>
      rw [hw] at hq
      exact ⟨w, rfl, by simpa using hq⟩
theorem rz_ls_set {G : rz_G} {b0 : Nat} {ls : Array Slot} {nL : Nat} {lv : List (Option Value)} (h : rz_ls G b0 ls nL lv) {i : Nat} {v : Value} (hv : rz_one v = true) (hnl : rz_nl lv i = true) {ls' : Array Slot} (h' : lv_has ls' nL ((i, rz_mv G b0 v) :: (rz_as (lv.map (Option.map (rz_mv G b0)))).filter (fun q => !(q.1 == i) && !(q.1 + 1 == i && q.2.category == 2)))) : rz_ls G b0 ls' nL (lv.set i (some v)) := by
  refine ⟨by rw [List.length_set]; exact h.1, ⟨fun j w hj => ?_, fun j x hj => ?_⟩, h'.1, h'.2.1, fun q hq => ?_⟩
  · by_cases hji : j = i
    · subst hji
      have hl : j < lv.length := by have := (List.getElem?_eq_some_iff.mp hj).1; simpa using this
      rw [List.getElem?_set_self hl] at hj
      cases hj
      exact rz_one_val hv
    · rw [List.getElem?_set_ne (fun e => hji e.symm)] at hj
      exact h.2.1.1 j w hj
  · by_cases hji : j = i
    · subst hji
      have hl : j < lv.length := by have := (List.getElem?_eq_some_iff.mp hj).1; simpa using this
      rw [List.getElem?_set_self hl] at hj
      cases hj
      cases hv
    · rw [List.getElem?_set_ne (fun e => hji e.symm)] at hj
      have h2 := rz_nl_iff hnl hj
      rw [List.getElem?_set_ne (fun e => h2 e.symm)]
      exact h.2.1.2 j x hj
  · have hq := rz_as_iff.mp hq
    by_cases hji : q.1 = i
    · refine h'.2.2 q ?_
      obtain ⟨j, w⟩ := q
      dsimp only at hji hq
      subst hji
      have hl : j < lv.length := by have := (List.getElem?_eq_some_iff.mp hq).1; simpa using this
      rw [List.getElem?_map, List.getElem?_set_self hl] at hq
      cases hq
      exact List.mem_cons_self
    · have hq1 : (lv.map (Option.map (rz_mv G b0)))[q.1]? = some (some q.2) := by
        rw [List.getElem?_map, List.getElem?_set_ne (fun e => hji e.symm)] at hq
        rw [List.getElem?_map]; exact hq
      refine h'.2.2 q (List.mem_cons_of_mem _ (List.mem_filter.mpr ⟨rz_as_iff.mpr hq1, ?_⟩))
      obtain ⟨w, hw, e⟩ := rz_as_mv hq1
      rcases rz_val_cases (h.2.1.1 _ _ hw) with h1 | ⟨x, rfl⟩
      · have hc : q.2.category = 1 := by rw [← e]; exact rz_cat_mv h1
        simp [hji, hc]
      · have h2 := rz_nl_iff hnl hw
        simp [hji, h2]
theorem rz_ls_set2 {G : rz_G} {b0 : Nat} {ls : Array Slot} {nL : Nat} {lv : List (Option Value)} (h : rz_ls G b0 ls nL lv) {i : Nat} {x : Int64} (hl : i + 1 < lv.length) (hnl : rz_nl lv i = true) {ls' : Array Slot} (h' : lv_has ls' nL ((i, Value.long x) :: (rz_as (lv.map (Option.map (rz_mv G b0)))).filter (fun q => !(q.1 == i) && (!(q.1 == i + 1) && !(q.1 + 1 == i && q.2.category == 2))))) : rz_ls G b0 ls' nL ((lv.set i (some (.long x))).set (i + 1) none) := by
  have g1 : ((lv.set i (some (.long x))).set (i + 1) none)[i]? = some (some (.long x)) := by
    rw [List.getElem?_set_ne (by omega), List.getElem?_set_self (by omega)]
  have g2 : ((lv.set i (some (.long x))).set (i + 1) none)[i + 1]? = some none := by
    rw [List.getElem?_set_self (by rw [List.length_set]; exact hl)]
  have g3 : ∀ j, ¬ j = i → ¬ j = i + 1 → ((lv.set i (some (.long x))).set (i + 1) none)[j]? = lv[j]? := fun j h1 h2 => by
    rw [List.getElem?_set_ne (fun e => h2 e.symm), List.getElem?_set_ne (fun e => h1 e.symm)]
  refine ⟨by rw [List.length_set, List.length_set]; exact h.1, ⟨fun j w hj => ?_, fun j y hj => ?_⟩, h'.1, h'.2.1, fun q hq => ?_⟩
  · by_cases h1 : j = i
    · subst h1; rw [g1] at hj; cases hj; rfl
    · by_cases h2 : j = i + 1
      · subst h2; rw [g2] at hj; cases hj
      · rw [g3 j h1 h2] at hj; exact h.2.1.1 j w hj
  · by_cases h1 : j = i
    · subst h1; exact g2
    · by_cases h2 : j = i + 1
      · subst h2; rw [g2] at hj; cases hj
      · rw [g3 j h1 h2] at hj
        have h3 := rz_nl_iff hnl hj
        rw [g3 (j + 1) h3 (by omega)]
        exact h.2.1.2 j y hj
  · have hq := rz_as_iff.mp hq
    by_cases h1 : q.1 = i
    · refine h'.2.2 q ?_
      obtain ⟨j, w⟩ := q
      dsimp only at h1 hq
      subst h1
      rw [List.getElem?_map, g1] at hq
      cases hq
      exact List.mem_cons_self
    · by_cases h2 : q.1 = i + 1
      · rw [List.getElem?_map, h2, g2] at hq
        cases hq
      · have hq1 : (lv.map (Option.map (rz_mv G b0)))[q.1]? = some (some q.2) := by
          rw [List.getElem?_map, g3 _ h1 h2] at hq
          rw [List.getElem?_map]; exact hq
        refine h'.2.2 q (List.mem_cons_of_mem _ (List.mem_filter.mpr ⟨rz_as_iff.mpr hq1, ?_⟩))
        obtain ⟨w, hw, e⟩ := rz_as_mv hq1
        rcases rz_val_cases (h.2.1.1 _ _ hw) with h3 | ⟨y, rfl⟩
        · have hc : q.2.category = 1 := by rw [← e]; exact rz_cat_mv h3
          simp [h1, h2, hc]
        · have h3 := rz_nl_iff hnl hw
          simp [h1, h2, h3]
theorem rz_sl_ok (G : rz_G) (b0 : Nat) {as : List Value} (h : ∀ v ∈ as, rz_val v = true) : (lg_sl (as.map (rz_mv G b0))).length = (rz_sl as).length ∧ (∀ (j : Nat) (v : Value), (rz_sl as)[j]? = some (some v) → rz_val v = true) ∧ (∀ (j : Nat) (x : Int64), (rz_sl as)[j]? = some (some (.long x)) → (rz_sl as)[j + 1]? = some none) ∧ ∀ (i0 j : Nat) (v : Value), (rz_sl as)[j]? = some (some v) → (i0 + j, rz_mv G b0 v) ∈ lv_args i0 (as.map (rz_mv G b0)) := by
  induction as with
  | nil => exact ⟨rfl, fun _ _ h => by simp [rz_sl] at h, fun _ _ h => by simp [rz_sl] at h, fun _ _ _ h => by simp [rz_sl] at h⟩
  | cons a as ih =>
    obtain ⟨h1, h2, h3, h4⟩ := ih (fun v hv => h v (List.mem_cons_of_mem _ hv))
    rcases rz_val_cases (h a List.mem_cons_self) with ha | ⟨x, rfl⟩
    · have hc : ¬ (rz_mv G b0 a).category = 2 := by rw [rz_cat_mv ha]; decide
      have e : rz_sl (a :: as) = some a :: rz_sl as := by
        cases a <;> first | rfl | cases ha
      rw [e]
      refine ⟨?_, fun j v hj => ?_, fun j x hj => ?_, fun i0 j v hj => ?_⟩
      · unfold lg_sl at h1 ⊢
        rw [List.map_cons, List.flatMap_cons, if_neg hc]
        simp [h1]
      · cases j with
        | zero => cases hj; exact rz_one_val ha
        | succ j => exact h2 j v hj
      · cases j with
        | zero => cases hj; cases ha
        | succ j => exact h3 j x hj
      · rw [List.map_cons]
        unfold lv_args
        rw [if_neg hc]
        cases j with
        | zero => cases hj; exact List.mem_cons_self
        | succ j =>
          have := h4 (i0 + 1) j v hj
          rw [show i0 + (j + 1) = i0 + 1 + j by omega]
          exact List.mem_cons_of_mem _ this
    · have hc : (rz_mv G b0 (.long x)).category = 2 := rfl
      have e : rz_sl (.long x :: as) = some (.long x) :: none :: rz_sl as := rfl
      rw [e]
      refine ⟨?_, fun j v hj => ?_, fun j y hj => ?_, fun i0 j v hj => ?_⟩
      · unfold lg_sl at h1 ⊢
        rw [List.map_cons, List.flatMap_cons, if_pos hc]
        simp [h1]
      · match j, hj with
        | 0, hj => cases hj; rfl
        | 1, hj => cases hj
        | j + 2, hj => exact h2 j v hj
      · match j, hj with
        | 0, hj => rfl
        | 1, hj => cases hj
        | j + 2, hj => exact h3 j y hj
      · rw [List.map_cons]
        unfold lv_args
        rw [if_pos hc]
        match j, hj with
        | 0, hj => cases hj; exact List.mem_cons_self
        | 1, hj => cases hj
        | j + 2, hj =>
          have := h4 (i0 + 2) j v hj
          rw [show i0 + (j + 2) = i0 + 2 + j by omega]
          exact List.mem_cons_of_mem _ this
theorem rz_entry {G : rz_G} {b0 k : Nat} {as : List Value} (ha : ∀ v ∈ as, rz_val v = true) (hl : rz_cs as ≤ rz_ML k) : rz_ls G b0 ((lg_sl (as.map (rz_mv G b0)) ++ List.replicate (rz_ML k - (lg_sl (as.map (rz_mv G b0))).length) Slot.unset).toArray) (rz_ML k) (rz_en k as) := by
  obtain ⟨h1, h2, h3, h4⟩ := rz_sl_ok G b0 ha
  unfold rz_cs at hl
  have hE := lv_entry (as.map (rz_mv G b0)) (n := rz_ML k) (by rw [h1]; exact hl)
  have hg : ∀ (i : Nat) (v : Value), (rz_en k as)[i]? = some (some v) → (rz_sl as)[i]? = some (some v) := fun i v hi => by
    unfold rz_en at hi
    by_cases hi2 : i < (rz_sl as).length
    · rwa [List.getElem?_append_left hi2] at hi
    · rw [List.getElem?_append_right (Nat.not_lt.mp hi2), List.getElem?_replicate] at hi
      split at hi <;> simp at hi
  refine ⟨by unfold rz_en; simp; omega, ⟨fun i v hi => h2 i v (hg i v hi), fun i x hi => ?_⟩, hE.1, hE.2.1, fun q hq => ?_⟩
  · have g1 := h3 i x (hg i _ hi)
    unfold rz_en
    rw [List.getElem?_append_left (List.getElem?_eq_some_iff.mp g1).1]
    exact g1
  · have hq := rz_as_iff.mp hq
    obtain ⟨w, hw, e⟩ := rz_as_mv hq
    refine hE.2.2 q ?_
    have := h4 0 q.1 w (hg _ _ hw)
    rw [Nat.zero_add, e] at this
    exact this
theorem rz_cats {G : rz_G} {b0 : Nat} {st : List Value} (h : st.all rz_val = true) : ((st.map (rz_mv G b0)).map fun v => v.category).sum = rz_cs st := by
  induction st with
  | nil => rfl
  | cons a st ih =>
    simp only [List.all_cons, Bool.and_eq_true] at h
    have ih := ih h.2
    unfold rz_cs at ih ⊢
    rcases rz_val_cases h.1 with ha | ⟨x, rfl⟩
    · have e : rz_sl (a :: st) = some a :: rz_sl st := by
        cases a <;> first | rfl | cases ha
      rw [e]
      simp only [List.map_cons, List.sum_cons, List.length_cons, ih, rz_cat_mv ha]
      omega
    · have e : rz_sl (.long x :: st) = some (.long x) :: none :: rz_sl st := rfl
      rw [e]
      simp only [List.map_cons, List.sum_cons, List.length_cons, ih]
      show 2 + _ = _
      omega
/-- the locals of a method; none of the class itself holds a long -/
def rz_lo (G : rz_G) (b0 : Nat) (ls : Array Slot) (k : Nat) (lv : List (Option Value)) : Prop := rz_ls G b0 ls (rz_ML k) lv ∧ (rz_K k ≠ 9 → ∀ (i : Nat) (x : Int64), ¬ lv[i]? = some (some (.long x)))
theorem rz_nl_free {lv : List (Option Value)} (h : ∀ (i : Nat) (x : Int64), ¬ lv[i]? = some (some (.long x))) (i : Nat) : rz_nl lv i = true := by
  cases i with
  | zero => rfl
  | succ i =>
    cases hw : lv[i]? with
    | none => simp [rz_nl, hw]
    | some o =>
      cases o with
      | none => simp [rz_nl, hw]
      | some w => cases w <;> first | (simp [rz_nl, hw]; done) | exact absurd hw (h i _)
theorem rz_lo_set {G : rz_G} {b0 : Nat} {ls : Array Slot} {k : Nat} {lv : List (Option Value)} (h : rz_lo G b0 ls k lv) {i : Nat} {v : Value} (hv : rz_one v = true) (hnl : rz_K k ≠ 9 ∨ rz_nl lv i = true) {ls' : Array Slot} (h' : lv_has ls' (rz_ML k) ((i, rz_mv G b0 v) :: (rz_as (lv.map (Option.map (rz_mv G b0)))).filter (fun q => !(q.1 == i) && !(q.1 + 1 == i && q.2.category == 2)))) : rz_lo G b0 ls' k (lv.set i (some v)) := by
  refine ⟨rz_ls_set h.1 hv (by rcases hnl with h9 | hn; exact rz_nl_free (h.2 h9) i; exact hn) h', fun h9 j x hj => ?_⟩
  by_cases hji : j = i
  · subst hji
    have hl : j < lv.length := by have := (List.getElem?_eq_some_iff.mp hj).1; simpa using this
    rw [List.getElem?_set_self hl] at hj
    cases hj
    cases hv
  · rw [List.getElem?_set_ne (fun e => hji e.symm)] at hj
    exact h.2 h9 j x hj
theorem rz_sl_mem {as : List Value} : ∀ (j : Nat) (v : Value), (rz_sl as)[j]? = some (some v) → v ∈ as := by
  induction as with
  | nil => intro j v h; simp [rz_sl] at h
  | cons a as ih =>
    intro j v h
    by_cases ha : ∃ x, a = .long x
    · obtain ⟨x, rfl⟩ := ha
      have e : rz_sl (.long x :: as) = some (.long x) :: none :: rz_sl as := rfl
      rw [e] at h
      match j, h with
      | 0, h => cases h; exact List.mem_cons_self
      | 1, h => cases h
      | j + 2, h => exact List.mem_cons_of_mem _ (ih j v h)
    · have e : rz_sl (a :: as) = some a :: rz_sl as := by
        cases a <;> first | rfl | exact absurd ⟨_, rfl⟩ ha
      rw [e] at h
      match j, h with
      | 0, h => cases h; exact List.mem_cons_self
      | j + 1, h => exact List.mem_cons_of_mem _ (ih j v h)
theorem rz_lo_entry {G : rz_G} {b0 k : Nat} {as : List Value} (ha : ∀ v ∈ as, rz_val v = true) (hl : rz_cs as ≤ rz_ML k) (hn : rz_K k = 9 ∨ as.all rz_one = true) : rz_lo G b0 ((lg_sl (as.map (rz_mv G b0)) ++ List.replicate (rz_ML k - (lg_sl (as.map (rz_mv G b0))).length) Slot.unset).toArray) k (rz_en k as) := by
  refine ⟨rz_entry ha hl, fun h9 i x hx => ?_⟩
  have hn : as.all rz_one = true := by rcases hn with q | q; exact absurd q h9; exact q
  unfold rz_en at hx
  by_cases hi2 : i < (rz_sl as).length
  · rw [List.getElem?_append_left hi2] at hx
    have := List.all_eq_true.mp hn _ (rz_sl_mem i _ hx)
    cases this
  · rw [List.getElem?_append_right (Nat.not_lt.mp hi2), List.getElem?_replicate] at hx
    split at hx <;> simp at hx
end
section
/-! The road from places to the machine: what rz_go brings to an end, the machine brings to that end. -/
def rz_Q (G : rz_G) (b0 : Nat) (r : Option Value) (hp' : rz_Hp) : Array Value → State → Outcome → State → Prop := fun _ st oc t => (oc = .returned (r.map (rz_mv G b0)) ∧ rz_wd G b0 hp' t.heap) ∧ va_F (rz_A b0) st t
def rz_wk (k : Nat) : List Cond := Cond.code (rz_Y k) (rz_B k) (rz_ML k) (rz_RT k) :: rz_tbl
def rz_rm (d mc ms : Nat) : Room := { frames := d, cells := mc, slots := ms, locals := 30 * d }
def rz_fx (p : Program) (s : State) (m : MethodId) (args : Array Value) (meth : Method) (c : Code) (k : Nat) : Prop := p.tables.exec = Jvm.exec ∧ c.code = rz_B k ∧ c.maxLocals = rz_ML k ∧ s.vm.findClass (rz_R (rz_K k)) = some m.cls ∧ (∀ w ∈ rz_tbl, w.before args s = true) ∧ meth.locks = false ∧ meth.sig.returnType = rz_RT k ∧ ((rz_Y k).name = "<init>" → meth.name = (rz_Y k).name)
def rz_pc (G : rz_G) (b0 : Nat) (hp : rz_Hp) : State → Prop := fun U => U.heap.size = b0 + hp.2.1 ∧ rz_wd G b0 hp U.heap ∧ rz_env G U ∧ rz_xs G b0 U
theorem rz_xs.warm {G : rz_G} {b0 : Nat} {s U : State} {H : Heap} {locs : List Loc} (hW : s.WarmedH U.vm) (hU : U.heap = H) (hS : va_S (rz_A b0) s.heap H locs) (h : rz_xs G b0 s) : rz_xs G b0 U := by
  obtain ⟨⟨scr, h1, h2⟩, h3⟩ := h
  refine ⟨va_X.moved hW.alike ?_, h3⟩
  have hlt : G.2.2.2.2.2.1 < s.heap.size := (Array.getElem?_eq_some_iff.mp h1).1
  exact va_X.kept ⟨scr, h1, h2⟩ (by rw [hU]; exact hS.2.1 _ hlt (by show ¬ b0 ≤ _; omega))
theorem rz_xs.blind {G : rz_G} {b0 : Nat} {U : State} (h : rz_xs G b0 U) (g : JFrame) (mk : MethodId) (a : Array Value) : rz_xs G b0 (U.calling g mk a) :=
  ⟨va_X.moved (u := U) (U := U.calling g mk a) (Vm.Alike.refl U.vm) h.1, h.2⟩
theorem rz_pc_blind {G : rz_G} {b0 : Nat} {hp : rz_Hp} {av : List Value} : FrameBlind (va_Pc av (rz_pc G b0 hp)) := fun a U g mk q => by
  obtain ⟨q0, q1, q2, q3, q4⟩ := q
  exact ⟨q0, q1, q2, rz_env.blind q3 g mk a, rz_xs.blind q4 g mk a⟩
section RZW
variable {p : Program} {l : Launch} {e : Env} {R : Room} {s : State} {m : MethodId} {args : Array Value} {below : List Frame} {meth : Method} {c : Code} {H : Heap} {locs : List Loc} {cells slots : Nat} {Q : State → Prop}
theorem rz_sized {g : JFrame} (kk : H.size ≤ s.heap.size + cells → W p l e R s m args below meth c H locs cells slots Q g) : W p l e R s m args below meth c H locs cells slots Q g := fun T hT X => kk (hT ▸ X.heapSize) T hT X
/-- behind a call -/
theorem rz_back {G : rz_G} {b0 pc mc ms : Nat} {ls : Array Slot} {rest st0 : List Value} {a : Array Value} {r : Option Value} {hp' : rz_Hp} (hr : va_Run p l e R s m args below meth c H locs cells slots mc ms (F0 m pc ls st0) rest (rz_Q G b0 r hp' a) (rz_A b0)) (hS : va_S (rz_A b0) s.heap H locs)
    (kk : ∀ (H1 : Heap) (locs1 : List Loc), rz_wd G b0 hp' H1 → va_S (rz_A b0) s.heap H1 locs1 → W p l e R s m args below meth c H1 locs1 (cells + mc) (slots + ms) Q (F0 m (pc + 3) ls ((r.map (rz_mv G b0)).toList ++ rest))) : W p l e R s m args below meth c H locs cells slots Q (F0 m pc ls st0) := by
  intro T hT X
  obtain ⟨v, st₀, t, T', L, h0, X', hL, e1, e2, ⟨⟨hv, hp⟩, hz, hk⟩, st⟩ := hr T hT X
  cases hv
  rw [h0] at hz hk
  obtain ⟨t2, a1, b1⟩ := kk T'.heap (locs ++ L) (by rw [e1]; exact hp) ⟨Nat.le_trans hS.1 (by rw [e1]; exact hz), fun q h1 h2 => by rw [e1, hk q (Nat.lt_of_lt_of_le h1 hS.1) h2]; exact hS.2.1 q h1 h2, fun q hq => by
      rcases List.mem_append.mp hq with h | h
      · exact hS.2.2 q h
      · exact hL q h⟩ T' rfl X'
  exact ⟨t2, st t2 a1, b1⟩
end RZW
/-- what is claimed of n steps -/
def rz_ok (n : Nat) : Prop := ∀ (d k pc : Nat) (lv : List (Option Value)) (st : List Value) (hp : rz_Hp) (r : Option Value) (hp' : rz_Hp), rz_go n d k pc lv st hp (fun r1 h1 => r1 = r ∧ h1 = hp') → k < 128 →
  ∀ {p : Program} {l : Launch} {e : Env} {R : Room} {s : State} {m : MethodId} {args : Array Value} {below : List Frame} {meth : Method} {c : Code} {H : Heap} {locs : List Loc} {cells slots : Nat} {ls : Array Slot} {G : rz_G} {b0 mc ms : Nat},
    rz_fx p s m args meth c k → rz_env G s → rz_xs G b0 s → rz_wd G b0 hp H → va_S (rz_A b0) s.heap H locs → b0 ≤ s.heap.size → s.heap.size + cells = b0 + hp.2.1 → cells + hp'.2.1 = mc + hp.2.1 → slots + hp'.2.2 = ms + hp.2.2 → hp'.2.1 ≤ rz_SP → mc ≤ R.cells → ms ≤ R.slots → d ≤ R.frames → 30 * d ≤ R.locals → rz_lo G b0 ls k lv →
    W p l e R s m args below meth c H locs cells slots (MQ below (rz_Q G b0 r hp') args s mc ms (rz_A b0)) (F0 m pc ls (st.map (rz_mv G b0)))
set_option maxHeartbeats 4000000 in
/-- the contract of a method, out of n steps -/
theorem rz_met {n : Nat} (ok : rz_ok n) {d k : Nat} {as : List Value} {hp : rz_Hp} {r : Option Value} {hp' : rz_Hp} (h : rz_go n d k 0 (rz_en k as) [] hp (fun r1 h1 => r1 = r ∧ h1 = hp')) (hk : k < 127) (ha : ∀ v ∈ as, rz_val v = true) (hl : rz_cs as ≤ rz_ML k) (hn : rz_K k = 9 ∨ as.all rz_one = true) (l : Launch) (G : rz_G) (b0 mc ms : Nat) (h1 : hp'.2.1 = mc + hp.2.1) (h2 : hp'.2.2 = ms + hp.2.2) (h3 : hp'.2.1 ≤ rz_SP) : Met l (rz_Y k) (rz_wk k) (rz_rm d mc ms) (va_Pc (as.map (rz_mv G b0)) (rz_pc G b0 hp)) (rz_Q G b0 r hp') mc ms (rz_A b0) := by
  have hy := rz_okY k (Nat.lt_succ_of_lt hk)
  refine Met.ofW (cc := rz_B k) (maxL := rz_ML k) (ret := rz_RT k) hy.2.2.2.2.2.2.2 rfl ?_
  intro p e s m args below meth c s₁ B hml hv
  obtain ⟨rfl, hsz, hP, hE, hXs⟩ := hv
  have hts0 := atoms_spec (ws := rz_wk k) B.pre
  have hown : s.vm.findClass (rz_R (rz_K k)) = some m.cls := by rw [← hy.1]; exact findClass_of_methodNamed B.named
  rw [lg_entry_eq]
  exact ok d k 0 (rz_en k as) [] hp r hp' h (Nat.lt_succ_of_lt hk) ⟨B.exec, B.bytes, hml, hown, fun w hw => hts0 w (List.mem_cons_of_mem _ hw), B.notSynchronized, B.returns, fun _ => (name_of_methodNamed B.named B.method).1⟩ hE hXs hP va_S.rf (by omega) hsz (by omega) (by omega) h3 (Nat.le_refl _) (Nat.le_refl _) (Nat.le_refl _) (Nat.le_refl _) (rz_lo_entry ha hl hn)
theorem rz_goods {k : Nat} (hk : k < 127) : GoodIn rz_tbl (rz_wk k) := rz_goodIn (fun w hw => by
  rcases List.mem_cons.mp hw with h | h
  · rw [h]; exact rz_code hk
  · exact h)
section RZC
variable {s : State} {args : Array Value} {R : Room}
/-- what a call asks of the tables -/
theorem rz_cb (hts : ∀ w ∈ rz_tbl, w.before args s = true) {k d mc ms : Nat} (hk : k < 127) {own : String} {index : Nat} (hl : (Cond.methodLink own index (rz_Y k)).before args s = true) (hf : d + 1 ≤ R.frames) (hlo : 30 * (d + 1) ≤ R.locals) : CallB R s args own index (rz_Y k) (rz_B k) (rz_ML k) (rz_RT k) (rz_wk k) (rz_rm d mc ms) mc ms (rz_np k) := by
  have hy := rz_okY k (Nat.lt_succ_of_lt hk)
  have hG := rz_goods hk
  have hc : Cond.code (rz_Y k) (rz_B k) (rz_ML k) (rz_RT k) ∈ rz_wk k := List.mem_cons_self
  refine ⟨rfl, rfl, hf, ?_, pay_in hts hG, hc, hts _ (hG _ hc).1, ?_, hy.2.2.1, fun sig h => ?_, hl⟩
  · show 8 + (rz_ML k + 11) + 30 * d ≤ R.locals
    have := hy.2.2.2.2.1
    omega
  · rw [hy.1]; exact hts _ (rz_ini hy.2.1)
  · have h2 := hy.2.2.2.1
    rw [h] at h2
    exact (Option.some.inj h2).symm
theorem rz_cbN (hts : ∀ w ∈ rz_tbl, w.before args s = true) {k d mc ms : Nat} (hk : k < 127) {own host : String} {index : Nat} (hl : va_Nw (.methodLinkNest own index (rz_Y k) host) s) (hf : d + 1 ≤ R.frames) (hlo : 30 * (d + 1) ≤ R.locals) : va_CN R s args own index (rz_Y k) host (rz_B k) (rz_ML k) (rz_RT k) (rz_wk k) (rz_rm d mc ms) mc ms (rz_np k) := by
  have hy := rz_okY k (Nat.lt_succ_of_lt hk)
  refine va_cnB (rz_np k) hts (rz_goods hk) rfl rfl rfl hl ?_ ⟨hy.2.2.1.1, hy.2.2.1.2, hy.2.2.2.1⟩ ⟨hf, ?_⟩
  · rw [hy.1]; exact hts _ (rz_ini hy.2.1)
  · show 8 + (rz_ML k + 11) + 30 * d ≤ R.locals
    have := hy.2.2.2.2.1
    omega
end RZC
theorem rz_kd3 : ∀ k, k < 127 → ¬ rz_kd k = 3 := by decide +kernel
theorem rz_onces {st : List Value} (h : st.all rz_val = true) : ∀ v ∈ st, rz_val v = true := fun v hv => List.all_eq_true.mp h v hv
theorem rz_split {G : rz_G} {b0 n : Nat} {st : List Value} : st.map (rz_mv G b0) = (((st.take n).reverse.map (rz_mv G b0))).reverse ++ (st.drop n).map (rz_mv G b0) := by
  rw [← List.map_reverse, List.reverse_reverse, ← List.map_append, List.take_append_drop]
theorem rz_fits {G : rz_G} {ty : FieldType} {v : Value} {b0 : Nat} (h : rz_fit ty v) : narrow ty (rz_mv G b0 v) = rz_mv G b0 v ∧ fits ty (rz_mv G b0 v) = true := by
  unfold rz_fit at h
  split at h
  · exact ⟨rfl, rfl⟩
  · rcases h with rfl | rfl <;> exact ⟨rfl, rfl⟩
  · exact ⟨rfl, rfl⟩
  · exact ⟨rfl, rfl⟩
  · exact ⟨rfl, rfl⟩
  · exact ⟨rfl, rfl⟩
  · exact h.elim
theorem rz_pf_cv {G : rz_G} {b0 : Nat} {hp : rz_Hp} {a ci j : Nat} {fs : List Value} {v : Value} (h : a < hp.2.1) (he : hp.1 a = .inr (.inr (ci, fs))) (hc : ci < 9) : (rz_ws G b0 hp).set a (b0 + a, .inr (ci, (fs.map (rz_mv G b0)).set j (rz_mv G b0 v))) = rz_ws G b0 (rz_pf hp a j v) := by
  unfold rz_pf
  rw [he]
  rw [← rz_ws_set G b0 h]
  rw [rz_cv_obj hc, ← List.map_set]
theorem rz_pl_cv {G : rz_G} {b0 : Nat} {hp : rz_Hp} {a i : Nat} {fs : List Value} {x : Int64} (h : a < hp.2.1) (he : hp.1 a = .inr (.inr (10, fs))) (hi : i < fs.length) : (rz_ws G b0 hp).set a (b0 + a, .inl (G.2.2.2.2.1, fs.length, .inr (.inl (vp_updL (rz_lf fs) i x)))) = rz_ws G b0 (rz_pf hp a i (.long x)) := by
  unfold rz_pf
  rw [he]
  rw [← rz_ws_set G b0 h]
  rw [rz_cv_long]
  have e : vp_updL (rz_lf fs) i x = rz_lf (fs.set i (.long x)) := by
    funext j
    unfold vp_updL rz_lf
    by_cases hj : j = i
    · subst hj
      rw [if_pos rfl, List.getElem?_set_self hi]
    · rw [if_neg hj, List.getElem?_set_ne (fun e => hj e.symm)]
  rw [e, List.length_set]
theorem rz_pa_cv {G : rz_G} {b0 : Nat} {hp : rz_Hp} {a t n : Nat} {f g : Nat → Int32} (h : a < hp.2.1) (he : hp.1 a = .inl (t, n, f)) : (rz_ws G b0 hp).set a (b0 + a, .inl (if t = 0 then G.2.1 else G.2.2.1, n, .inl g)) = rz_ws G b0 (rz_pa hp a g) := by
  unfold rz_pa
  rw [he]
  rw [← rz_ws_set G b0 h]
  rfl
theorem rz_pq_cv {G : rz_G} {b0 : Nat} {hp : rz_Hp} {a n i v : Nat} {f : Nat → Option Nat} (h : a < hp.2.1) (he : hp.1 a = .inr (.inl (n, f))) : (rz_ws G b0 hp).set a (b0 + a, .inl (G.2.2.2.1, n, .inr (.inr (.inr (.inr (va_up (fun j => (f j).map (fun a => b0 + a)) i (some (b0 + v)))))))) = rz_ws G b0 (rz_pq hp a (va_up f i (some v))) := by
  have e : va_up (fun j => (f j).map (fun a => b0 + a)) i (some (b0 + v)) = fun j => ((va_up f i (some v)) j).map (fun a => b0 + a) := by
    funext j
    unfold va_up
    split <;> rfl
  rw [e]
  unfold rz_pq
  rw [he]
  rw [← rz_ws_set G b0 h]
  rfl
theorem rz_size {G : rz_G} {b0 : Nat} {hp : rz_Hp} {H H0 : Heap} {locs : List Loc} (hP : rz_wd G b0 hp H) (hS : va_S (rz_A b0) H0 H locs) (hb0 : b0 ≤ H0.size) (hsz : H.size ≤ b0 + hp.2.1) : H.size = b0 + hp.2.1 := by
  have h1 : b0 + hp.2.1 ≤ H.size := by
    by_cases h0 : hp.2.1 = 0
    · rw [h0]; exact Nat.le_trans hb0 hS.1
    · have hlt : hp.2.1 - 1 < hp.2.1 := by omega
      have := (hP.1 _ _ (rz_ws_get G b0 hlt)).lt
      dsimp only at this
      omega
  omega
theorem rz_fresh {G : rz_G} {b0 q : Nat} {hp : rz_Hp} {H1 : Heap} {e : va_E} (gP : va_P G.1 rz_cls (rz_ws G b0 hp ++ [(q, e)]) H1) (gD : va_D (rz_A b0) (rz_ws G b0 hp ++ [(q, e)])) (hsz : H1.size ≤ b0 + hp.2.1 + 1) : q = b0 + hp.2.1 := by
  have hlen : (rz_ws G b0 hp).length = hp.2.1 := by unfold rz_ws; simp
  have hn : (rz_ws G b0 hp ++ [(q, e)])[hp.2.1]? = some (q, e) := by
    rw [List.getElem?_append_right (by omega), hlen, Nat.sub_self]; rfl
  have h1 : b0 ≤ q := gD.2 _ _ hn
  have h2 : q < H1.size := (gP _ _ hn).lt
  by_cases h3 : q < b0 + hp.2.1
  · have hk : q - b0 < hp.2.1 := by omega
    have hk2 : (rz_ws G b0 hp ++ [(q, e)])[q - b0]? = some (b0 + (q - b0), rz_cv G b0 (hp.1 (q - b0))) := by
      rw [List.getElem?_append_left (by omega)]; exact rz_ws_get G b0 hk
    have := gD.1 _ _ _ _ hk2 hn (by dsimp only; omega)
    omega
  · omega
theorem rz_nof : ∀ c, c < 9 → ∀ j, j < rz_N c → (match rz_ty c j with | .float => false | _ => true) = true := by decide +kernel
theorem rz_same_obj {G : rz_G} {cA : ClassId} {s : State} (gK : va_K G.1 rz_cls (rz_tys G ++ [(cA, .object "RisingPiles$State")]) s) : cA = G.2.2.2.1 := by
  obtain ⟨k1, c1, -, -, -, e1⟩ := (gK.2 4 (cA, .object "RisingPiles$State") rfl).2
  obtain ⟨k2, c2, -, -, -, e2⟩ := (gK.2 2 (G.2.2.2.1, .object "RisingPiles$State") rfl).2
  exact Option.some.inj (e1.symm.trans e2)
set_option maxHeartbeats 40000000 in
set_option maxRecDepth 100000 in
theorem rz_all : ∀ n, rz_ok n := by
  intro n
  induction n with
  | zero => intro d k pc lv st hp r hp' h; exact h.elim
  | succ n ih =>
    intro d k pc lv st hp r hp' h hk p l e R s m args below meth c H locs cells slots ls G b0 mc ms fx hE hXs hW hS hb0 hN h1 h2 hM hmc hms hd hlo hl
    obtain ⟨hP, hC⟩ := id hW
    have hD : va_D (rz_A b0) (rz_ws G b0 hp) := rz_ws_D G b0 hp
    have hA : ∀ q : Nat, s.heap.size ≤ q → rz_A b0 q := fun q h => Nat.le_trans hb0 h
    have hmono : hp.2.1 ≤ hp'.2.1 ∧ hp.2.2 ≤ hp'.2.2 := by
      obtain ⟨r9, h9, ⟨-, e9⟩, g1, g2, -⟩ := rz_go_one _ _ _ _ _ _ _ _ h
      rw [← e9]; exact ⟨g1, g2⟩
    unfold rz_go at h
    have hh : ∃ i len, decode (rz_B k) pc = .ok (i, len) ∧ rz_stp k (0 < d) len pc lv st hp (fun pc' lv' st' hp2 => rz_go n d k pc' lv' st' hp2 (fun r1 h1 => r1 = r ∧ h1 = hp')) (fun k2 as h post => 0 < d ∧ k2 < 127 ∧ rz_go n (d - 1) k2 0 (rz_en k2 as) [] h post) (fun r1 h1 => r1 = r ∧ h1 = hp') i := by
      split at h
      · next i len e9 => exact ⟨i, len, e9, h⟩
      · exact h.elim
    clear h
    obtain ⟨i, len, hdec, h⟩ := hh
    have nx : ∀ {pc' : Nat} {lv' : List (Option Value)} {st' : List Value} {hp2 : rz_Hp} {H2 : Heap} {locs2 : List Loc} {cells2 slots2 : Nat} {ls2 : Array Slot}, rz_go n d k pc' lv' st' hp2 (fun r1 h1 => r1 = r ∧ h1 = hp') → rz_wd G b0 hp2 H2 → va_S (rz_A b0) s.heap H2 locs2 → s.heap.size + cells2 = b0 + hp2.2.1 → cells2 + hp'.2.1 = mc + hp2.2.1 → slots2 + hp'.2.2 = ms + hp2.2.2 → rz_lo G b0 ls2 k lv' → W p l e R s m args below meth c H2 locs2 cells2 slots2 (MQ below (rz_Q G b0 r hp') args s mc ms (rz_A b0)) (F0 m pc' ls2 (st'.map (rz_mv G b0))) :=
      fun g1 g2 g3 g4 g5 g6 g7 => ih d k _ _ _ _ r hp' g1 hk fx hE hXs g2 g3 hb0 g4 g5 g6 hM hmc hms hd hlo g7
    obtain ⟨hx, hb, hml, hown, hts, hlocks, hret, hname⟩ := id fx
    have hK := hE.1
    have hKk := (rz_okY k hk).2.1
    cases i with
    | aload_n j =>
      obtain ⟨rfl, h⟩ := h
      obtain ⟨v, hv, hi, h, -⟩ := rz_lda_w h
      have hg := rz_ls_get hl.1 hi
      rcases hv with rfl | ⟨a, rfl⟩ | ⟨a, rfl⟩
      · exact lv_aload_nN hx hb hdec rfl hg (nx h hW hS hN h1 h2 hl)
      · exact lv_aload_n hx hb hdec rfl hg (nx h hW hS hN h1 h2 hl)
      · exact lv_aload_n hx hb hdec rfl hg (nx h hW hS hN h1 h2 hl)
    | aload j =>
      obtain ⟨rfl, h⟩ := h
      obtain ⟨v, hv, hi, h, -⟩ := rz_lda_w h
      have hg := rz_ls_get hl.1 hi
      rcases hv with rfl | ⟨a, rfl⟩ | ⟨a, rfl⟩
      · exact lv_aloadN hx hb hdec hg (nx h hW hS hN h1 h2 hl)
      · exact lv_aload hx hb hdec hg (nx h hW hS hN h1 h2 hl)
      · exact lv_aload hx hb hdec hg (nx h hW hS hN h1 h2 hl)
    | astore j =>
      obtain ⟨rfl, hnl, h⟩ := h
      obtain ⟨v, s2, hv, rfl, hi, h, -⟩ := rz_sta_w h
      rcases hv with rfl | ⟨a, rfl⟩
      · exact lv_astoreN hx hb hdec hl.1.2.2 (hl.1.1 ▸ hi) rfl (fun ls' h' => nx h hW hS hN h1 h2 (rz_lo_set hl rfl hnl h'))
      · exact lv_astore hx hb hdec hl.1.2.2 (hl.1.1 ▸ hi) rfl (fun ls' h' => nx h hW hS hN h1 h2 (rz_lo_set hl rfl hnl h'))
    | lload_n j =>
      obtain ⟨rfl, h⟩ := h
      obtain ⟨v, hi, h, -⟩ := rz_ldl_w h
      exact lv_lload_n hx hb hdec rfl (rz_ls_get hl.1 hi) (nx h hW hS hN h1 h2 hl)
    | lstore_n j =>
      obtain ⟨rfl, h9, h⟩ := h
      obtain ⟨v, s2, rfl, hi, h, -⟩ := rz_stl_w h
      exact lv_lstore_n hx hb hdec rfl hl.1.2.2 (hl.1.1 ▸ hi.1) rfl (fun ls' h' => nx h hW hS hN h1 h2 ⟨rz_ls_set2 hl.1 hi.1 hi.2 h', fun q => absurd h9 q⟩)
    | ldc2_w index =>
      obtain ⟨rfl, h⟩ := h
      split at h
      · next v ev => exact lv_ldc2 hx hb hown (hts _ (rz_constsL (rz_lk ev))) hdec (nx h hW hS hN h1 h2 hl)
      · exact h.elim
    | lconst n9 =>
      obtain ⟨rfl, h⟩ := h
      exact lv_lconst hx hb hdec rfl (nx h hW hS hN h1 h2 hl)
    | i2l =>
      obtain ⟨rfl, h⟩ := h
      obtain ⟨x, s2, rfl, h, -⟩ := rz_i1_w h
      exact lv_i2l hx hb hdec rfl (nx h hW hS hN h1 h2 hl)
    | l2i =>
      obtain ⟨rfl, h⟩ := h
      obtain ⟨x, s2, rfl, h, -⟩ := rz_l1_w h
      exact lv_l2i hx hb hdec rfl (nx h hW hS hN h1 h2 hl)
    | lmul =>
      obtain ⟨rfl, h⟩ := h
      obtain ⟨x, y, s2, rfl, h, -⟩ := rz_l2_w h
      exact lv_lmul hx hb hdec (nx h hW hS hN h1 h2 hl)
    | ladd =>
      obtain ⟨rfl, h⟩ := h
      obtain ⟨x, y, s2, rfl, h, -⟩ := rz_l2_w h
      exact lv_ladd hx hb hdec (nx h hW hS hN h1 h2 hl)
    | land =>
      obtain ⟨rfl, h⟩ := h
      obtain ⟨x, y, s2, rfl, h, -⟩ := rz_l2_w h
      exact lv_land hx hb hdec (nx h hW hS hN h1 h2 hl)
    | lcmp =>
      obtain ⟨rfl, h⟩ := h
      obtain ⟨x, y, s2, rfl, h, -⟩ := rz_l2_w h
      exact W.lcmp hx hb hdec (nx h hW hS hN h1 h2 hl)
    | lshr =>
      obtain ⟨rfl, h⟩ := h
      obtain ⟨x, y, s2, rfl, h, -⟩ := rz_li_w h
      exact lv_lshr hx hb hdec rfl (nx h hW hS hN h1 h2 hl)
    | irem =>
      obtain ⟨rfl, h⟩ := h
      obtain ⟨x, y, s2, rfl, ⟨h0, h⟩, -⟩ := rz_i2_w h
      exact lv_irem hx hb hdec h0 (nx h hW hS hN h1 h2 hl)
    | laload =>
      obtain ⟨rfl, h⟩ := h
      unfold rz_lald at h
      split at h
      · next i a s2 =>
        obtain ⟨v, h0, hv, h⟩ := h
        obtain ⟨hla, fs, he, hj⟩ := rz_fv_of hv
        have hget := rz_ws_get G b0 hla
        rw [he, rz_cv_long] at hget
        have hjl := (List.getElem?_eq_some_iff.mp hj).1
        have e9 : rz_lf fs i.toNatClampNeg = v := by unfold rz_lf; rw [hj]
        refine va_lald hx hb hK hP a 3 (cA := G.2.2.2.2.1) (n := fs.length) (f := rz_lf fs) hget rfl (fun q => by rcases q with q | q; exact h0 q; omega) hdec ?_
        rw [e9]
        exact nx h hW hS hN h1 h2 hl
      · exact h.elim
    | lastore =>
      obtain ⟨rfl, h⟩ := h
      unfold rz_last at h
      split at h
      · next x i a s2 =>
        obtain ⟨h0, ⟨w, hv⟩, h⟩ := h
        obtain ⟨hla, fs, he, hj⟩ := rz_fv_of hv
        have hget := rz_ws_get G b0 hla
        rw [he, rz_cv_long] at hget
        have hjl := (List.getElem?_eq_some_iff.mp hj).1
        refine va_last hx hb hK hP hD hS a 3 (cA := G.2.2.2.2.1) (n := fs.length) (f := rz_lf fs) hget rfl (fun q => by rcases q with q | q; exact h0 q; omega) hdec (fun H1 locs1 gP gD gS => ?_)
        have e9 := rz_pl_cv (G := G) (b0 := b0) (x := x) hla he hjl
        exact nx h ⟨by rw [← e9]; exact gP, rz_sp_set hC hla (by omega)⟩ gS hN h1 h2 hl
      · exact h.elim
    | lreturn =>
      obtain ⟨rfl, h⟩ := h
      unfold rz_lret at h
      split at h
      · next v =>
        obtain ⟨er, rfl, rfl⟩ := h
        have e1 : cells = mc := by omega
        have e2 : slots = ms := by omega
        subst e1; subst e2
        exact W.lret (v := v) hx hb (hret.trans er) (fun t ht hWm => ⟨⟨rfl, by rw [ht]; exact hW⟩, hS.F ht⟩) hS.2.2 hdec hlocks
      · exact h.elim
    | iload_n j =>
      obtain ⟨rfl, h⟩ := h
      obtain ⟨v, hi, h, -⟩ := rz_ldi_w h
      exact lv_iload_n hx hb hdec rfl (rz_ls_get hl.1 hi) (nx h hW hS hN h1 h2 hl)
    | iload j =>
      obtain ⟨rfl, h⟩ := h
      obtain ⟨v, hi, h, -⟩ := rz_ldi_w h
      exact lv_iload hx hb hdec (rz_ls_get hl.1 hi) (nx h hW hS hN h1 h2 hl)
    | astore_n j =>
      obtain ⟨rfl, hnl, h⟩ := h
      obtain ⟨v, s2, hv, rfl, hi, h, -⟩ := rz_sta_w h
      rcases hv with rfl | ⟨a, rfl⟩
      · exact lv_astore_nN hx hb hdec rfl hl.1.2.2 (hl.1.1 ▸ hi) rfl (fun ls' h' => nx h hW hS hN h1 h2 (rz_lo_set hl rfl hnl h'))
      · exact lv_astore_n hx hb hdec rfl hl.1.2.2 (hl.1.1 ▸ hi) rfl (fun ls' h' => nx h hW hS hN h1 h2 (rz_lo_set hl rfl hnl h'))
    | istore_n j =>
      obtain ⟨rfl, hnl, h⟩ := h
      obtain ⟨v, s2, rfl, hi, h, -⟩ := rz_sti_w h
      exact lv_istore_n hx hb hdec rfl hl.1.2.2 (hl.1.1 ▸ hi) rfl (fun ls' h' => nx h hW hS hN h1 h2 (rz_lo_set hl rfl hnl h'))
    | istore j =>
      obtain ⟨rfl, hnl, h⟩ := h
      obtain ⟨v, s2, rfl, hi, h, -⟩ := rz_sti_w h
      exact lv_istore hx hb hdec hl.1.2.2 (hl.1.1 ▸ hi) rfl (fun ls' h' => nx h hW hS hN h1 h2 (rz_lo_set hl rfl hnl h'))
    | iinc j c9 =>
      obtain ⟨rfl, h⟩ := h
      split at h
      · next x ex =>
        have hg := rz_ls_get (i := j) hl.1 ex
        obtain ⟨k9, hk9⟩ := List.getElem?_of_mem (rz_as_iff.mpr (show (lv.map (Option.map (rz_mv G b0)))[(j, Value.int x).1]? = some (some (j, Value.int x).2) by rw [List.getElem?_map, ex]; rfl))
        exact lv_iinc (v := x + Int32.ofInt c9) hx hb hdec hl.1.2.2 hk9 rfl (hl.1.1 ▸ (List.getElem?_eq_some_iff.mp ex).1) rfl (fun ls' h' => nx h hW hS hN h1 h2 (rz_lo_set hl rfl (Or.inr (rz_nl_of hl.1 ex)) h'))
      · exact h.elim
    | iconst n9 =>
      obtain ⟨rfl, h⟩ := h
      exact lv_iconst hx hb hdec rfl (nx h hW hS hN h1 h2 hl)
    | bipush n9 =>
      obtain ⟨rfl, h⟩ := h
      exact lv_bipush hx hb hdec rfl (nx h hW hS hN h1 h2 hl)
    | sipush n9 =>
      obtain ⟨rfl, h⟩ := h
      exact lv_sipush hx hb hdec rfl (nx h hW hS hN h1 h2 hl)
    | aconst_null =>
      obtain ⟨rfl, h⟩ := h
      exact lv_null hx hb hdec (nx h hW hS hN h1 h2 hl)
    | ldc index =>
      obtain ⟨rfl, h⟩ := h
      split at h
      · next v ev => exact lv_ldc hx hb hown (hts _ (rz_consts (rz_lk ev))) hdec (nx h hW hS hN h1 h2 hl)
      · exact h.elim
    | iadd =>
      obtain ⟨rfl, h⟩ := h
      obtain ⟨x, y, s2, rfl, h, -⟩ := rz_i2_w h
      exact lv_iadd hx hb hdec (nx h hW hS hN h1 h2 hl)
    | isub =>
      obtain ⟨rfl, h⟩ := h
      obtain ⟨x, y, s2, rfl, h, -⟩ := rz_i2_w h
      exact lv_isub hx hb hdec (nx h hW hS hN h1 h2 hl)
    | imul =>
      obtain ⟨rfl, h⟩ := h
      obtain ⟨x, y, s2, rfl, h, -⟩ := rz_i2_w h
      exact lv_imul hx hb hdec (nx h hW hS hN h1 h2 hl)
    | iand =>
      obtain ⟨rfl, h⟩ := h
      obtain ⟨x, y, s2, rfl, h, -⟩ := rz_i2_w h
      exact lv_iand hx hb hdec (nx h hW hS hN h1 h2 hl)
    | ixor =>
      obtain ⟨rfl, h⟩ := h
      obtain ⟨x, y, s2, rfl, h, -⟩ := rz_i2_w h
      exact lv_ixor hx hb hdec (nx h hW hS hN h1 h2 hl)
    | ishr =>
      obtain ⟨rfl, h⟩ := h
      obtain ⟨x, y, s2, rfl, h, -⟩ := rz_i2_w h
      exact lv_ishr hx hb hdec (nx h hW hS hN h1 h2 hl)
    | idiv =>
      obtain ⟨rfl, h⟩ := h
      obtain ⟨x, y, s2, rfl, ⟨h0, h⟩, -⟩ := rz_i2_w h
      exact lv_idiv hx hb hdec h0 (nx h hW hS hN h1 h2 hl)
    | i2c =>
      obtain ⟨rfl, h⟩ := h
      obtain ⟨x, s2, rfl, h, -⟩ := rz_i1_w h
      exact lv_i2c hx hb hdec rfl (nx h hW hS hN h1 h2 hl)
    | dup =>
      obtain ⟨rfl, h⟩ := h
      split at h
      · exact lv_dup hx hb hdec (rz_cat_mv h.1) (nx h.2 hW hS hN h1 h2 hl)
      · exact h.elim
    | dup2 =>
      obtain ⟨rfl, h⟩ := h
      split at h
      · exact lv_dup2_11 hx hb hdec (rz_cat_mv h.1) (rz_cat_mv h.2.1) (nx h.2.2 hW hS hN h1 h2 hl)
      · exact h.elim
    | pop =>
      obtain ⟨rfl, h⟩ := h
      split at h
      · exact lv_pop hx hb hdec (rz_cat_mv h.1) (nx h.2 hW hS hN h1 h2 hl)
      · exact h.elim
    | getfield index =>
      obtain ⟨rfl, h⟩ := h
      obtain ⟨a, s2, rfl, h, -⟩ := rz_r1_w h
      split at h
      · next ci j ef =>
        obtain ⟨v, hv, h⟩ := h
        obtain ⟨hla, fs, he, hj⟩ := rz_fv_of hv
        obtain ⟨lk, hci, hj2, hdecl⟩ := rz_link (rz_lk ef)
        have hget := rz_ws_obj G b0 hla he hci
        exact va_get hx hb hts (rz_lay ci hci) hown hK hP a hget (rz_inid hci).2.2 j hj2 (hts _ lk) (ref := rz_R ci) (fun _ h9 => by rw [← hdecl]; exact h9) (v := rz_mv G b0 v) (by rw [List.getElem?_map, hj]; rfl) hdec (nx h hW hS hN h1 h2 hl)
      · exact h.elim
    | putfield index =>
      obtain ⟨rfl, h⟩ := h
      unfold rz_putf at h
      split at h
      · next v a s2 =>
        split at h
        · next ci j ef =>
          obtain ⟨⟨w, hw⟩, hfit, hfin, h⟩ := h
          obtain ⟨hla, fs, he, hj⟩ := rz_fv_of hw
          obtain ⟨lk, hci, hj2, hdecl⟩ := rz_link (rz_lk ef)
          have hget := rz_ws_obj G b0 hla he hci
          have hjl : j < (fs.map (rz_mv G b0)).length := by rw [List.length_map]; exact (List.getElem?_eq_some_iff.mp hj).1
          obtain ⟨hn1, hn2⟩ := rz_fits (b0 := b0) hfit
          by_cases hf9 : (rz_T ci j).2.2.2 = true
          · obtain ⟨hin2, hcik⟩ := hfin hf9
            refine va_putF hx hb hts (rz_lay ci hci) (rz_ty ci) (rz_tok ci hci) (rz_nm ci hci) hown hK hP hD hS a hget (rz_inid hci).2.2 j hj2 (hts _ lk) (ref := rz_R ci) (fun _ h9 => by rw [← hdecl]; exact h9) hf9 (by rw [hname hin2]; exact hin2) (by rw [hdecl, hcik]) (rz_tok ci hci j hj2) hn1 hn2 hjl hdec (fun H1 locs1 gP gD gS => ?_)
            rw [rz_pf_cv hla he hci] at gP
            exact nx h ⟨gP, rz_sp_set hC hla (by omega)⟩ gS hN h1 h2 hl
          · refine va_put hx hb hts (rz_lay ci hci) (rz_ty ci) (rz_tok ci hci) (rz_nm ci hci) hown hK hP hD hS a hget (rz_inid hci).2.2 j hj2 (hts _ lk) (ref := rz_R ci) (fun _ h9 => by rw [← hdecl]; exact h9) (by simpa using hf9) (rz_tok ci hci j hj2) hn1 hn2 hjl hdec (fun H1 locs1 gP gD gS => ?_)
            rw [rz_pf_cv hla he hci] at gP
            exact nx h ⟨gP, rz_sp_set hC hla (by omega)⟩ gS hN h1 h2 hl
        · exact h.elim
      · exact h.elim
    | iaload =>
      obtain ⟨rfl, h⟩ := h
      unfold rz_ald at h
      split at h
      · next i a s2 =>
        obtain ⟨n9, f, hv, hi, h⟩ := h
        obtain ⟨hla, he⟩ := rz_av_of hv
        have hget := rz_ws_get G b0 hla
        rw [he] at hget
        exact va_iald hx hb hK hP a 0 (cA := G.2.1) (n := n9) (f := f) hget rfl hi hdec (nx h hW hS hN h1 h2 hl)
      · next i a s2 =>
        obtain ⟨-, n9, f, hv, hi, h⟩ := h
        obtain ⟨rfl, rfl⟩ := rz_scr_of hC hv
        have hlt : G.2.2.2.2.2.1 < s.heap.size := by
          obtain ⟨scr, q1, q2⟩ := hXs.1
          exact (Array.getElem?_eq_some_iff.mp q1).1
        exact va_sld (A := rz_A b0) hx hb hXs.1 hlt (by have := hXs.2; show ¬ b0 ≤ _; omega) hS hi hdec (nx h hW hS hN h1 h2 hl)
      · exact h.elim
    | caload =>
      obtain ⟨rfl, h⟩ := h
      unfold rz_ald at h
      split at h
      · next i a s2 =>
        obtain ⟨n9, f, hv, hi, h⟩ := h
        obtain ⟨hla, he⟩ := rz_av_of hv
        have hget := rz_ws_get G b0 hla
        rw [he] at hget
        exact va_cald hx hb hK hP a 1 (cA := G.2.2.1) (n := n9) (f := f) hget rfl hi hdec (nx h hW hS hN h1 h2 hl)
      · exact absurd h.1 (by decide)
      · exact h.elim
    | iastore =>
      obtain ⟨rfl, h⟩ := h
      unfold rz_ast at h
      split at h
      · next x i a s2 =>
        obtain ⟨n9, f, hv, hi, h⟩ := h
        obtain ⟨hla, he⟩ := rz_av_of hv
        have hget := rz_ws_get G b0 hla
        rw [he] at hget
        refine va_iast hx hb hK hP hD hS a 0 (cA := G.2.1) (n := n9) (f := f) hget rfl hi hdec (fun H1 locs1 gP gD gS => ?_)
        have e9 := rz_pa_cv (G := G) (b0 := b0) (g := upd f i.toNatClampNeg (x)) hla he
        exact nx h ⟨by rw [← e9]; exact gP, rz_sp_set hC hla (by omega)⟩ gS hN h1 h2 hl
      · exact h.elim
    | castore =>
      obtain ⟨rfl, h⟩ := h
      unfold rz_ast at h
      split at h
      · next x i a s2 =>
        obtain ⟨n9, f, hv, hi, h⟩ := h
        obtain ⟨hla, he⟩ := rz_av_of hv
        have hget := rz_ws_get G b0 hla
        rw [he] at hget
        refine va_cast hx hb hK hP hD hS a 1 (cA := G.2.2.1) (n := n9) (f := f) hget rfl hi hdec (fun H1 locs1 gP gD gS => ?_)
        have e9 := rz_pa_cv (G := G) (b0 := b0) (g := upd f i.toNatClampNeg (vp_nar .char x)) hla he
        exact nx h ⟨by rw [← e9]; exact gP, rz_sp_set hC hla (by omega)⟩ gS hN h1 h2 hl
      · exact h.elim
    | aaload =>
      obtain ⟨rfl, h⟩ := h
      unfold rz_aald at h
      split at h
      · next i a s2 =>
        obtain ⟨n9, f, hv, hi, h⟩ := h
        obtain ⟨hla, he⟩ := rz_qv_of hv
        have hget := rz_ws_get G b0 hla
        rw [he] at hget
        refine va_aldq hx hb hK hP a 2 (cA := G.2.2.2.1) (n := n9) (f := fun j => (f j).map (fun a => b0 + a)) hget rfl hi hdec ?_
        have e9 : va_rf ((f i.toNatClampNeg).map (fun a => b0 + a)) = rz_mv G b0 (va_rf (f i.toNatClampNeg)) := by cases f i.toNatClampNeg <;> rfl
        rw [e9]
        exact nx h hW hS hN h1 h2 hl
      · exact h.elim
    | aastore =>
      obtain ⟨rfl, h⟩ := h
      unfold rz_aast at h
      split at h
      · next v i a s2 =>
        obtain ⟨n9, f, hv, hi, hc9, h⟩ := h
        obtain ⟨hla, he⟩ := rz_qv_of hv
        obtain ⟨hlv, fs, hev⟩ := rz_co_of hc9
        have hget := rz_ws_get G b0 hla
        rw [he] at hget
        have hgv := rz_ws_obj G b0 hlv hev (by decide)
        refine va_astq hx hb hK hP hD hS a 2 v 6 (cA := G.2.2.2.1) (n := n9) (f := fun j => (f j).map (fun a => b0 + a)) (r := (rz_R 6, rz_T 6, rz_N 6)) hget rfl hgv rfl hi hdec (fun H1 locs1 gP gD gS => ?_)
        have e9 := rz_pq_cv (G := G) (b0 := b0) (i := i.toNatClampNeg) (v := v) hla he
        exact nx h ⟨by rw [← e9]; exact gP, rz_sp_set hC hla (by omega)⟩ gS hN h1 h2 hl
      · exact h.elim
    | arraylength =>
      obtain ⟨rfl, h⟩ := h
      unfold rz_alen at h
      split at h
      · next a s2 =>
        obtain ⟨n9, hn9, h⟩ := h
        obtain ⟨hla, ⟨x, he, hx9⟩ | ⟨x, he, hx9⟩⟩ := rz_ln_of hn9
        · have hget := rz_ws_get G b0 hla
          rw [he] at hget
          by_cases ht : x.1 = 0
          · have hget : (rz_ws G b0 hp)[a]? = some (b0 + a, .inl (G.2.1, x.2.1, .inl x.2.2)) := by rw [hget]; show some (b0 + a, (Sum.inl (if x.1 = 0 then G.2.1 else G.2.2.1, x.2.1, .inl x.2.2) : va_E)) = _; rw [if_pos ht]
            exact va_alen hx hb hK hP a 0 hget (ty := .int) rfl (by show Int32.ofNat x.2.1 = Int32.ofNat n9; rw [hx9]) hdec (nx h hW hS hN h1 h2 hl)
          · have hget : (rz_ws G b0 hp)[a]? = some (b0 + a, .inl (G.2.2.1, x.2.1, .inl x.2.2)) := by rw [hget]; show some (b0 + a, (Sum.inl (if x.1 = 0 then G.2.1 else G.2.2.1, x.2.1, .inl x.2.2) : va_E)) = _; rw [if_neg ht]
            exact va_alen hx hb hK hP a 1 hget (ty := .char) rfl (by show Int32.ofNat x.2.1 = Int32.ofNat n9; rw [hx9]) hdec (nx h hW hS hN h1 h2 hl)
        · have hget := rz_ws_get G b0 hla
          rw [he] at hget
          exact va_alen hx hb hK hP a 2 hget (ty := .object "RisingPiles$State") rfl (by show Int32.ofNat x.1 = Int32.ofNat n9; rw [hx9]) hdec (nx h hW hS hN h1 h2 hl)
      · next a s2 =>
        obtain ⟨n9, f, hv, h⟩ := h
        obtain ⟨rfl, rfl⟩ := rz_scr_of hC hv
        have hlt : G.2.2.2.2.2.1 < s.heap.size := by
          obtain ⟨scr, q1, q2⟩ := hXs.1
          exact (Array.getElem?_eq_some_iff.mp q1).1
        exact va_slen (A := rz_A b0) hx hb hXs.1 hlt (by have := hXs.2; show ¬ b0 ≤ _; omega) hS hdec (nx h hW hS hN h1 h2 hl)
      · exact h.elim
    | new index =>
      obtain ⟨rfl, h⟩ := h
      split at h
      · next ci ec =>
        obtain ⟨lk, hci⟩ := rz_news (rz_lk ec)
        obtain ⟨i1, i2, i3⟩ := rz_inid hci
        obtain ⟨r9, h9, ⟨-, e9⟩, m1, m2, -⟩ := rz_go_one _ _ _ _ _ _ _ _ h
        have m1 : hp.2.1 + 1 ≤ hp'.2.1 := by rw [← e9]; exact m1
        have m2 : hp.2.2 + rz_N ci ≤ hp'.2.2 := by rw [← e9]; exact m2
        refine va_new (ci := ci) (fs := (rz_dv ci).map (rz_mv G b0)) hx hb hts (rz_lay ci hci) (rz_ty ci) (rz_tok ci hci) hown (hts _ lk) (hts _ i2) (hts _ i1) hK hP hD hS hA i3 (fun j hj => ?_) (by omega) (by omega) hdec (fun q H1 gP gD gS => ?_)
        · unfold vp_V rz_dv
          rw [List.getD_eq_getElem?_getD, List.map_map, List.getElem?_map, List.getElem?_range hj]
          show defaultValue (rz_ty ci j) = rz_mv G b0 (defaultValue (rz_ty ci j))
          cases hty : rz_ty ci j <;> first | rfl | (exfalso; have h5 := rz_nof ci hci j hj; rw [hty] at h5; cases h5)
        · refine rz_sized (fun hsz => ?_)
          have hq : q = b0 + hp.2.1 := rz_fresh gP gD (by omega)
          subst hq
          have e8 := rz_ws_push G b0 hp (.inr (.inr (ci, rz_dv ci))) (rz_N ci)
          rw [rz_cv_obj hci] at e8
          exact nx (hp2 := rz_push hp (.inr (.inr (ci, rz_dv ci))) (rz_N ci)) h ⟨by rw [← e8]; exact gP, rz_sp_push hC (by omega)⟩ gS (by show s.heap.size + (cells + 1) = b0 + (hp.2.1 + 1); omega) (by show cells + 1 + hp'.2.1 = mc + (hp.2.1 + 1); omega) (by show slots + rz_N ci + hp'.2.2 = ms + (hp.2.2 + rz_N ci); omega) hl
      · exact h.elim
    | newarray t =>
      obtain ⟨rfl, h⟩ := h
      split at h
      · obtain ⟨x, s2, rfl, ⟨h0, h9, h⟩, -⟩ := rz_i1_w h
        obtain ⟨r9, h8, ⟨-, e9⟩, m1, m2, -⟩ := rz_go_one _ _ _ _ _ _ _ _ h
        have m1 : hp.2.1 + 1 ≤ hp'.2.1 := by rw [← e9]; exact m1
        have m2 : hp.2.2 + x.toNatClampNeg ≤ hp'.2.2 := by rw [← e9]; exact m2
        refine va_newa (atype := .int) (ty := .int) (a0 := (x.toNatClampNeg, .inl (fun _ => 0))) hx hb (hts _ (rz_in rz_w8.1 rfl)) rfl hK hP hD hS hA (fun cA => rfl) h0 rfl (Nat.le_trans (Nat.mul_le_mul_right _ h9) (Nat.le_of_ble_eq_true rfl)) (by omega) (by omega) hdec (fun q cA H1 gK gP gD gS => ?_)
        refine rz_sized (fun hsz => ?_)
        have hq : q = b0 + hp.2.1 := rz_fresh gP gD (by omega)
        subst hq
        have hcA : cA = G.2.1 := Option.some.inj ((gK.2 4 (cA, .int) rfl).2.symm.trans (gK.2 0 (G.2.1, .int) rfl).2)
        subst hcA
        have e8 := rz_ws_push G b0 hp (.inl (0, x.toNatClampNeg, fun _ => 0)) x.toNatClampNeg
        exact nx (hp2 := rz_push hp (.inl (0, x.toNatClampNeg, fun _ => 0)) x.toNatClampNeg) h ⟨by rw [← e8]; exact gP, rz_sp_push hC (by omega)⟩ gS (by show s.heap.size + (cells + 1) = b0 + (hp.2.1 + 1); omega) (by show cells + 1 + hp'.2.1 = mc + (hp.2.1 + 1); omega) (by show slots + x.toNatClampNeg + hp'.2.2 = ms + (hp.2.2 + x.toNatClampNeg); omega) hl
      · obtain ⟨x, s2, rfl, ⟨h0, h9, h⟩, -⟩ := rz_i1_w h
        obtain ⟨r9, h8, ⟨-, e9⟩, m1, m2, -⟩ := rz_go_one _ _ _ _ _ _ _ _ h
        have m1 : hp.2.1 + 1 ≤ hp'.2.1 := by rw [← e9]; exact m1
        have m2 : hp.2.2 + x.toNatClampNeg ≤ hp'.2.2 := by rw [← e9]; exact m2
        refine va_newa (atype := .char) (ty := .char) (a0 := (x.toNatClampNeg, .inl (fun _ => 0))) hx hb (hts _ (rz_in rz_w8.2.1 rfl)) rfl hK hP hD hS hA (fun cA => rfl) h0 rfl (Nat.le_trans (Nat.mul_le_mul_right _ h9) (Nat.le_of_ble_eq_true rfl)) (by omega) (by omega) hdec (fun q cA H1 gK gP gD gS => ?_)
        refine rz_sized (fun hsz => ?_)
        have hq : q = b0 + hp.2.1 := rz_fresh gP gD (by omega)
        subst hq
        have hcA : cA = G.2.2.1 := Option.some.inj ((gK.2 4 (cA, .char) rfl).2.symm.trans (gK.2 1 (G.2.2.1, .char) rfl).2)
        subst hcA
        have e8 := rz_ws_push G b0 hp (.inl (1, x.toNatClampNeg, fun _ => 0)) x.toNatClampNeg
        exact nx (hp2 := rz_push hp (.inl (1, x.toNatClampNeg, fun _ => 0)) x.toNatClampNeg) h ⟨by rw [← e8]; exact gP, rz_sp_push hC (by omega)⟩ gS (by show s.heap.size + (cells + 1) = b0 + (hp.2.1 + 1); omega) (by show cells + 1 + hp'.2.1 = mc + (hp.2.1 + 1); omega) (by show slots + x.toNatClampNeg + hp'.2.2 = ms + (hp.2.2 + x.toNatClampNeg); omega) hl
      · obtain ⟨x, s2, rfl, ⟨h0, h9, h⟩, -⟩ := rz_i1_w h
        obtain ⟨r9, h8, ⟨-, e9⟩, m1, m2, -⟩ := rz_go_one _ _ _ _ _ _ _ _ h
        have m1 : hp.2.1 + 1 ≤ hp'.2.1 := by rw [← e9]; exact m1
        have m2 : hp.2.2 + x.toNatClampNeg ≤ hp'.2.2 := by rw [← e9]; exact m2
        refine va_newa (atype := .long) (ty := .long) (a0 := (x.toNatClampNeg, .inr (.inl (fun _ => 0)))) hx hb (hts _ (rz_in rz_w9 rfl)) rfl hK hP hD hS hA (fun cA => rfl) h0 rfl (Nat.le_trans (Nat.mul_le_mul_right _ h9) (Nat.le_of_ble_eq_true rfl)) (by omega) (by omega) hdec (fun q cA H1 gK gP gD gS => ?_)
        refine rz_sized (fun hsz => ?_)
        have hq : q = b0 + hp.2.1 := rz_fresh gP gD (by omega)
        subst hq
        have hcA : cA = G.2.2.2.2.1 := Option.some.inj ((gK.2 4 (cA, .long) rfl).2.symm.trans (gK.2 3 (G.2.2.2.2.1, .long) rfl).2)
        subst hcA
        have e8 := rz_ws_push G b0 hp (.inr (.inr (10, List.replicate x.toNatClampNeg (.long 0)))) x.toNatClampNeg
        have e7 : rz_lf (List.replicate x.toNatClampNeg (.long 0)) = fun _ => 0 := by
          funext j
          unfold rz_lf
          rw [List.getElem?_replicate]
          split <;> simp_all
        rw [rz_cv_long, List.length_replicate, e7] at e8
        exact nx (hp2 := rz_push hp (.inr (.inr (10, List.replicate x.toNatClampNeg (.long 0)))) x.toNatClampNeg) h ⟨by rw [← e8]; exact gP, rz_sp_push hC (by omega)⟩ gS (by show s.heap.size + (cells + 1) = b0 + (hp.2.1 + 1); omega) (by show cells + 1 + hp'.2.1 = mc + (hp.2.1 + 1); omega) (by show slots + x.toNatClampNeg + hp'.2.2 = ms + (hp.2.2 + x.toNatClampNeg); omega) hl
      · exact h.elim
    | anewarray index =>
      obtain ⟨rfl, ec, h⟩ := h
      obtain ⟨lk, hci⟩ := rz_news (rz_lk ec)
      obtain ⟨x, s2, rfl, ⟨h0, h9, h⟩, -⟩ := rz_i1_w h
      obtain ⟨r9, h8, ⟨-, e9⟩, m1, m2, -⟩ := rz_go_one _ _ _ _ _ _ _ _ h
      have m1 : hp.2.1 + 1 ≤ hp'.2.1 := by rw [← e9]; exact m1
      have m2 : hp.2.2 + x.toNatClampNeg ≤ hp'.2.2 := by rw [← e9]; exact m2
      refine va_newq (C := "RisingPiles$State") hx hb hown (hts _ lk) hE.2.2 hK hP hD hS hA h0 rfl (by omega) (by omega) (by omega) hdec (fun q cA H1 gK gP gD gS => ?_)
      refine rz_sized (fun hsz => ?_)
      have hq : q = b0 + hp.2.1 := rz_fresh gP gD (by omega)
      subst hq
      have hcA : cA = G.2.2.2.1 := rz_same_obj gK
      subst hcA
      have e8 := rz_ws_push G b0 hp (.inr (.inl (x.toNatClampNeg, fun _ => none))) x.toNatClampNeg
      exact nx (hp2 := rz_push hp (.inr (.inl (x.toNatClampNeg, fun _ => none))) x.toNatClampNeg) h ⟨by rw [← e8]; exact gP, rz_sp_push hC (by omega)⟩ gS (by show s.heap.size + (cells + 1) = b0 + (hp.2.1 + 1); omega) (by show cells + 1 + hp'.2.1 = mc + (hp.2.1 + 1); omega) (by show slots + x.toNatClampNeg + hp'.2.2 = ms + (hp.2.2 + x.toNatClampNeg); omega) hl
    | goto off =>
      obtain ⟨rfl, h⟩ := h
      obtain ⟨t, ht, h, -⟩ := rz_to_w h
      exact lv_goto hx hb hdec ht (nx h hW hS hN h1 h2 hl)
    | if_icmp c9 off =>
      obtain ⟨rfl, h⟩ := h
      obtain ⟨t, ht, h, -⟩ := rz_to_w h
      obtain ⟨x, y, s2, rfl, h, -⟩ := rz_i2_w h
      cases c9 with
      | eq => exact lv_icmp_eq hx hb hdec ht (fun hc => by dsimp only at h; rw [if_pos hc] at h; exact nx h hW hS hN h1 h2 hl) (fun hc => by dsimp only at h; rw [if_neg hc] at h; exact nx h hW hS hN h1 h2 hl)
      | ne => exact lv_icmp_ne hx hb hdec ht (fun hc => by dsimp only at h; rw [if_neg hc] at h; exact nx h hW hS hN h1 h2 hl) (fun hc => by dsimp only at h; rw [if_pos hc] at h; exact nx h hW hS hN h1 h2 hl)
      | lt => exact lv_icmp_lt hx hb hdec ht (fun hc => by dsimp only at h; rw [if_pos hc] at h; exact nx h hW hS hN h1 h2 hl) (fun hc => by dsimp only at h; rw [if_neg hc] at h; exact nx h hW hS hN h1 h2 hl)
      | ge => exact lv_icmp_ge hx hb hdec ht (fun hc => by dsimp only at h; rw [if_pos hc] at h; exact nx h hW hS hN h1 h2 hl) (fun hc => by dsimp only at h; rw [if_neg hc] at h; exact nx h hW hS hN h1 h2 hl)
      | gt => exact lv_icmp_gt hx hb hdec ht (fun hc => by dsimp only at h; rw [if_pos hc] at h; exact nx h hW hS hN h1 h2 hl) (fun hc => by dsimp only at h; rw [if_neg hc] at h; exact nx h hW hS hN h1 h2 hl)
      | le => exact lv_icmp_le hx hb hdec ht (fun hc => by dsimp only at h; rw [if_pos hc] at h; exact nx h hW hS hN h1 h2 hl) (fun hc => by dsimp only at h; rw [if_neg hc] at h; exact nx h hW hS hN h1 h2 hl)
    | ifCond c9 off =>
      obtain ⟨rfl, h⟩ := h
      obtain ⟨t, ht, h, -⟩ := rz_to_w h
      obtain ⟨x, s2, rfl, h, -⟩ := rz_i1_w h
      cases c9 with
      | eq => exact lv_if_eq hx hb hdec ht (fun hc => by dsimp only at h; rw [if_pos hc] at h; exact nx h hW hS hN h1 h2 hl) (fun hc => by dsimp only at h; rw [if_neg hc] at h; exact nx h hW hS hN h1 h2 hl)
      | ne => exact lv_if_ne hx hb hdec ht (fun hc => by dsimp only at h; rw [if_neg hc] at h; exact nx h hW hS hN h1 h2 hl) (fun hc => by dsimp only at h; rw [if_pos hc] at h; exact nx h hW hS hN h1 h2 hl)
      | lt => exact lv_if_lt hx hb hdec ht (fun hc => by dsimp only at h; rw [if_pos hc] at h; exact nx h hW hS hN h1 h2 hl) (fun hc => by dsimp only at h; rw [if_neg hc] at h; exact nx h hW hS hN h1 h2 hl)
      | ge => exact lv_if_ge hx hb hdec ht (fun hc => by dsimp only at h; rw [if_pos hc] at h; exact nx h hW hS hN h1 h2 hl) (fun hc => by dsimp only at h; rw [if_neg hc] at h; exact nx h hW hS hN h1 h2 hl)
      | gt => exact lv_if_gt hx hb hdec ht (fun hc => by dsimp only at h; rw [if_pos hc] at h; exact nx h hW hS hN h1 h2 hl) (fun hc => by dsimp only at h; rw [if_neg hc] at h; exact nx h hW hS hN h1 h2 hl)
      | le => exact lv_if_le hx hb hdec ht (fun hc => by dsimp only at h; rw [if_pos hc] at h; exact nx h hW hS hN h1 h2 hl) (fun hc => by dsimp only at h; rw [if_neg hc] at h; exact nx h hW hS hN h1 h2 hl)
    | ifnull off =>
      obtain ⟨rfl, h⟩ := h
      split at h
      · obtain ⟨t, ht, h, -⟩ := rz_to_w h
        exact lv_ifnullN hx hb hdec ht (nx h hW hS hN h1 h2 hl)
      · exact lv_ifnull hx hb hdec (nx h hW hS hN h1 h2 hl)
      · exact h.elim
    | ifnonnull off =>
      obtain ⟨rfl, h⟩ := h
      split at h
      · obtain ⟨t, ht, h, -⟩ := rz_to_w h
        exact lv_ifnonnull hx hb hdec ht (nx h hW hS hN h1 h2 hl)
      · exact lv_ifnonnullN hx hb hdec (nx h hW hS hN h1 h2 hl)
      · exact h.elim
    | tableswitch dflt lo hi offs =>
      obtain ⟨x, s2, rfl, h, -⟩ := rz_i1_w h
      split at h
      · next hc =>
        obtain ⟨t, ht, h, -⟩ := rz_to_w h
        exact lv_tableOut hx hb hdec hc ht (nx h hW hS hN h1 h2 hl)
      · next hc =>
        split at h
        · next off eo =>
          obtain ⟨t, ht, h, -⟩ := rz_to_w h
          exact lv_tableIn hx hb hdec (fun q => hc (Or.inl q)) (fun q => hc (Or.inr q)) eo ht (nx h hW hS hN h1 h2 hl)
        · exact h.elim
    | lookupswitch dflt ps =>
      obtain ⟨hps, h⟩ := h
      obtain ⟨x, s2, rfl, h, -⟩ := rz_i1_w h
      obtain ⟨t, ht, h, -⟩ := rz_to_w h
      exact lv_lookup hx hb hdec hps rfl ht (nx h hW hS hN h1 h2 hl)
    | invokevirtual index =>
      obtain ⟨rfl, h⟩ := h
      unfold rz_inv at h
      split at h
      · next k2 ek =>
        split at h
        · next b rest ed =>
          obtain ⟨hco, hnp, hall, hlen, -, hd0, hk2, h⟩ := h
          obtain ⟨hw, -, hkd, -⟩ := rz_calls (rz_lk ek)
          have hkd : rz_kd k2 = 0 := by rcases hkd with q | q | q; exact q; exact absurd q (by dsimp only; omega); exact absurd q.1 (by dsimp only; omega)
          obtain ⟨hlb, fsb, heb⟩ := rz_co_of hco
          have hgb := rz_ws_obj G b0 hlb heb (rz_okV k2 hk2 hkd)
          have hal := rz_onces hall
          have hargs : ∀ v ∈ (Value.ref b :: (st.take (rz_np k2)).reverse), rz_val v = true := fun v hv => by
            rcases List.mem_cons.mp hv with q | q
            · rw [q]; rfl
            · exact hal v (List.mem_of_mem_take (List.mem_reverse.mp q))
          have hy := rz_okY k2 (Nat.lt_succ_of_lt hk2)
          obtain ⟨r1, hp1, g1, m1, m2, g4⟩ := rz_go_one _ _ _ _ _ _ _ _ h
          obtain ⟨r9, h9, ⟨-, e9⟩, n1, n2, -⟩ := rz_go_one _ _ _ _ _ _ _ _ g1
          have n1 : hp1.2.1 ≤ hp'.2.1 := by rw [← e9]; exact n1
          have n2 : hp1.2.2 ≤ hp'.2.2 := by rw [← e9]; exact n2
          have hMt := rz_met ih (g4 (fun r1' h1' => r1' = r1 ∧ h1' = hp1) ⟨rfl, rfl⟩) hk2 hargs hlen.2.1 hlen.2.2 l G b0 (hp1.2.1 - hp.2.1) (hp1.2.2 - hp.2.2) (by omega) (by omega) (by omega)
          have hst : st.map (rz_mv G b0) = (((st.take (rz_np k2)).reverse).map (rz_mv G b0)).reverse ++ .ref (b0 + b) :: rest.map (rz_mv G b0) := by
            have := rz_split (G := G) (b0 := b0) (n := rz_np k2) (st := st)
            rw [ed] at this
            exact this
          have hrest : rest.all rz_val = true := List.all_eq_true.mpr fun v hv => hal v (List.mem_of_mem_drop (by rw [ed]; exact List.mem_cons_of_mem _ hv))
          have hcb : CallW R s args (rz_R (rz_K k)) (rz_R (rz_K k2)) index (rz_Y k2) (rz_B k2) (rz_ML k2) (rz_RT k2) (rz_wk k2) (rz_rm (d - 1) (hp1.2.1 - hp.2.1) (hp1.2.2 - hp.2.2)) (hp1.2.1 - hp.2.1) (hp1.2.2 - hp.2.2) (rz_np k2) := by
            have hM2 := rz_okM k2 hk2
            refine ⟨rz_cb hts hk2 (hts _ (rz_in hw rfl)) (by omega) (by omega), hts _ (rz_mem (hM2.2.1 (by omega)) rfl), ?_⟩
            have := hts _ (rz_mem (hM2.2.2 hkd) rfl)
            rw [hy.1] at this
            exact this
          refine rz_sized (fun hsz => ?_)
          refine rz_back (mc := hp1.2.1 - hp.2.1) (ms := hp1.2.2 - hp.2.2) (r := r1) (hp' := hp1) (rest := rest.map (rz_mv G b0)) (va_runV (As := ((st.take (rz_np k2)).reverse).map (rz_mv G b0)) ⟨hx, hb, hml, hown, hts⟩ hMt hcb ⟨rz_pc_blind, va_recv hK hP (rz_inid (rz_okV k2 hk2 hkd)).2.2 hgb, fun U hU hWm => ⟨rfl, by rw [hU]; exact rz_size hW hS hb0 (by omega), by rw [hU]; exact hW, rz_env.warm hWm hE, rz_xs.warm hWm hU hS hXs⟩⟩ rfl (by simp; omega) hl.1.2.2.1 hst (lv_room (by rw [rz_cats hrest]; exact hlen.1)) hdec ⟨by omega, by omega⟩) hS (fun H1 locs1 gP gS => ?_)
          have e8 : (r1.map (rz_mv G b0)).toList ++ rest.map (rz_mv G b0) = (r1.toList ++ rest).map (rz_mv G b0) := by cases r1 <;> rfl
          rw [e8]
          exact nx g1 gP gS (by omega) (by omega) (by omega) hl
        · exact h.elim
      · exact h.elim
    | invokespecial index =>
      obtain ⟨rfl, h⟩ := h
      unfold rz_ins at h
      split at h
      · next k2 ek =>
        split at h
        · next b rest ed =>
          obtain ⟨hnp, hall, hlen, -, hd0, hk2, h⟩ := h
          obtain ⟨hw, -, hkd, -⟩ := rz_calls (rz_lk ek)
          have hkd : rz_kd k2 = 2 := by rcases hkd with q | q | q; exact q; exact absurd q (by dsimp only; omega); exact absurd q.1 (by dsimp only; omega)
          have hal := rz_onces hall
          have hargs : ∀ v ∈ (Value.ref b :: (st.take (rz_np k2)).reverse), rz_val v = true := fun v hv => by
            rcases List.mem_cons.mp hv with q | q
            · rw [q]; rfl
            · exact hal v (List.mem_of_mem_take (List.mem_reverse.mp q))
          have hy := rz_okY k2 (Nat.lt_succ_of_lt hk2)
          obtain ⟨r1, hp1, g1, m1, m2, g4⟩ := rz_go_one _ _ _ _ _ _ _ _ h
          obtain ⟨r9, h9, ⟨-, e9⟩, n1, n2, -⟩ := rz_go_one _ _ _ _ _ _ _ _ g1
          have n1 : hp1.2.1 ≤ hp'.2.1 := by rw [← e9]; exact n1
          have n2 : hp1.2.2 ≤ hp'.2.2 := by rw [← e9]; exact n2
          have hMt := rz_met ih (g4 (fun r1' h1' => r1' = r1 ∧ h1' = hp1) ⟨rfl, rfl⟩) hk2 hargs hlen.2.1 hlen.2.2 l G b0 (hp1.2.1 - hp.2.1) (hp1.2.2 - hp.2.2) (by omega) (by omega) (by omega)
          have hst : st.map (rz_mv G b0) = (((st.take (rz_np k2)).reverse).map (rz_mv G b0)).reverse ++ .ref (b0 + b) :: rest.map (rz_mv G b0) := by
            have := rz_split (G := G) (b0 := b0) (n := rz_np k2) (st := st)
            rw [ed] at this
            exact this
          have hrest : rest.all rz_val = true := List.all_eq_true.mpr fun v hv => hal v (List.mem_of_mem_drop (by rw [ed]; exact List.mem_cons_of_mem _ hv))
          have hini := hy.2.2.2.2.2.2.1 hkd
          have hcb : CallB R s args (rz_R (rz_K k)) index (rz_Y k2) (rz_B k2) (rz_ML k2) none (rz_wk k2) (rz_rm (d - 1) (hp1.2.1 - hp.2.1) (hp1.2.2 - hp.2.2)) (hp1.2.1 - hp.2.1) (hp1.2.2 - hp.2.2) (rz_np k2) ∧ (rz_Y k2).name = "<init>" ∧ (Cond.instanceMethod (rz_Y k2)).before args s = true := by
            have hM2 := rz_okM k2 hk2
            have q1 := rz_cb (R := R) (d := d - 1) (mc := hp1.2.1 - hp.2.1) (ms := hp1.2.2 - hp.2.2) hts hk2 (hts _ (rz_in hw rfl)) (by omega) (by omega)
            rw [hini.2] at q1
            exact ⟨q1, hini.1, hts _ (rz_mem (hM2.2.1 (by omega)) rfl)⟩
          refine rz_sized (fun hsz => ?_)
          refine rz_back (mc := hp1.2.1 - hp.2.1) (ms := hp1.2.2 - hp.2.2) (r := r1) (hp' := hp1) (rest := rest.map (rz_mv G b0)) (va_runI (As := ((st.take (rz_np k2)).reverse).map (rz_mv G b0)) ⟨hx, hb, hml, hown, hts⟩ hMt hcb ⟨rz_pc_blind, fun U hU hWm => ⟨rfl, by rw [hU]; exact rz_size hW hS hb0 (by omega), by rw [hU]; exact hW, rz_env.warm hWm hE, rz_xs.warm hWm hU hS hXs⟩⟩ rfl (by simp; omega) hl.1.2.2.1 hst (lv_room (by rw [rz_cats hrest]; exact hlen.1)) hdec ⟨by omega, by omega⟩) hS (fun H1 locs1 gP gS => ?_)
          have e8 : (r1.map (rz_mv G b0)).toList ++ rest.map (rz_mv G b0) = (r1.toList ++ rest).map (rz_mv G b0) := by cases r1 <;> rfl
          rw [e8]
          exact nx g1 gP gS (by omega) (by omega) (by omega) hl
        · exact h.elim
      · next k2 ek =>
        split at h
        · next b rest =>
          obtain ⟨hrest, hlen, hd0, h⟩ := h
          obtain ⟨hw, -, -, -⟩ := rz_calls (rz_lk ek)
          refine W.objInit hx hb hown (hts _ (rz_in hw rfl)) (hts _ (rz_in rz_w7.1 rfl)) (hts _ (rz_in rz_w7.2 rfl)) rfl (by rw [hml]; exact hl.1.2.2.1) rfl hdec (by omega) ?_ ?_
          · show 2 * 0 + ((rest.map (rz_mv G b0)).map fun v => v.category).sum + 12 ≤ R.locals
            rw [rz_cats hrest]
            omega
          · exact W.eq rfl (nx h hW hS hN h1 h2 hl)
        · exact h.elim
      · exact h.elim
    | invokestatic index =>
      obtain ⟨rfl, h⟩ := h
      unfold rz_inS at h
      split at h
      · next k2 ek =>
        obtain ⟨hnp, hall, hlen, -, hd0, hk2, h⟩ := h
        obtain ⟨hw, -, hkd, -⟩ := rz_calls (rz_lk ek)
        have hkd : rz_kd k2 = 1 := by rcases hkd with q | q | q; exact q; exact absurd q (by dsimp only; omega); exact q.2
        have hal := rz_onces hall
        have hargs : ∀ v ∈ (st.take (rz_np k2)).reverse, rz_val v = true := fun v hv => hal v (List.mem_of_mem_take (List.mem_reverse.mp hv))
        have hy := rz_okY k2 (Nat.lt_succ_of_lt hk2)
        obtain ⟨r1, hp1, g1, m1, m2, g4⟩ := rz_go_one _ _ _ _ _ _ _ _ h
        obtain ⟨r9, h9, ⟨-, e9⟩, n1, n2, -⟩ := rz_go_one _ _ _ _ _ _ _ _ g1
        have n1 : hp1.2.1 ≤ hp'.2.1 := by rw [← e9]; exact n1
        have n2 : hp1.2.2 ≤ hp'.2.2 := by rw [← e9]; exact n2
        have hMt := rz_met ih (g4 (fun r1' h1' => r1' = r1 ∧ h1' = hp1) ⟨rfl, rfl⟩) hk2 hargs hlen.2.1 hlen.2.2 l G b0 (hp1.2.1 - hp.2.1) (hp1.2.2 - hp.2.2) (by omega) (by omega) (by omega)
        have hst : st.map (rz_mv G b0) = (((st.take (rz_np k2)).reverse).map (rz_mv G b0)).reverse ++ (st.drop (rz_np k2)).map (rz_mv G b0) := rz_split
        have hrest : (st.drop (rz_np k2)).all rz_val = true := List.all_eq_true.mpr fun v hv => hal v (List.mem_of_mem_drop hv)
        have hst1 : (Cond.static (rz_Y k2)).before args s = true := hts _ (rz_mem ((rz_okM k2 hk2).1 hkd) rfl)
        refine rz_sized (fun hsz => ?_)
        refine rz_back (mc := hp1.2.1 - hp.2.1) (ms := hp1.2.2 - hp.2.2) (r := r1) (hp' := hp1) (rest := (st.drop (rz_np k2)).map (rz_mv G b0)) (va_runS (As := ((st.take (rz_np k2)).reverse).map (rz_mv G b0)) ⟨hx, hb, hml, hown, hts⟩ hMt ⟨rz_cb hts hk2 (hts _ (rz_in hw rfl)) (by omega) (by omega), hst1⟩ ⟨rz_pc_blind, fun U hU hWm => ⟨rfl, by rw [hU]; exact rz_size hW hS hb0 (by omega), by rw [hU]; exact hW, rz_env.warm hWm hE, rz_xs.warm hWm hU hS hXs⟩⟩ rfl (by simp; omega) hl.1.2.2.1 hst (lv_room (by rw [rz_cats hrest]; exact hlen.1)) hdec ⟨by omega, by omega⟩) hS (fun H1 locs1 gP gS => ?_)
        have e8 : (r1.map (rz_mv G b0)).toList ++ (st.drop (rz_np k2)).map (rz_mv G b0) = (r1.toList ++ st.drop (rz_np k2)).map (rz_mv G b0) := by cases r1 <;> simp
        rw [e8]
        exact nx g1 gP gS (by omega) (by omega) (by omega) hl
      · next k2 ek =>
        obtain ⟨hnp, hall, hlen, -, hd0, hk2, h⟩ := h
        obtain ⟨hw, -, hkd, -⟩ := rz_calls (rz_lk ek)
        have hkd : rz_kd k2 = 1 := by rcases hkd with q | q | q; exact absurd q (by dsimp only; exact fun q9 => rz_kd3 k2 hk2 q9); exact absurd q (by dsimp only; omega); exact q.2
        have hal := rz_onces hall
        have hargs : ∀ v ∈ (st.take (rz_np k2)).reverse, rz_val v = true := fun v hv => hal v (List.mem_of_mem_take (List.mem_reverse.mp hv))
        have hy := rz_okY k2 (Nat.lt_succ_of_lt hk2)
        obtain ⟨r1, hp1, g1, m1, m2, g4⟩ := rz_go_one _ _ _ _ _ _ _ _ h
        obtain ⟨r9, h9, ⟨-, e9⟩, n1, n2, -⟩ := rz_go_one _ _ _ _ _ _ _ _ g1
        have n1 : hp1.2.1 ≤ hp'.2.1 := by rw [← e9]; exact n1
        have n2 : hp1.2.2 ≤ hp'.2.2 := by rw [← e9]; exact n2
        have hMt := rz_met ih (g4 (fun r1' h1' => r1' = r1 ∧ h1' = hp1) ⟨rfl, rfl⟩) hk2 hargs hlen.2.1 hlen.2.2 l G b0 (hp1.2.1 - hp.2.1) (hp1.2.2 - hp.2.2) (by omega) (by omega) (by omega)
        have hst : st.map (rz_mv G b0) = (((st.take (rz_np k2)).reverse).map (rz_mv G b0)).reverse ++ (st.drop (rz_np k2)).map (rz_mv G b0) := rz_split
        have hrest : (st.drop (rz_np k2)).all rz_val = true := List.all_eq_true.mpr fun v hv => hal v (List.mem_of_mem_drop hv)
        have hst1 : (Cond.static (rz_Y k2)).before args s = true := hts _ (rz_mem ((rz_okM k2 hk2).1 hkd) rfl)
        refine rz_sized (fun hsz => ?_)
        refine rz_back (mc := hp1.2.1 - hp.2.1) (ms := hp1.2.2 - hp.2.2) (r := r1) (hp' := hp1) (rest := (st.drop (rz_np k2)).map (rz_mv G b0)) (va_runSN (As := ((st.take (rz_np k2)).reverse).map (rz_mv G b0)) ⟨hx, hb, hml, hown, hts⟩ hMt ⟨rz_cbN hts hk2 (hE.2.1 _ (rz_lk ek) rfl) (by omega) (by omega), hst1, trivial⟩ ⟨rz_pc_blind, fun U hU hWm => ⟨rfl, by rw [hU]; exact rz_size hW hS hb0 (by omega), by rw [hU]; exact hW, rz_env.warm hWm hE, rz_xs.warm hWm hU hS hXs⟩⟩ rfl (by simp; omega) hl.1.2.2.1 hst (lv_room (by rw [rz_cats hrest]; exact hlen.1)) hdec ⟨by omega, by omega⟩) hS (fun H1 locs1 gP gS => ?_)
        have e8 : (r1.map (rz_mv G b0)).toList ++ (st.drop (rz_np k2)).map (rz_mv G b0) = (r1.toList ++ st.drop (rz_np k2)).map (rz_mv G b0) := by cases r1 <;> simp
        rw [e8]
        exact nx g1 gP gS (by omega) (by omega) (by omega) hl
      · next k2 ek =>
        unfold rz_cpS at h
        split at h
        · next n9 dp a sp a0 rest =>
          obtain ⟨hrest, hlen, hd0, n0, f, n1, g, ha0, ha1, q1, q2, q3, q4, q5, h⟩ := h
          obtain ⟨hw, -, -, -⟩ := rz_calls (rz_lk ek)
          obtain ⟨hl0, he0⟩ := rz_av_of ha0
          obtain ⟨hl1, he1⟩ := rz_av_of ha1
          have hget0 := rz_ws_get G b0 hl0
          rw [he0] at hget0
          have hget1 := rz_ws_get G b0 hl1
          rw [he1] at hget1
          refine va_copyi hx hb (by rw [hml]; exact hl.1.2.2.1.symm) hown (hts _ (rz_in hw rfl)) (hts _ (rz_in rz_w1 rfl)) (hts _ (rz_in rz_w2 rfl)) (hts _ (rz_in rz_w3 rfl)) hK hP hD hS a0 a 0 0 (c0 := G.2.1) (c1 := G.2.1) (n0 := n0) (n1 := n1) (f := f) (g := g) (ty := .int) hget0 hget1 rfl rfl rfl q1 q2 q3 q4 q5 (fun i hi => rfl) (by omega) (by rw [rz_cats hrest]; show rz_cs rest + (7 + 11) ≤ _; omega) hdec (fun H1 locs1 gP gD gS => ?_)
          have e9 := rz_pa_cv (G := G) (b0 := b0) (g := va_cpy f g sp.toNatClampNeg dp.toNatClampNeg n9.toNatClampNeg) hl1 he1
          exact nx h ⟨by rw [← e9]; exact gP, rz_sp_set hC hl1 (by omega)⟩ gS hN h1 h2 hl
        · exact h.elim
      · next k2 ek =>
        obtain ⟨x, y, s2, rfl, ⟨hrest, hlen, hd0, h⟩, -⟩ := rz_i2_w h
        obtain ⟨hw, -, -, -⟩ := rz_calls (rz_lk ek)
        exact va_mmin hx hb (by rw [hml]; exact hl.1.2.2.1.symm) hown (hts _ (rz_in hw rfl)) (hts _ (rz_in rz_w5.1 rfl)) (hts _ (rz_in rz_w4 rfl)) (hts _ (rz_in rz_w5.2 rfl)) (by omega) (by rw [rz_cats hrest]; omega) (by omega) (by omega) hdec (nx h hW hS hN h1 h2 hl)
      · next k2 ek =>
        obtain ⟨x, y, s2, rfl, ⟨hrest, hlen, hd0, h⟩, -⟩ := rz_i2_w h
        obtain ⟨hw, -, -, -⟩ := rz_calls (rz_lk ek)
        exact va_mmax hx hb (by rw [hml]; exact hl.1.2.2.1.symm) hown (hts _ (rz_in hw rfl)) (hts _ (rz_in rz_w6.1 rfl)) (hts _ (rz_in rz_w4 rfl)) (hts _ (rz_in rz_w6.2 rfl)) (by omega) (by rw [rz_cats hrest]; omega) (by omega) (by omega) hdec (nx h hW hS hN h1 h2 hl)
      · exact h.elim
    | ireturn =>
      obtain ⟨rfl, h⟩ := h
      unfold rz_iret at h
      split at h
      · next v =>
        split at h
        · next er =>
          obtain ⟨rfl, rfl⟩ := h
          have e1 : cells = mc := by omega
          have e2 : slots = ms := by omega
          subst e1; subst e2
          exact W.iret (v := v) hx hb (hret.trans er) (fun t ht hWm => ⟨⟨rfl, by rw [ht]; exact hW⟩, hS.F ht⟩) hS.2.2 hdec hlocks
        · next er =>
          obtain ⟨hv, rfl, rfl⟩ := h
          have e1 : cells = mc := by omega
          have e2 : slots = ms := by omega
          subst e1; subst e2
          exact W.zret (v := v) hx hb (hret.trans er) (by rcases hv with rfl | rfl <;> rfl) (fun t ht hWm => ⟨⟨rfl, by rw [ht]; exact hW⟩, hS.F ht⟩) hS.2.2 hdec hlocks
        · exact h.elim
      · exact h.elim
    | areturn =>
      obtain ⟨rfl, h⟩ := h
      unfold rz_aret at h
      split at h
      · obtain ⟨h9, rfl, rfl⟩ := h
        have e1 : cells = mc := by omega
        have e2 : slots = ms := by omega
        subst e1; subst e2
        unfold rz_arT at h9
        split at h9
        · next n9 er => exact W.aret hx hb (hret.trans er) (Or.inl ⟨n9, rfl⟩) (Or.inr ⟨_, rfl⟩) (fun t ht hWm => ⟨⟨rfl, by rw [ht]; exact hW⟩, hS.F ht⟩) hS.2.2 hdec hlocks
        · exact h9.elim
      · obtain ⟨h9, rfl, rfl⟩ := h
        have e1 : cells = mc := by omega
        have e2 : slots = ms := by omega
        subst e1; subst e2
        unfold rz_arT at h9
        split at h9
        · next n9 er => exact W.aret hx hb (hret.trans er) (Or.inl ⟨n9, rfl⟩) (Or.inl rfl) (fun t ht hWm => ⟨⟨rfl, by rw [ht]; exact hW⟩, hS.F ht⟩) hS.2.2 hdec hlocks
        · exact h9.elim
      · exact h.elim
    | return_ =>
      obtain ⟨rfl, rfl, er, rfl, rfl⟩ := h
      have e1 : cells = mc := by omega
      have e2 : slots = ms := by omega
      subst e1; subst e2
      exact W.vret hx hb (hret.trans er) (fun t ht hWm => ⟨⟨rfl, by rw [ht]; exact hW⟩, hS.F ht⟩) hS.2.2 hdec hlocks
    | _ => exact False.elim h
end
section
/-! One instruction over places: a row a kind. -/
section RZE
variable {d k pc : Nat} {lv : List (Option Value)} {st : List Value} {hp : rz_Hp} {R : Option Value → rz_Hp → Prop}
theorem rz_e_aload_n {j : Fin 4} {a : Nat} (h : decode (rz_B k) pc = .ok (.aload_n j, 1)) (hv : lv[j.val]? = some (some (.ref a))) : rz_ev d k pc lv st hp R ↔ rz_ev d k (pc + 1) lv (.ref a :: st) hp R := by
  rw [rz_ev_iff h]; show 1 = 1 ∧ rz_lda lv j.val _ ↔ _; unfold rz_lda; rw [hv]; exact ⟨fun h => h.2, fun h => ⟨rfl, h⟩⟩
theorem rz_e_aload_nN {j : Fin 4} (h : decode (rz_B k) pc = .ok (.aload_n j, 1)) (hv : lv[j.val]? = some (some .null)) : rz_ev d k pc lv st hp R ↔ rz_ev d k (pc + 1) lv (.null :: st) hp R := by
  rw [rz_ev_iff h]; show 1 = 1 ∧ rz_lda lv j.val _ ↔ _; unfold rz_lda; rw [hv]; exact ⟨fun h => h.2, fun h => ⟨rfl, h⟩⟩
theorem rz_e_iload_n {j : Fin 4} {x : Int32} (h : decode (rz_B k) pc = .ok (.iload_n j, 1)) (hv : lv[j.val]? = some (some (.int x))) : rz_ev d k pc lv st hp R ↔ rz_ev d k (pc + 1) lv (.int x :: st) hp R := by
  rw [rz_ev_iff h]; show 1 = 1 ∧ rz_ldi lv j.val _ ↔ _; unfold rz_ldi; rw [hv]; exact ⟨fun h => h.2, fun h => ⟨rfl, h⟩⟩
theorem rz_e_iload {j : Nat} {x : Int32} (h : decode (rz_B k) pc = .ok (.iload j, 2)) (hv : lv[j]? = some (some (.int x))) : rz_ev d k pc lv st hp R ↔ rz_ev d k (pc + 2) lv (.int x :: st) hp R := by
  rw [rz_ev_iff h]; show 2 = 2 ∧ rz_ldi lv j _ ↔ _; unfold rz_ldi; rw [hv]; exact ⟨fun h => h.2, fun h => ⟨rfl, h⟩⟩
theorem rz_e_astore_n {j : Fin 4} {a : Nat} (h : decode (rz_B k) pc = .ok (.astore_n j, 1)) (hj : j.val < lv.length) (hn : rz_K k ≠ 9 ∨ rz_nl lv j.val = true) : rz_ev d k pc lv (.ref a :: st) hp R ↔ rz_ev d k (pc + 1) (lv.set j.val (some (.ref a))) st hp R := by
  rw [rz_ev_iff h]; exact ⟨fun h => h.2.2.2, fun h => ⟨rfl, hn, hj, h⟩⟩
theorem rz_e_astore_nN {j : Fin 4} (h : decode (rz_B k) pc = .ok (.astore_n j, 1)) (hj : j.val < lv.length) (hn : rz_K k ≠ 9 ∨ rz_nl lv j.val = true) : rz_ev d k pc lv (.null :: st) hp R ↔ rz_ev d k (pc + 1) (lv.set j.val (some .null)) st hp R := by
  rw [rz_ev_iff h]; exact ⟨fun h => h.2.2.2, fun h => ⟨rfl, hn, hj, h⟩⟩
theorem rz_e_istore_n {j : Fin 4} {x : Int32} (h : decode (rz_B k) pc = .ok (.istore_n j, 1)) (hj : j.val < lv.length) (hn : rz_K k ≠ 9 ∨ rz_nl lv j.val = true) : rz_ev d k pc lv (.int x :: st) hp R ↔ rz_ev d k (pc + 1) (lv.set j.val (some (.int x))) st hp R := by
  rw [rz_ev_iff h]; exact ⟨fun h => h.2.2.2, fun h => ⟨rfl, hn, hj, h⟩⟩
theorem rz_e_istore {j : Nat} {x : Int32} (h : decode (rz_B k) pc = .ok (.istore j, 2)) (hj : j < lv.length) (hn : rz_K k ≠ 9 ∨ rz_nl lv j = true) : rz_ev d k pc lv (.int x :: st) hp R ↔ rz_ev d k (pc + 2) (lv.set j (some (.int x))) st hp R := by
  rw [rz_ev_iff h]; exact ⟨fun h => h.2.2.2, fun h => ⟨rfl, hn, hj, h⟩⟩
theorem rz_e_iinc {j : Nat} {c : Int} {x v : Int32} (h : decode (rz_B k) pc = .ok (.iinc j c, 3)) (hv : lv[j]? = some (some (.int x))) (hc : Int32.ofInt c = v) : rz_ev d k pc lv st hp R ↔ rz_ev d k (pc + 3) (lv.set j (some (.int (x + v)))) st hp R := by
  subst hc
  rw [rz_ev_iff h]; unfold rz_stp; dsimp only; rw [hv]; exact ⟨fun h => h.2, fun h => ⟨rfl, h⟩⟩
theorem rz_e_iconst {n : Int} {v : Int32} (h : decode (rz_B k) pc = .ok (.iconst n, 1)) (hc : Int32.ofInt n = v) : rz_ev d k pc lv st hp R ↔ rz_ev d k (pc + 1) lv (.int v :: st) hp R := by
  subst hc
  rw [rz_ev_iff h]; exact ⟨fun h => h.2, fun h => ⟨rfl, h⟩⟩
theorem rz_e_bipush {n : Int} {v : Int32} (h : decode (rz_B k) pc = .ok (.bipush n, 2)) (hc : (Int8.ofInt n).toInt32 = v) : rz_ev d k pc lv st hp R ↔ rz_ev d k (pc + 2) lv (.int v :: st) hp R := by
  subst hc
  rw [rz_ev_iff h]; exact ⟨fun h => h.2, fun h => ⟨rfl, h⟩⟩
theorem rz_e_sipush {n : Int} {v : Int32} (h : decode (rz_B k) pc = .ok (.sipush n, 3)) (hc : (Int16.ofInt n).toInt32 = v) : rz_ev d k pc lv st hp R ↔ rz_ev d k (pc + 3) lv (.int v :: st) hp R := by
  subst hc
  rw [rz_ev_iff h]; exact ⟨fun h => h.2, fun h => ⟨rfl, h⟩⟩
theorem rz_e_ldc {n : Nat} {v : Int32} (h : decode (rz_B k) pc = .ok (.ldc n, 2)) (hc : rz_kl.lookup (rz_K k, n) = some v) : rz_ev d k pc lv st hp R ↔ rz_ev d k (pc + 2) lv (.int v :: st) hp R := by
  rw [rz_ev_iff h]; unfold rz_stp; dsimp only; rw [hc]; exact ⟨fun h => h.2, fun h => ⟨rfl, h⟩⟩
theorem rz_e_null (h : decode (rz_B k) pc = .ok (.aconst_null, 1)) : rz_ev d k pc lv st hp R ↔ rz_ev d k (pc + 1) lv (.null :: st) hp R := by
  rw [rz_ev_iff h]; exact ⟨fun h => h.2, fun h => ⟨rfl, h⟩⟩
theorem rz_e_iadd {x y : Int32} (h : decode (rz_B k) pc = .ok (.iadd, 1)) : rz_ev d k pc lv (.int y :: .int x :: st) hp R ↔ rz_ev d k (pc + 1) lv (.int (x + y) :: st) hp R := by
  rw [rz_ev_iff h]; exact ⟨fun h => h.2, fun h => ⟨rfl, h⟩⟩
theorem rz_e_isub {x y : Int32} (h : decode (rz_B k) pc = .ok (.isub, 1)) : rz_ev d k pc lv (.int y :: .int x :: st) hp R ↔ rz_ev d k (pc + 1) lv (.int (x - y) :: st) hp R := by
  rw [rz_ev_iff h]; exact ⟨fun h => h.2, fun h => ⟨rfl, h⟩⟩
theorem rz_e_imul {x y : Int32} (h : decode (rz_B k) pc = .ok (.imul, 1)) : rz_ev d k pc lv (.int y :: .int x :: st) hp R ↔ rz_ev d k (pc + 1) lv (.int (x * y) :: st) hp R := by
  rw [rz_ev_iff h]; exact ⟨fun h => h.2, fun h => ⟨rfl, h⟩⟩
theorem rz_e_iand {x y : Int32} (h : decode (rz_B k) pc = .ok (.iand, 1)) : rz_ev d k pc lv (.int y :: .int x :: st) hp R ↔ rz_ev d k (pc + 1) lv (.int (x &&& y) :: st) hp R := by
  rw [rz_ev_iff h]; exact ⟨fun h => h.2, fun h => ⟨rfl, h⟩⟩
theorem rz_e_ixor {x y : Int32} (h : decode (rz_B k) pc = .ok (.ixor, 1)) : rz_ev d k pc lv (.int y :: .int x :: st) hp R ↔ rz_ev d k (pc + 1) lv (.int (x ^^^ y) :: st) hp R := by
  rw [rz_ev_iff h]; exact ⟨fun h => h.2, fun h => ⟨rfl, h⟩⟩
theorem rz_e_ishr {x y : Int32} (h : decode (rz_B k) pc = .ok (.ishr, 1)) : rz_ev d k pc lv (.int y :: .int x :: st) hp R ↔ rz_ev d k (pc + 1) lv (.int (x >>> (y &&& 31)) :: st) hp R := by
  rw [rz_ev_iff h]; exact ⟨fun h => h.2, fun h => ⟨rfl, h⟩⟩
theorem rz_e_idiv {x y : Int32} (h : decode (rz_B k) pc = .ok (.idiv, 1)) : rz_ev d k pc lv (.int y :: .int x :: st) hp R ↔ ¬ y = 0 ∧ rz_ev d k (pc + 1) lv (.int (x / y) :: st) hp R := by
  rw [rz_ev_iff h]; exact ⟨fun h => h.2, fun h => ⟨rfl, h⟩⟩
theorem rz_e_i2c {x : Int32} (h : decode (rz_B k) pc = .ok (.i2c, 1)) : rz_ev d k pc lv (.int x :: st) hp R ↔ rz_ev d k (pc + 1) lv (.int (x.toUInt32 % 65536).toInt32 :: st) hp R := by
  rw [rz_ev_iff h]; exact ⟨fun h => h.2, fun h => ⟨rfl, h⟩⟩
theorem rz_e_dupI {x : Int32} (h : decode (rz_B k) pc = .ok (.dup, 1)) : rz_ev d k pc lv (.int x :: st) hp R ↔ rz_ev d k (pc + 1) lv (.int x :: .int x :: st) hp R := by
  rw [rz_ev_iff h]; exact ⟨fun h => h.2.2, fun h => ⟨rfl, rfl, h⟩⟩
theorem rz_e_dupA {x : Nat} (h : decode (rz_B k) pc = .ok (.dup, 1)) : rz_ev d k pc lv (.ref x :: st) hp R ↔ rz_ev d k (pc + 1) lv (.ref x :: .ref x :: st) hp R := by
  rw [rz_ev_iff h]; exact ⟨fun h => h.2.2, fun h => ⟨rfl, rfl, h⟩⟩
theorem rz_e_dup2 {x : Int32} {a : Nat} (h : decode (rz_B k) pc = .ok (.dup2, 1)) : rz_ev d k pc lv (.int x :: .ref a :: st) hp R ↔ rz_ev d k (pc + 1) lv (.int x :: .ref a :: .int x :: .ref a :: st) hp R := by
  rw [rz_ev_iff h]; exact ⟨fun h => h.2.2.2, fun h => ⟨rfl, rfl, rfl, h⟩⟩
theorem rz_e_pop {x : Int32} (h : decode (rz_B k) pc = .ok (.pop, 1)) : rz_ev d k pc lv (.int x :: st) hp R ↔ rz_ev d k (pc + 1) lv st hp R := by
  rw [rz_ev_iff h]; exact ⟨fun h => h.2.2, fun h => ⟨rfl, rfl, h⟩⟩
theorem rz_e_getfield {a index ci j : Nat} (h : decode (rz_B k) pc = .ok (.getfield index, 3)) (hl : rz_fl.lookup (rz_K k, index) = some (ci, j)) : rz_ev d k pc lv (.ref a :: st) hp R ↔ ∃ v, rz_fv hp a ci j = some v ∧ rz_ev d k (pc + 3) lv (v :: st) hp R := by
  rw [rz_ev_iff h]; show 3 = 3 ∧ rz_getf _ _ _ _ _ _ _ ↔ _; unfold rz_getf rz_r1; dsimp only; rw [hl]; exact ⟨fun h => h.2, fun h => ⟨rfl, h⟩⟩
theorem rz_e_putfield {a index ci j : Nat} {v : Value} (h : decode (rz_B k) pc = .ok (.putfield index, 3)) (hl : rz_fl.lookup (rz_K k, index) = some (ci, j)) (hf : rz_fit (rz_ty ci j) v) (hn : (rz_T ci j).2.2.2 = true → (rz_Y k).name = "<init>" ∧ ci = rz_K k) : rz_ev d k pc lv (v :: .ref a :: st) hp R ↔ (∃ w, rz_fv hp a ci j = some w) ∧ rz_ev d k (pc + 3) lv st (rz_pf hp a j v) R := by
  rw [rz_ev_iff h]; show 3 = 3 ∧ rz_putf _ _ _ _ _ _ _ ↔ _; unfold rz_putf; dsimp only; rw [hl]; exact ⟨fun h => ⟨h.2.1, h.2.2.2.2⟩, fun h => ⟨rfl, h.1, hf, hn, h.2⟩⟩
theorem rz_e_iaload {a : Nat} {i : Int32} (h : decode (rz_B k) pc = .ok (.iaload, 1)) : rz_ev d k pc lv (.int i :: .ref a :: st) hp R ↔ ∃ n f, rz_av hp a = some (0, n, f) ∧ vp_in i n ∧ rz_ev d k (pc + 1) lv (.int (f i.toNatClampNeg) :: st) hp R := by
  rw [rz_ev_iff h]; exact ⟨fun h => h.2, fun h => ⟨rfl, h⟩⟩
theorem rz_e_caload {a : Nat} {i : Int32} (h : decode (rz_B k) pc = .ok (.caload, 1)) : rz_ev d k pc lv (.int i :: .ref a :: st) hp R ↔ ∃ n f, rz_av hp a = some (1, n, f) ∧ vp_in i n ∧ rz_ev d k (pc + 1) lv (.int (f i.toNatClampNeg) :: st) hp R := by
  rw [rz_ev_iff h]; exact ⟨fun h => h.2, fun h => ⟨rfl, h⟩⟩
theorem rz_e_iastore {a : Nat} {i x : Int32} (h : decode (rz_B k) pc = .ok (.iastore, 1)) : rz_ev d k pc lv (.int x :: .int i :: .ref a :: st) hp R ↔ ∃ n f, rz_av hp a = some (0, n, f) ∧ vp_in i n ∧ rz_ev d k (pc + 1) lv st (rz_pa hp a (upd f i.toNatClampNeg x)) R := by
  rw [rz_ev_iff h]; exact ⟨fun h => h.2, fun h => ⟨rfl, h⟩⟩
theorem rz_e_castore {a : Nat} {i x : Int32} (h : decode (rz_B k) pc = .ok (.castore, 1)) : rz_ev d k pc lv (.int x :: .int i :: .ref a :: st) hp R ↔ ∃ n f, rz_av hp a = some (1, n, f) ∧ vp_in i n ∧ rz_ev d k (pc + 1) lv st (rz_pa hp a (upd f i.toNatClampNeg (vp_nar .char x))) R := by
  rw [rz_ev_iff h]; exact ⟨fun h => h.2, fun h => ⟨rfl, h⟩⟩
theorem rz_e_aaload {a : Nat} {i : Int32} (h : decode (rz_B k) pc = .ok (.aaload, 1)) : rz_ev d k pc lv (.int i :: .ref a :: st) hp R ↔ ∃ n f, rz_qv hp a = some (n, f) ∧ vp_in i n ∧ rz_ev d k (pc + 1) lv (va_rf (f i.toNatClampNeg) :: st) hp R := by
  rw [rz_ev_iff h]; exact ⟨fun h => h.2, fun h => ⟨rfl, h⟩⟩
theorem rz_e_aastore {a v : Nat} {i : Int32} (h : decode (rz_B k) pc = .ok (.aastore, 1)) : rz_ev d k pc lv (.ref v :: .int i :: .ref a :: st) hp R ↔ ∃ n f, rz_qv hp a = some (n, f) ∧ vp_in i n ∧ rz_co hp v = some 6 ∧ rz_ev d k (pc + 1) lv st (rz_pq hp a (va_up f i.toNatClampNeg (some v))) R := by
  rw [rz_ev_iff h]; exact ⟨fun h => h.2, fun h => ⟨rfl, h⟩⟩
theorem rz_e_arraylength {a : Nat} (h : decode (rz_B k) pc = .ok (.arraylength, 1)) : rz_ev d k pc lv (.ref a :: st) hp R ↔ ∃ n, rz_ln hp a = some n ∧ rz_ev d k (pc + 1) lv (.int (nI n) :: st) hp R := by
  rw [rz_ev_iff h]; exact ⟨fun h => h.2, fun h => ⟨rfl, h⟩⟩
theorem rz_e_new {index ci : Nat} (h : decode (rz_B k) pc = .ok (.new index, 3)) (hl : rz_cl.lookup (rz_K k, index) = some ci) : rz_ev d k pc lv st hp R ↔ rz_ev d k (pc + 3) lv (.ref hp.2.1 :: st) (rz_push hp (.inr (.inr (ci, rz_dv ci))) (rz_N ci)) R := by
  rw [rz_ev_iff h]; unfold rz_stp; dsimp only; rw [hl]; exact ⟨fun h => h.2, fun h => ⟨rfl, h⟩⟩
theorem rz_e_newI {n : Int32} (h : decode (rz_B k) pc = .ok (.newarray .int, 2)) : rz_ev d k pc lv (.int n :: st) hp R ↔ ¬ n < 0 ∧ n.toNatClampNeg ≤ 4096 ∧ rz_ev d k (pc + 2) lv (.ref hp.2.1 :: st) (rz_push hp (.inl (0, n.toNatClampNeg, fun _ => 0)) n.toNatClampNeg) R := by
  rw [rz_ev_iff h]; exact ⟨fun h => h.2, fun h => ⟨rfl, h⟩⟩
theorem rz_e_newC {n : Int32} (h : decode (rz_B k) pc = .ok (.newarray .char, 2)) : rz_ev d k pc lv (.int n :: st) hp R ↔ ¬ n < 0 ∧ n.toNatClampNeg ≤ 4096 ∧ rz_ev d k (pc + 2) lv (.ref hp.2.1 :: st) (rz_push hp (.inl (1, n.toNatClampNeg, fun _ => 0)) n.toNatClampNeg) R := by
  rw [rz_ev_iff h]; exact ⟨fun h => h.2, fun h => ⟨rfl, h⟩⟩
theorem rz_e_anewarray {index : Nat} {n : Int32} (h : decode (rz_B k) pc = .ok (.anewarray index, 3)) (hl : rz_cl.lookup (rz_K k, index) = some 6) : rz_ev d k pc lv (.int n :: st) hp R ↔ ¬ n < 0 ∧ n.toNatClampNeg ≤ 4096 ∧ rz_ev d k (pc + 3) lv (.ref hp.2.1 :: st) (rz_push hp (.inr (.inl (n.toNatClampNeg, fun _ => none))) n.toNatClampNeg) R := by
  rw [rz_ev_iff h]; exact ⟨fun h => h.2.2, fun h => ⟨rfl, hl, h⟩⟩
theorem rz_to_iff {off : Int} {t : Nat} {f : Nat → Prop} (ht : (pc : Int) + off = (t : Int)) : rz_to pc off f ↔ f t := by
  unfold rz_to
  rw [ht]
  exact ⟨fun h => h.2, fun h => ⟨Int.natCast_nonneg t, h⟩⟩
theorem rz_e_goto {off : Int} {t : Nat} (h : decode (rz_B k) pc = .ok (.goto off, 3)) (ht : (pc : Int) + off = (t : Int)) : rz_ev d k pc lv st hp R ↔ rz_ev d k t lv st hp R := by
  rw [rz_ev_iff h]; show 3 = 3 ∧ rz_to _ _ _ ↔ _; rw [rz_to_iff ht]; exact ⟨fun h => h.2, fun h => ⟨rfl, h⟩⟩
theorem rz_e_ceq {off : Int} {t : Nat} {x y : Int32} (h : decode (rz_B k) pc = .ok (.if_icmp .eq off, 3)) (ht : (pc : Int) + off = (t : Int)) : rz_ev d k pc lv (.int y :: .int x :: st) hp R ↔ if x = y then rz_ev d k t lv st hp R else rz_ev d k (pc + 3) lv st hp R := by
  rw [rz_ev_iff h]; show 3 = 3 ∧ rz_to _ _ _ ↔ _; rw [rz_to_iff ht]; exact ⟨fun h => h.2, fun h => ⟨rfl, h⟩⟩
theorem rz_e_cne {off : Int} {t : Nat} {x y : Int32} (h : decode (rz_B k) pc = .ok (.if_icmp .ne off, 3)) (ht : (pc : Int) + off = (t : Int)) : rz_ev d k pc lv (.int y :: .int x :: st) hp R ↔ if x = y then rz_ev d k (pc + 3) lv st hp R else rz_ev d k t lv st hp R := by
  rw [rz_ev_iff h]; show 3 = 3 ∧ rz_to _ _ _ ↔ _; rw [rz_to_iff ht]; exact ⟨fun h => h.2, fun h => ⟨rfl, h⟩⟩
theorem rz_e_clt {off : Int} {t : Nat} {x y : Int32} (h : decode (rz_B k) pc = .ok (.if_icmp .lt off, 3)) (ht : (pc : Int) + off = (t : Int)) : rz_ev d k pc lv (.int y :: .int x :: st) hp R ↔ if x < y then rz_ev d k t lv st hp R else rz_ev d k (pc + 3) lv st hp R := by
  rw [rz_ev_iff h]; show 3 = 3 ∧ rz_to _ _ _ ↔ _; rw [rz_to_iff ht]; exact ⟨fun h => h.2, fun h => ⟨rfl, h⟩⟩
theorem rz_e_cge {off : Int} {t : Nat} {x y : Int32} (h : decode (rz_B k) pc = .ok (.if_icmp .ge off, 3)) (ht : (pc : Int) + off = (t : Int)) : rz_ev d k pc lv (.int y :: .int x :: st) hp R ↔ if y ≤ x then rz_ev d k t lv st hp R else rz_ev d k (pc + 3) lv st hp R := by
  rw [rz_ev_iff h]; show 3 = 3 ∧ rz_to _ _ _ ↔ _; rw [rz_to_iff ht]; exact ⟨fun h => h.2, fun h => ⟨rfl, h⟩⟩
theorem rz_e_cgt {off : Int} {t : Nat} {x y : Int32} (h : decode (rz_B k) pc = .ok (.if_icmp .gt off, 3)) (ht : (pc : Int) + off = (t : Int)) : rz_ev d k pc lv (.int y :: .int x :: st) hp R ↔ if y < x then rz_ev d k t lv st hp R else rz_ev d k (pc + 3) lv st hp R := by
  rw [rz_ev_iff h]; show 3 = 3 ∧ rz_to _ _ _ ↔ _; rw [rz_to_iff ht]; exact ⟨fun h => h.2, fun h => ⟨rfl, h⟩⟩
theorem rz_e_cle {off : Int} {t : Nat} {x y : Int32} (h : decode (rz_B k) pc = .ok (.if_icmp .le off, 3)) (ht : (pc : Int) + off = (t : Int)) : rz_ev d k pc lv (.int y :: .int x :: st) hp R ↔ if x ≤ y then rz_ev d k t lv st hp R else rz_ev d k (pc + 3) lv st hp R := by
  rw [rz_ev_iff h]; show 3 = 3 ∧ rz_to _ _ _ ↔ _; rw [rz_to_iff ht]; exact ⟨fun h => h.2, fun h => ⟨rfl, h⟩⟩
theorem rz_e_ieq {off : Int} {t : Nat} {x : Int32} (h : decode (rz_B k) pc = .ok (.ifCond .eq off, 3)) (ht : (pc : Int) + off = (t : Int)) : rz_ev d k pc lv (.int x :: st) hp R ↔ if x = 0 then rz_ev d k t lv st hp R else rz_ev d k (pc + 3) lv st hp R := by
  rw [rz_ev_iff h]; show 3 = 3 ∧ rz_to _ _ _ ↔ _; rw [rz_to_iff ht]; exact ⟨fun h => h.2, fun h => ⟨rfl, h⟩⟩
theorem rz_e_ine {off : Int} {t : Nat} {x : Int32} (h : decode (rz_B k) pc = .ok (.ifCond .ne off, 3)) (ht : (pc : Int) + off = (t : Int)) : rz_ev d k pc lv (.int x :: st) hp R ↔ if x = 0 then rz_ev d k (pc + 3) lv st hp R else rz_ev d k t lv st hp R := by
  rw [rz_ev_iff h]; show 3 = 3 ∧ rz_to _ _ _ ↔ _; rw [rz_to_iff ht]; exact ⟨fun h => h.2, fun h => ⟨rfl, h⟩⟩
theorem rz_e_ilt {off : Int} {t : Nat} {x : Int32} (h : decode (rz_B k) pc = .ok (.ifCond .lt off, 3)) (ht : (pc : Int) + off = (t : Int)) : rz_ev d k pc lv (.int x :: st) hp R ↔ if x < 0 then rz_ev d k t lv st hp R else rz_ev d k (pc + 3) lv st hp R := by
  rw [rz_ev_iff h]; show 3 = 3 ∧ rz_to _ _ _ ↔ _; rw [rz_to_iff ht]; exact ⟨fun h => h.2, fun h => ⟨rfl, h⟩⟩
theorem rz_e_ige {off : Int} {t : Nat} {x : Int32} (h : decode (rz_B k) pc = .ok (.ifCond .ge off, 3)) (ht : (pc : Int) + off = (t : Int)) : rz_ev d k pc lv (.int x :: st) hp R ↔ if 0 ≤ x then rz_ev d k t lv st hp R else rz_ev d k (pc + 3) lv st hp R := by
  rw [rz_ev_iff h]; show 3 = 3 ∧ rz_to _ _ _ ↔ _; rw [rz_to_iff ht]; exact ⟨fun h => h.2, fun h => ⟨rfl, h⟩⟩
theorem rz_e_igt {off : Int} {t : Nat} {x : Int32} (h : decode (rz_B k) pc = .ok (.ifCond .gt off, 3)) (ht : (pc : Int) + off = (t : Int)) : rz_ev d k pc lv (.int x :: st) hp R ↔ if 0 < x then rz_ev d k t lv st hp R else rz_ev d k (pc + 3) lv st hp R := by
  rw [rz_ev_iff h]; show 3 = 3 ∧ rz_to _ _ _ ↔ _; rw [rz_to_iff ht]; exact ⟨fun h => h.2, fun h => ⟨rfl, h⟩⟩
theorem rz_e_ile {off : Int} {t : Nat} {x : Int32} (h : decode (rz_B k) pc = .ok (.ifCond .le off, 3)) (ht : (pc : Int) + off = (t : Int)) : rz_ev d k pc lv (.int x :: st) hp R ↔ if x ≤ 0 then rz_ev d k t lv st hp R else rz_ev d k (pc + 3) lv st hp R := by
  rw [rz_ev_iff h]; show 3 = 3 ∧ rz_to _ _ _ ↔ _; rw [rz_to_iff ht]; exact ⟨fun h => h.2, fun h => ⟨rfl, h⟩⟩
theorem rz_e_ifnull {off : Int} {t : Nat} {v : Value} (h : decode (rz_B k) pc = .ok (.ifnull off, 3)) (ht : (pc : Int) + off = (t : Int)) (hv : v = .null ∨ ∃ a, v = .ref a) : rz_ev d k pc lv (v :: st) hp R ↔ if v = .null then rz_ev d k t lv st hp R else rz_ev d k (pc + 3) lv st hp R := by
  rw [rz_ev_iff h]
  rcases hv with rfl | ⟨a, rfl⟩
  · show 3 = 3 ∧ rz_to _ _ _ ↔ _; rw [rz_to_iff ht, if_pos rfl]; exact ⟨fun h => h.2, fun h => ⟨rfl, h⟩⟩
  · rw [if_neg (by simp)]; exact ⟨fun h => h.2, fun h => ⟨rfl, h⟩⟩
theorem rz_e_ifnonnull {off : Int} {t : Nat} {v : Value} (h : decode (rz_B k) pc = .ok (.ifnonnull off, 3)) (ht : (pc : Int) + off = (t : Int)) (hv : v = .null ∨ ∃ a, v = .ref a) : rz_ev d k pc lv (v :: st) hp R ↔ if v = .null then rz_ev d k (pc + 3) lv st hp R else rz_ev d k t lv st hp R := by
  rw [rz_ev_iff h]
  rcases hv with rfl | ⟨a, rfl⟩
  · rw [if_pos rfl]; exact ⟨fun h => h.2, fun h => ⟨rfl, h⟩⟩
  · show 3 = 3 ∧ rz_to _ _ _ ↔ _; rw [rz_to_iff ht, if_neg (by simp)]; exact ⟨fun h => h.2, fun h => ⟨rfl, h⟩⟩
theorem rz_e_table {dflt lo hi : Int} {offs : Array Int} {len : Nat} {x : Int32} (h : decode (rz_B k) pc = .ok (.tableswitch dflt lo hi offs, len)) : rz_ev d k pc lv (.int x :: st) hp R ↔ if x.toInt < lo ∨ hi < x.toInt then rz_to pc dflt (fun t => rz_ev d k t lv st hp R) else match offs[(x.toInt - lo).toNat]? with
    | some off => rz_to pc off (fun t => rz_ev d k t lv st hp R)
    | none => False := by
  rw [rz_ev_iff h]; exact Iff.rfl
theorem rz_e_lookup {dflt : Int} {ps : Array (Int × Int)} {len : Nat} {x : Int32} (h : decode (rz_B k) pc = .ok (.lookupswitch dflt ps, len)) (hs : (ps.toList.zip (ps.toList.drop 1)).all (fun (a, next) => a.1 < next.1) = true) : rz_ev d k pc lv (.int x :: st) hp R ↔ rz_to pc (Op.lookupswitch.offset ps.toList dflt x.toInt) (fun t => rz_ev d k t lv st hp R) := by
  rw [rz_ev_iff h]; exact ⟨fun h => h.2, fun h => ⟨hs, h⟩⟩
theorem rz_e_virtual {index k2 b : Nat} {rest : List Value} (h : decode (rz_B k) pc = .ok (.invokevirtual index, 3)) (hl : rz_ml.lookup (rz_K k, index) = some (0, k2)) (hk : k2 < 127) (hd : st.drop (rz_np k2) = .ref b :: rest) (hn : rz_np k2 ≤ st.length) (ha : st.all rz_val = true) (hr : rz_cs rest ≤ 8) (hA : rz_cs (.ref b :: (st.take (rz_np k2)).reverse) ≤ rz_ML k2) (hO : rz_K k2 = 9 ∨ (Value.ref b :: (st.take (rz_np k2)).reverse).all rz_one = true) {c : Nat} (hc : rz_K k2 = c) {as : List (Option Value)} (hE : rz_en k2 (.ref b :: (st.take (rz_np k2)).reverse) = as) : rz_ev (d + 1) k pc lv st hp R ↔ rz_co hp b = some c ∧ rz_ev d k2 0 as [] hp (fun r h => rz_ev (d + 1) k (pc + 3) lv (r.toList ++ rest) h R) := by
  subst hc; subst hE
  rw [rz_ev_iff h]; show 3 = 3 ∧ rz_inv _ _ _ _ _ _ _ _ _ ↔ _; simp only [rz_inv, hl, hd]
  exact ⟨fun h => ⟨h.2.1, h.2.2.2.2.2.2.2.2⟩, fun h => ⟨trivial, h.1, hn, ha, ⟨hr, hA, hO⟩, Nat.succ_pos _, Nat.succ_pos _, hk, h.2⟩⟩
theorem rz_e_special {index k2 b : Nat} {rest : List Value} (h : decode (rz_B k) pc = .ok (.invokespecial index, 3)) (hl : rz_ml.lookup (rz_K k, index) = some (2, k2)) (hk : k2 < 127) (hd : st.drop (rz_np k2) = .ref b :: rest) (hn : rz_np k2 ≤ st.length) (ha : st.all rz_val = true) (hr : rz_cs rest ≤ 8) (hA : rz_cs (.ref b :: (st.take (rz_np k2)).reverse) ≤ rz_ML k2) (hO : rz_K k2 = 9 ∨ (Value.ref b :: (st.take (rz_np k2)).reverse).all rz_one = true) {as : List (Option Value)} (hE : rz_en k2 (.ref b :: (st.take (rz_np k2)).reverse) = as) : rz_ev (d + 1) k pc lv st hp R ↔ rz_ev d k2 0 as [] hp (fun r h => rz_ev (d + 1) k (pc + 3) lv (r.toList ++ rest) h R) := by
  subst hE
  rw [rz_ev_iff h]; show 3 = 3 ∧ rz_ins _ _ _ _ _ _ _ _ _ ↔ _; simp only [rz_ins, hl, hd]
  exact ⟨fun h => h.2.2.2.2.2.2.2, fun h => ⟨trivial, hn, ha, ⟨hr, hA, hO⟩, Nat.succ_pos _, Nat.succ_pos _, hk, h⟩⟩
theorem rz_e_object {index b k2 : Nat} {rest : List Value} (h : decode (rz_B k) pc = .ok (.invokespecial index, 3)) (hl : rz_ml.lookup (rz_K k, index) = some (8, k2)) (ha : rest.all rz_val = true) (hr : rz_cs rest ≤ 8) : rz_ev (d + 1) k pc lv (.ref b :: rest) hp R ↔ rz_ev (d + 1) k (pc + 3) lv rest hp R := by
  rw [rz_ev_iff h]; show 3 = 3 ∧ rz_ins _ _ _ _ _ _ _ _ _ ↔ _; unfold rz_ins; rw [hl]
  exact ⟨fun h => h.2.2.2.2, fun h => ⟨rfl, ha, hr, Nat.succ_pos _, h⟩⟩
theorem rz_e_static {index k2 : Nat} {rest : List Value} (h : decode (rz_B k) pc = .ok (.invokestatic index, 3)) (hl : rz_ml.lookup (rz_K k, index) = some (1, k2) ∨ rz_ml.lookup (rz_K k, index) = some (3, k2)) (hk : k2 < 127) (hd : st.drop (rz_np k2) = rest) (hn : rz_np k2 ≤ st.length) (ha : st.all rz_val = true) (hr : rz_cs rest ≤ 8) (hA : rz_cs (st.take (rz_np k2)).reverse ≤ rz_ML k2) (hO : rz_K k2 = 9 ∨ (st.take (rz_np k2)).reverse.all rz_one = true) {as : List (Option Value)} (hE : rz_en k2 (st.take (rz_np k2)).reverse = as) : rz_ev (d + 1) k pc lv st hp R ↔ rz_ev d k2 0 as [] hp (fun r h => rz_ev (d + 1) k (pc + 3) lv (r.toList ++ rest) h R) := by
  subst hE; subst hd
  rw [rz_ev_iff h]; show 3 = 3 ∧ rz_inS _ _ _ _ _ _ _ _ _ ↔ _; unfold rz_inS
  rcases hl with hl | hl <;> rw [hl] <;> exact ⟨fun h => h.2.2.2.2.2.2.2, fun h => ⟨rfl, hn, ha, ⟨hr, hA, hO⟩, Nat.succ_pos _, Nat.succ_pos _, hk, h⟩⟩
theorem rz_e_copy {index k2 a0 a : Nat} {sp dp n : Int32} {rest : List Value} (h : decode (rz_B k) pc = .ok (.invokestatic index, 3)) (hl : rz_ml.lookup (rz_K k, index) = some (5, k2)) (ha : rest.all rz_val = true) (hr : rz_cs rest ≤ 8) : rz_ev (d + 1) k pc lv (.int n :: .int dp :: .ref a :: .int sp :: .ref a0 :: rest) hp R ↔ ∃ n0 f n1 g, rz_av hp a0 = some (0, n0, f) ∧ rz_av hp a = some (0, n1, g) ∧ ¬ sp < 0 ∧ ¬ dp < 0 ∧ ¬ n < 0 ∧ sp.toNatClampNeg + n.toNatClampNeg ≤ n0 ∧ dp.toNatClampNeg + n.toNatClampNeg ≤ n1 ∧ rz_ev (d + 1) k (pc + 3) lv rest (rz_pa hp a (va_cpy f g sp.toNatClampNeg dp.toNatClampNeg n.toNatClampNeg)) R := by
  rw [rz_ev_iff h]; show 3 = 3 ∧ rz_inS _ _ _ _ _ _ _ _ _ ↔ _; unfold rz_inS; rw [hl]
  exact ⟨fun h => h.2.2.2.2, fun h => ⟨rfl, ha, hr, Nat.succ_pos _, h⟩⟩
theorem rz_e_min {index k2 : Nat} {x y : Int32} {rest : List Value} (h : decode (rz_B k) pc = .ok (.invokestatic index, 3)) (hl : rz_ml.lookup (rz_K k, index) = some (6, k2)) (ha : rest.all rz_val = true) (hr : rz_cs rest ≤ 8) : rz_ev (d + 1) k pc lv (.int y :: .int x :: rest) hp R ↔ rz_ev (d + 1) k (pc + 3) lv (.int (if y < x then y else x) :: rest) hp R := by
  rw [rz_ev_iff h]; show 3 = 3 ∧ rz_inS _ _ _ _ _ _ _ _ _ ↔ _; unfold rz_inS; rw [hl]
  exact ⟨fun h => h.2.2.2.2, fun h => ⟨rfl, ha, hr, Nat.succ_pos _, h⟩⟩
theorem rz_e_max {index k2 : Nat} {x y : Int32} {rest : List Value} (h : decode (rz_B k) pc = .ok (.invokestatic index, 3)) (hl : rz_ml.lookup (rz_K k, index) = some (7, k2)) (ha : rest.all rz_val = true) (hr : rz_cs rest ≤ 8) : rz_ev (d + 1) k pc lv (.int y :: .int x :: rest) hp R ↔ rz_ev (d + 1) k (pc + 3) lv (.int (if x < y then y else x) :: rest) hp R := by
  rw [rz_ev_iff h]; show 3 = 3 ∧ rz_inS _ _ _ _ _ _ _ _ _ ↔ _; unfold rz_inS; rw [hl]
  exact ⟨fun h => h.2.2.2.2, fun h => ⟨rfl, ha, hr, Nat.succ_pos _, h⟩⟩
theorem rz_e_iret {v : Int32} (h : decode (rz_B k) pc = .ok (.ireturn, 1)) (hr : rz_RT k = some .int) : rz_ev d k pc lv [.int v] hp R ↔ R (some (.int v)) hp := by
  rw [rz_ev_iff h]; show 1 = 1 ∧ rz_iret _ _ _ _ ↔ _; unfold rz_iret; dsimp only; rw [hr]; exact ⟨fun h => h.2, fun h => ⟨rfl, h⟩⟩
theorem rz_e_zret {v : Int32} (h : decode (rz_B k) pc = .ok (.ireturn, 1)) (hr : rz_RT k = some .boolean) : rz_ev d k pc lv [.int v] hp R ↔ (v = 0 ∨ v = 1) ∧ R (some (.int v)) hp := by
  rw [rz_ev_iff h]; show 1 = 1 ∧ rz_iret _ _ _ _ ↔ _; unfold rz_iret; dsimp only; rw [hr]; exact ⟨fun h => h.2, fun h => ⟨rfl, h⟩⟩
theorem rz_e_aret {v : Value} (h : decode (rz_B k) pc = .ok (.areturn, 1)) (hr : rz_arT k) (hv : v = .null ∨ ∃ a, v = .ref a) : rz_ev d k pc lv [v] hp R ↔ R (some v) hp := by
  rw [rz_ev_iff h]; show 1 = 1 ∧ rz_aret _ _ _ _ ↔ _
  rcases hv with rfl | ⟨a, rfl⟩ <;> exact ⟨fun h => h.2.2, fun h => ⟨rfl, hr, h⟩⟩
theorem rz_e_vret (h : decode (rz_B k) pc = .ok (.return_, 1)) (hr : rz_RT k = none) : rz_ev d k pc lv [] hp R ↔ R none hp := by
  rw [rz_ev_iff h]; exact ⟨fun h => h.2.2.2, fun h => ⟨rfl, rfl, hr, h⟩⟩
theorem rz_e_aload {j : Nat} {a : Nat} (h : decode (rz_B k) pc = .ok (.aload j, 2)) (hv : lv[j]? = some (some (.ref a))) : rz_ev d k pc lv st hp R ↔ rz_ev d k (pc + 2) lv (.ref a :: st) hp R := by
  rw [rz_ev_iff h]; show 2 = 2 ∧ rz_lda lv j _ ↔ _; unfold rz_lda; rw [hv]; exact ⟨fun h => h.2, fun h => ⟨rfl, h⟩⟩
theorem rz_e_aload_nF {j : Fin 4} {a : UInt32} (h : decode (rz_B k) pc = .ok (.aload_n j, 1)) (hv : lv[j.val]? = some (some (.float a))) : rz_ev d k pc lv st hp R ↔ rz_ev d k (pc + 1) lv (.float a :: st) hp R := by
  rw [rz_ev_iff h]; show 1 = 1 ∧ rz_lda lv j.val _ ↔ _; unfold rz_lda; rw [hv]; exact ⟨fun h => h.2, fun h => ⟨rfl, h⟩⟩
theorem rz_e_astore {j : Nat} {a : Nat} (h : decode (rz_B k) pc = .ok (.astore j, 2)) (hj : j < lv.length) (hn : rz_K k ≠ 9 ∨ rz_nl lv j = true) : rz_ev d k pc lv (.ref a :: st) hp R ↔ rz_ev d k (pc + 2) (lv.set j (some (.ref a))) st hp R := by
  rw [rz_ev_iff h]; exact ⟨fun h => h.2.2.2, fun h => ⟨rfl, hn, hj, h⟩⟩
theorem rz_e_lload_n {j : Fin 4} {x : Int64} (h : decode (rz_B k) pc = .ok (.lload_n j, 1)) (hv : lv[j.val]? = some (some (.long x))) : rz_ev d k pc lv st hp R ↔ rz_ev d k (pc + 1) lv (.long x :: st) hp R := by
  rw [rz_ev_iff h]; show 1 = 1 ∧ rz_ldl lv j.val _ ↔ _; unfold rz_ldl; rw [hv]; exact ⟨fun h => h.2, fun h => ⟨rfl, h⟩⟩
theorem rz_e_lstore_n {j : Fin 4} {x : Int64} (h : decode (rz_B k) pc = .ok (.lstore_n j, 1)) (hj : j.val + 1 < lv.length) (h9 : rz_K k = 9) (hn : rz_nl lv j.val = true) : rz_ev d k pc lv (.long x :: st) hp R ↔ rz_ev d k (pc + 1) ((lv.set j.val (some (.long x))).set (j.val + 1) none) st hp R := by
  rw [rz_ev_iff h]; exact ⟨fun h => h.2.2.2, fun h => ⟨rfl, h9, ⟨hj, hn⟩, h⟩⟩
theorem rz_e_ldc2_w {n : Nat} {v : Int64} (h : decode (rz_B k) pc = .ok (.ldc2_w n, 3)) (hc : rz_kL.lookup (rz_K k, n) = some v) : rz_ev d k pc lv st hp R ↔ rz_ev d k (pc + 3) lv (.long v :: st) hp R := by
  rw [rz_ev_iff h]; unfold rz_stp; dsimp only; rw [hc]; exact ⟨fun h => h.2, fun h => ⟨rfl, h⟩⟩
theorem rz_e_lconst {n : Fin 2} {v : Int64} (h : decode (rz_B k) pc = .ok (.lconst n, 1)) (hc : Int64.ofNat (n : Nat) = v) : rz_ev d k pc lv st hp R ↔ rz_ev d k (pc + 1) lv (.long v :: st) hp R := by
  subst hc
  rw [rz_ev_iff h]; exact ⟨fun h => h.2, fun h => ⟨rfl, h⟩⟩
theorem rz_e_i2l {x : Int32} (h : decode (rz_B k) pc = .ok (.i2l, 1)) : rz_ev d k pc lv (.int x :: st) hp R ↔ rz_ev d k (pc + 1) lv (.long x.toInt64 :: st) hp R := by
  rw [rz_ev_iff h]; exact ⟨fun h => h.2, fun h => ⟨rfl, h⟩⟩
theorem rz_e_l2i {x : Int64} (h : decode (rz_B k) pc = .ok (.l2i, 1)) : rz_ev d k pc lv (.long x :: st) hp R ↔ rz_ev d k (pc + 1) lv (.int x.toInt32 :: st) hp R := by
  rw [rz_ev_iff h]; exact ⟨fun h => h.2, fun h => ⟨rfl, h⟩⟩
theorem rz_e_lmul {x y : Int64} (h : decode (rz_B k) pc = .ok (.lmul, 1)) : rz_ev d k pc lv (.long y :: .long x :: st) hp R ↔ rz_ev d k (pc + 1) lv (.long (x * y) :: st) hp R := by
  rw [rz_ev_iff h]; exact ⟨fun h => h.2, fun h => ⟨rfl, h⟩⟩
theorem rz_e_ladd {x y : Int64} (h : decode (rz_B k) pc = .ok (.ladd, 1)) : rz_ev d k pc lv (.long y :: .long x :: st) hp R ↔ rz_ev d k (pc + 1) lv (.long (x + y) :: st) hp R := by
  rw [rz_ev_iff h]; exact ⟨fun h => h.2, fun h => ⟨rfl, h⟩⟩
theorem rz_e_land {x y : Int64} (h : decode (rz_B k) pc = .ok (.land, 1)) : rz_ev d k pc lv (.long y :: .long x :: st) hp R ↔ rz_ev d k (pc + 1) lv (.long (x &&& y) :: st) hp R := by
  rw [rz_ev_iff h]; exact ⟨fun h => h.2, fun h => ⟨rfl, h⟩⟩
theorem rz_e_lcmp {x y : Int64} (h : decode (rz_B k) pc = .ok (.lcmp, 1)) : rz_ev d k pc lv (.long y :: .long x :: st) hp R ↔ rz_ev d k (pc + 1) lv (.int (lg_cmp x y) :: st) hp R := by
  rw [rz_ev_iff h]; exact ⟨fun h => h.2, fun h => ⟨rfl, h⟩⟩
theorem rz_e_lshr {x : Int64} {y : Int32} (h : decode (rz_B k) pc = .ok (.lshr, 1)) : rz_ev d k pc lv (.int y :: .long x :: st) hp R ↔ rz_ev d k (pc + 1) lv (.long (x >>> (y.toInt64 &&& 63)) :: st) hp R := by
  rw [rz_ev_iff h]; exact ⟨fun h => h.2, fun h => ⟨rfl, h⟩⟩
theorem rz_e_irem {x y : Int32} (h : decode (rz_B k) pc = .ok (.irem, 1)) : rz_ev d k pc lv (.int y :: .int x :: st) hp R ↔ ¬ y = 0 ∧ rz_ev d k (pc + 1) lv (.int (x - x / y * y) :: st) hp R := by
  rw [rz_ev_iff h]; exact ⟨fun h => h.2, fun h => ⟨rfl, h⟩⟩
theorem rz_e_laload {a : Nat} {i : Int32} (h : decode (rz_B k) pc = .ok (.laload, 1)) : rz_ev d k pc lv (.int i :: .ref a :: st) hp R ↔ ∃ v, ¬ i < 0 ∧ rz_fv hp a 10 i.toNatClampNeg = some (.long v) ∧ rz_ev d k (pc + 1) lv (.long v :: st) hp R := by
  rw [rz_ev_iff h]; exact ⟨fun h => h.2, fun h => ⟨rfl, h⟩⟩
theorem rz_e_lastore {a : Nat} {i : Int32} {x : Int64} (h : decode (rz_B k) pc = .ok (.lastore, 1)) : rz_ev d k pc lv (.long x :: .int i :: .ref a :: st) hp R ↔ ¬ i < 0 ∧ (∃ w, rz_fv hp a 10 i.toNatClampNeg = some w) ∧ rz_ev d k (pc + 1) lv st (rz_pf hp a i.toNatClampNeg (.long x)) R := by
  rw [rz_ev_iff h]; exact ⟨fun h => h.2, fun h => ⟨rfl, h⟩⟩
theorem rz_e_ialoadF {a : UInt32} {i : Int32} (h : decode (rz_B k) pc = .ok (.iaload, 1)) : rz_ev d k pc lv (.int i :: .float a :: st) hp R ↔ ∃ n f, rz_scr hp = some (n, f) ∧ vp_in i n ∧ rz_ev d k (pc + 1) lv (.int (f i.toNatClampNeg) :: st) hp R := by
  rw [rz_ev_iff h]; exact ⟨fun h => h.2.2, fun h => ⟨rfl, rfl, h⟩⟩
theorem rz_e_arraylengthF {a : UInt32} (h : decode (rz_B k) pc = .ok (.arraylength, 1)) : rz_ev d k pc lv (.float a :: st) hp R ↔ ∃ n f, rz_scr hp = some (n, f) ∧ rz_ev d k (pc + 1) lv (.int (nI n) :: st) hp R := by
  rw [rz_ev_iff h]; exact ⟨fun h => h.2, fun h => ⟨rfl, h⟩⟩
theorem rz_e_newJ {n : Int32} (h : decode (rz_B k) pc = .ok (.newarray .long, 2)) : rz_ev d k pc lv (.int n :: st) hp R ↔ ¬ n < 0 ∧ n.toNatClampNeg ≤ 4096 ∧ rz_ev d k (pc + 2) lv (.ref hp.2.1 :: st) (rz_push hp (.inr (.inr (10, List.replicate n.toNatClampNeg (.long 0)))) n.toNatClampNeg) R := by
  rw [rz_ev_iff h]; exact ⟨fun h => h.2, fun h => ⟨rfl, h⟩⟩
theorem rz_e_lret {v : Int64} (h : decode (rz_B k) pc = .ok (.lreturn, 1)) (hr : rz_RT k = some .long) : rz_ev d k pc lv [.long v] hp R ↔ R (some (.long v)) hp := by
  rw [rz_ev_iff h]; exact ⟨fun h => h.2.2, fun h => ⟨rfl, hr, h⟩⟩
end RZE
end
section
theorem rz_end : True := trivial
end
