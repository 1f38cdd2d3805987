-- ===== PART A: goes FIRST, ahead of the names: the tables' words, and 'selects' of the private methods out of them =====
/-- a private method of a class that the tables say can be made, by its rows of tables_1 -/
def lw_okq (q : MethodName × Nat) : Prop := (q.1.cls ≠ "java/lang/invoke/MethodHandle" ∧ q.1.cls ≠ "java/lang/invoke/VarHandle") ∧ Cond.instantiable q.1.cls q.2 ∈ tables_1 ∧ Cond.privateMethod q.1 ∈ tables_1 ∧ Cond.instanceMethod q.1 ∈ tables_1
theorem lw_p0 : lw_okq (⟨"RisingPiles", "recorded", "(I)I"⟩, 10) := ⟨⟨by decide +kernel, by decide +kernel⟩, List.mem_of_getElem? (i := 13) (by decide +kernel), List.mem_of_getElem? (i := 282) (by decide +kernel), List.mem_of_getElem? (i := 283) (by decide +kernel)⟩
theorem lw_p1 : lw_okq (⟨"RisingPiles$History", "dropOldest", "()V"⟩, 2) := ⟨⟨by decide +kernel, by decide +kernel⟩, List.mem_of_getElem? (i := 119) (by decide +kernel), List.mem_of_getElem? (i := 290) (by decide +kernel), List.mem_of_getElem? (i := 291) (by decide +kernel)⟩
theorem lw_p2 : lw_okq (⟨"RisingPiles$History", "stateAt", "(I)LRisingPiles$State;"⟩, 2) := ⟨⟨by decide +kernel, by decide +kernel⟩, List.mem_of_getElem? (i := 119) (by decide +kernel), List.mem_of_getElem? (i := 294) (by decide +kernel), List.mem_of_getElem? (i := 295) (by decide +kernel)⟩
theorem lw_p3 : lw_okq (⟨"RisingPiles$Piles", "has", "(I)Z"⟩, 8) := ⟨⟨by decide +kernel, by decide +kernel⟩, List.mem_of_getElem? (i := 27) (by decide +kernel), List.mem_of_getElem? (i := 315) (by decide +kernel), List.mem_of_getElem? (i := 316) (by decide +kernel)⟩
theorem lw_p4 : lw_okq (⟨"RisingPiles$Roads", "setLength", "(III)V"⟩, 2) := ⟨⟨by decide +kernel, by decide +kernel⟩, List.mem_of_getElem? (i := 81) (by decide +kernel), List.mem_of_getElem? (i := 405) (by decide +kernel), List.mem_of_getElem? (i := 406) (by decide +kernel)⟩
theorem lw_p5 : lw_okq (⟨"RisingPiles$Piles", "rankAt", "(I)I"⟩, 8) := ⟨⟨by decide +kernel, by decide +kernel⟩, List.mem_of_getElem? (i := 27) (by decide +kernel), List.mem_of_getElem? (i := 564) (by decide +kernel), List.mem_of_getElem? (i := 565) (by decide +kernel)⟩
theorem lw_p6 : lw_okq (⟨"RisingPiles$Search", "clear", "()V"⟩, 5) := ⟨⟨by decide +kernel, by decide +kernel⟩, List.mem_of_getElem? (i := 171) (by decide +kernel), List.mem_of_getElem? (i := 576) (by decide +kernel), List.mem_of_getElem? (i := 577) (by decide +kernel)⟩
theorem lw_p7 : lw_okq (⟨"RisingPiles$Search", "bringIn", "(II)V"⟩, 5) := ⟨⟨by decide +kernel, by decide +kernel⟩, List.mem_of_getElem? (i := 171) (by decide +kernel), List.mem_of_getElem? (i := 584) (by decide +kernel), List.mem_of_getElem? (i := 585) (by decide +kernel)⟩
theorem lw_p8 : lw_okq (⟨"RisingPiles$Search", "letOut", "(LRisingPiles$Roads;)V"⟩, 5) := ⟨⟨by decide +kernel, by decide +kernel⟩, List.mem_of_getElem? (i := 171) (by decide +kernel), List.mem_of_getElem? (i := 590) (by decide +kernel), List.mem_of_getElem? (i := 591) (by decide +kernel)⟩
theorem lw_p9 : lw_okq (⟨"RisingPiles$Search", "followRoads", "(IILRisingPiles$Roads;)V"⟩, 5) := ⟨⟨by decide +kernel, by decide +kernel⟩, List.mem_of_getElem? (i := 171) (by decide +kernel), List.mem_of_getElem? (i := 601) (by decide +kernel), List.mem_of_getElem? (i := 602) (by decide +kernel)⟩
theorem lw_p10 : lw_okq (⟨"RisingPiles$Orders", "readOrder", "(LRisingPiles$Text;)Z"⟩, 5) := ⟨⟨by decide +kernel, by decide +kernel⟩, List.mem_of_getElem? (i := 149) (by decide +kernel), List.mem_of_getElem? (i := 664) (by decide +kernel), List.mem_of_getElem? (i := 665) (by decide +kernel)⟩
theorem lw_p11 : lw_okq (⟨"RisingPiles$Orders", "readComeIn", "(LRisingPiles$Text;)Z"⟩, 5) := ⟨⟨by decide +kernel, by decide +kernel⟩, List.mem_of_getElem? (i := 149) (by decide +kernel), List.mem_of_getElem? (i := 672) (by decide +kernel), List.mem_of_getElem? (i := 673) (by decide +kernel)⟩
theorem lw_p12 : lw_okq (⟨"RisingPiles$Orders", "readNumber", "(LRisingPiles$Text;I)I"⟩, 5) := ⟨⟨by decide +kernel, by decide +kernel⟩, List.mem_of_getElem? (i := 149) (by decide +kernel), List.mem_of_getElem? (i := 677) (by decide +kernel), List.mem_of_getElem? (i := 678) (by decide +kernel)⟩
theorem lw_p13 : lw_okq (⟨"RisingPiles$Orders", "put", "(CII)Z"⟩, 5) := ⟨⟨by decide +kernel, by decide +kernel⟩, List.mem_of_getElem? (i := 149) (by decide +kernel), List.mem_of_getElem? (i := 684) (by decide +kernel), List.mem_of_getElem? (i := 685) (by decide +kernel)⟩
theorem lw_p14 : lw_okq (⟨"RisingPiles$Orders", "readComeOut", "()Z"⟩, 5) := ⟨⟨by decide +kernel, by decide +kernel⟩, List.mem_of_getElem? (i := 149) (by decide +kernel), List.mem_of_getElem? (i := 688) (by decide +kernel), List.mem_of_getElem? (i := 689) (by decide +kernel)⟩
theorem lw_p15 : lw_okq (⟨"RisingPiles$Orders", "readTakeBack", "(LRisingPiles$Text;)Z"⟩, 5) := ⟨⟨by decide +kernel, by decide +kernel⟩, List.mem_of_getElem? (i := 149) (by decide +kernel), List.mem_of_getElem? (i := 692) (by decide +kernel), List.mem_of_getElem? (i := 693) (by decide +kernel)⟩
def lw_privs_1 : List (MethodName × Nat) := [(⟨"RisingPiles", "recorded", "(I)I"⟩, 10), (⟨"RisingPiles$History", "dropOldest", "()V"⟩, 2), (⟨"RisingPiles$History", "stateAt", "(I)LRisingPiles$State;"⟩, 2), (⟨"RisingPiles$Piles", "has", "(I)Z"⟩, 8), (⟨"RisingPiles$Roads", "setLength", "(III)V"⟩, 2), (⟨"RisingPiles$Piles", "rankAt", "(I)I"⟩, 8), (⟨"RisingPiles$Search", "clear", "()V"⟩, 5), (⟨"RisingPiles$Search", "bringIn", "(II)V"⟩, 5), (⟨"RisingPiles$Search", "letOut", "(LRisingPiles$Roads;)V"⟩, 5), (⟨"RisingPiles$Search", "followRoads", "(IILRisingPiles$Roads;)V"⟩, 5), (⟨"RisingPiles$Orders", "readOrder", "(LRisingPiles$Text;)Z"⟩, 5), (⟨"RisingPiles$Orders", "readComeIn", "(LRisingPiles$Text;)Z"⟩, 5), (⟨"RisingPiles$Orders", "readNumber", "(LRisingPiles$Text;I)I"⟩, 5), (⟨"RisingPiles$Orders", "put", "(CII)Z"⟩, 5), (⟨"RisingPiles$Orders", "readComeOut", "()Z"⟩, 5), (⟨"RisingPiles$Orders", "readTakeBack", "(LRisingPiles$Text;)Z"⟩, 5)]
theorem lw_r1 : ∀ q ∈ lw_privs_1, lw_okq q := List.forall_mem_cons.mpr ⟨lw_p0, List.forall_mem_cons.mpr ⟨lw_p1, List.forall_mem_cons.mpr ⟨lw_p2, List.forall_mem_cons.mpr ⟨lw_p3, List.forall_mem_cons.mpr ⟨lw_p4, List.forall_mem_cons.mpr ⟨lw_p5, List.forall_mem_cons.mpr ⟨lw_p6, List.forall_mem_cons.mpr ⟨lw_p7, List.forall_mem_cons.mpr ⟨lw_p8, List.forall_mem_cons.mpr ⟨lw_p9, List.forall_mem_cons.mpr ⟨lw_p10, List.forall_mem_cons.mpr ⟨lw_p11, List.forall_mem_cons.mpr ⟨lw_p12, List.forall_mem_cons.mpr ⟨lw_p13, List.forall_mem_cons.mpr ⟨lw_p14, List.forall_mem_cons.mpr ⟨lw_p15, fun _ h => absurd h List.not_mem_nil⟩⟩⟩⟩⟩⟩⟩⟩⟩⟩⟩⟩⟩⟩⟩⟩
theorem lw_p16 : lw_okq (⟨"RisingPiles$Orders", "readMakeLess", "(LRisingPiles$Text;)Z"⟩, 5) := ⟨⟨by decide +kernel, by decide +kernel⟩, List.mem_of_getElem? (i := 149) (by decide +kernel), List.mem_of_getElem? (i := 696) (by decide +kernel), List.mem_of_getElem? (i := 697) (by decide +kernel)⟩
theorem lw_p17 : lw_okq (⟨"RisingPiles$Orders", "has", "(I)Z"⟩, 5) := ⟨⟨by decide +kernel, by decide +kernel⟩, List.mem_of_getElem? (i := 149) (by decide +kernel), List.mem_of_getElem? (i := 708) (by decide +kernel), List.mem_of_getElem? (i := 709) (by decide +kernel)⟩
def lw_privs_2 : List (MethodName × Nat) := [(⟨"RisingPiles$Orders", "readMakeLess", "(LRisingPiles$Text;)Z"⟩, 5), (⟨"RisingPiles$Orders", "has", "(I)Z"⟩, 5)]
theorem lw_r2 : ∀ q ∈ lw_privs_2, lw_okq q := List.forall_mem_cons.mpr ⟨lw_p16, List.forall_mem_cons.mpr ⟨lw_p17, fun _ h => absurd h List.not_mem_nil⟩⟩
def lw_privs : List (MethodName × Nat) := lw_privs_1 ++ (lw_privs_2)
def lw_tbl : List Cond := k2_sels lw_privs ++ tables_1
theorem lw_privs_ok : ∀ q ∈ lw_privs, lw_okq q := by
  show ∀ q ∈ lw_privs_1 ++ (lw_privs_2), lw_okq q
  exact List.forall_mem_append.mpr ⟨lw_r1, lw_r2⟩

def rz_tbl : List Cond := lw_tbl.filter goodWord
theorem rz_in {w : Cond} (h : w ∈ lw_tbl) (g : goodWord w = true) : w ∈ rz_tbl := List.mem_filter.mpr ⟨h, g⟩
theorem rz_goodIn {ws : List Cond} (h : ∀ w ∈ ws, w ∈ rz_tbl) : GoodIn rz_tbl ws := fun w hw => ⟨h w hw, good_of_word (List.mem_filter.mp (h w hw)).2⟩
-- names: the classes by number, their fields in the order of the slots, their types
def rz_R0 : String := "RisingPiles$History"
def rz_T0 : u_T := fun k => match k with
  | 0 => ("RisingPiles$History", "states", "[LRisingPiles$State;", true)
  | _ => ("RisingPiles$History", "held", "I", false)
def rz_ty0 : Nat → FieldType := fun k => match k with
  | 0 => .array (.object "RisingPiles$State")
  | _ => .int
theorem rz_nm0 : ∀ a, a < 2 → ∀ b, b < 2 → a ≠ b → (rz_T0 a).2.1 ≠ (rz_T0 b).2.1 := by decide +kernel
theorem rz_tok0 : ∀ k, k < 2 → parseFieldDescriptor (rz_T0 k).2.2.1 = some (rz_ty0 k) := by decide +kernel
theorem rz_lay0 : ∀ w ∈ u_ws rz_R0 rz_T0 2, w ∈ rz_tbl := by decide +kernel
def rz_R1 : String := "RisingPiles$Latest"
def rz_T1 : u_T := fun k => match k with
  | 0 => ("RisingPiles$Latest", "numbers", "[I", true)
  | 1 => ("RisingPiles$Latest", "keys", "[I", true)
  | 2 => ("RisingPiles$Latest", "values", "[I", true)
  | 3 => ("RisingPiles$Latest", "moves", "[I", true)
  | _ => ("RisingPiles$Latest", "held", "I", false)
def rz_ty1 : Nat → FieldType := fun k => match k with
  | 0 => .array .int
  | 1 => .array .int
  | 2 => .array .int
  | 3 => .array .int
  | _ => .int
theorem rz_nm1 : ∀ a, a < 5 → ∀ b, b < 5 → a ≠ b → (rz_T1 a).2.1 ≠ (rz_T1 b).2.1 := by decide +kernel
theorem rz_tok1 : ∀ k, k < 5 → parseFieldDescriptor (rz_T1 k).2.2.1 = some (rz_ty1 k) := by decide +kernel
theorem rz_lay1 : ∀ w ∈ u_ws rz_R1 rz_T1 5, w ∈ rz_tbl := by decide +kernel
def rz_R2 : String := "RisingPiles$Orders"
def rz_T2 : u_T := fun k => match k with
  | 0 => ("RisingPiles$Orders", "kinds", "[C", true)
  | 1 => ("RisingPiles$Orders", "firsts", "[I", true)
  | 2 => ("RisingPiles$Orders", "seconds", "[I", true)
  | 3 => ("RisingPiles$Orders", "held", "I", false)
  | _ => ("RisingPiles$Orders", "place", "I", false)
def rz_ty2 : Nat → FieldType := fun k => match k with
  | 0 => .array .char
  | 1 => .array .int
  | 2 => .array .int
  | 3 => .int
  | _ => .int
theorem rz_nm2 : ∀ a, a < 5 → ∀ b, b < 5 → a ≠ b → (rz_T2 a).2.1 ≠ (rz_T2 b).2.1 := by decide +kernel
theorem rz_tok2 : ∀ k, k < 5 → parseFieldDescriptor (rz_T2 k).2.2.1 = some (rz_ty2 k) := by decide +kernel
theorem rz_lay2 : ∀ w ∈ u_ws rz_R2 rz_T2 5, w ∈ rz_tbl := by decide +kernel
def rz_R3 : String := "RisingPiles$Piles"
def rz_T3 : u_T := fun k => match k with
  | 0 => ("RisingPiles$Piles", "numbers", "[I", true)
  | 1 => ("RisingPiles$Piles", "keys", "[I", true)
  | 2 => ("RisingPiles$Piles", "values", "[I", true)
  | 3 => ("RisingPiles$Piles", "moves", "[I", true)
  | 4 => ("RisingPiles$Piles", "piles", "[I", true)
  | 5 => ("RisingPiles$Piles", "held", "I", false)
  | 6 => ("RisingPiles$Piles", "floor", "I", false)
  | _ => ("RisingPiles$Piles", "allMoves", "I", false)
def rz_ty3 : Nat → FieldType := fun k => match k with
  | 0 => .array .int
  | 1 => .array .int
  | 2 => .array .int
  | 3 => .array .int
  | 4 => .array .int
  | 5 => .int
  | 6 => .int
  | _ => .int
theorem rz_nm3 : ∀ a, a < 8 → ∀ b, b < 8 → a ≠ b → (rz_T3 a).2.1 ≠ (rz_T3 b).2.1 := by decide +kernel
theorem rz_tok3 : ∀ k, k < 8 → parseFieldDescriptor (rz_T3 k).2.2.1 = some (rz_ty3 k) := by decide +kernel
theorem rz_lay3 : ∀ w ∈ u_ws rz_R3 rz_T3 8, w ∈ rz_tbl := by decide +kernel
def rz_R4 : String := "RisingPiles$Roads"
def rz_T4 : u_T := fun k => match k with
  | 0 => ("RisingPiles$Roads", "lengths", "[I", true)
  | _ => ("RisingPiles$Roads", "laid", "I", false)
def rz_ty4 : Nat → FieldType := fun k => match k with
  | 0 => .array .int
  | _ => .int
theorem rz_nm4 : ∀ a, a < 2 → ∀ b, b < 2 → a ≠ b → (rz_T4 a).2.1 ≠ (rz_T4 b).2.1 := by decide +kernel
theorem rz_tok4 : ∀ k, k < 2 → parseFieldDescriptor (rz_T4 k).2.2.1 = some (rz_ty4 k) := by decide +kernel
theorem rz_lay4 : ∀ w ∈ u_ws rz_R4 rz_T4 2, w ∈ rz_tbl := by decide +kernel
def rz_R5 : String := "RisingPiles$Search"
def rz_T5 : u_T := fun k => match k with
  | 0 => ("RisingPiles$Search", "piles", "LRisingPiles$Piles;", true)
  | 1 => ("RisingPiles$Search", "distances", "[I", true)
  | 2 => ("RisingPiles$Search", "townsDone", "I", false)
  | 3 => ("RisingPiles$Search", "cameIn", "I", false)
  | _ => ("RisingPiles$Search", "greatest", "I", false)
def rz_ty5 : Nat → FieldType := fun k => match k with
  | 0 => .object "RisingPiles$Piles"
  | 1 => .array .int
  | 2 => .int
  | 3 => .int
  | _ => .int
theorem rz_nm5 : ∀ a, a < 5 → ∀ b, b < 5 → a ≠ b → (rz_T5 a).2.1 ≠ (rz_T5 b).2.1 := by decide +kernel
theorem rz_tok5 : ∀ k, k < 5 → parseFieldDescriptor (rz_T5 k).2.2.1 = some (rz_ty5 k) := by decide +kernel
theorem rz_lay5 : ∀ w ∈ u_ws rz_R5 rz_T5 5, w ∈ rz_tbl := by decide +kernel
def rz_R6 : String := "RisingPiles$State"
def rz_T6 : u_T := fun k => match k with
  | 0 => ("RisingPiles$State", "piles", "LRisingPiles$Piles;", true)
  | 1 => ("RisingPiles$State", "latest", "LRisingPiles$Latest;", true)
  | 2 => ("RisingPiles$State", "roads", "LRisingPiles$Roads;", true)
  | 3 => ("RisingPiles$State", "cameIn", "I", false)
  | 4 => ("RisingPiles$State", "cameOut", "I", false)
  | _ => ("RisingPiles$State", "takenBack", "I", false)
def rz_ty6 : Nat → FieldType := fun k => match k with
  | 0 => .object "RisingPiles$Piles"
  | 1 => .object "RisingPiles$Latest"
  | 2 => .object "RisingPiles$Roads"
  | 3 => .int
  | 4 => .int
  | _ => .int
theorem rz_nm6 : ∀ a, a < 6 → ∀ b, b < 6 → a ≠ b → (rz_T6 a).2.1 ≠ (rz_T6 b).2.1 := by decide +kernel
theorem rz_tok6 : ∀ k, k < 6 → parseFieldDescriptor (rz_T6 k).2.2.1 = some (rz_ty6 k) := by decide +kernel
theorem rz_lay6 : ∀ w ∈ u_ws rz_R6 rz_T6 6, w ∈ rz_tbl := by decide +kernel
def rz_R7 : String := "RisingPiles$Text"
def rz_T7 : u_T := fun k => match k with
  | 0 => ("RisingPiles$Text", "signs", "[C", true)
  | _ => ("RisingPiles$Text", "length", "I", false)
def rz_ty7 : Nat → FieldType := fun k => match k with
  | 0 => .array .char
  | _ => .int
theorem rz_nm7 : ∀ a, a < 2 → ∀ b, b < 2 → a ≠ b → (rz_T7 a).2.1 ≠ (rz_T7 b).2.1 := by decide +kernel
theorem rz_tok7 : ∀ k, k < 2 → parseFieldDescriptor (rz_T7 k).2.2.1 = some (rz_ty7 k) := by decide +kernel
theorem rz_lay7 : ∀ w ∈ u_ws rz_R7 rz_T7 2, w ∈ rz_tbl := by decide +kernel
def rz_R8 : String := "RisingPiles"
def rz_T8 : u_T := fun k => match k with
  | 0 => ("RisingPiles", "now", "LRisingPiles$State;", true)
  | 1 => ("RisingPiles", "before", "LRisingPiles$State;", true)
  | 2 => ("RisingPiles", "snapshot", "LRisingPiles$State;", true)
  | 3 => ("RisingPiles", "history", "LRisingPiles$History;", true)
  | 4 => ("RisingPiles", "text", "LRisingPiles$Text;", true)
  | 5 => ("RisingPiles", "orders", "LRisingPiles$Orders;", true)
  | 6 => ("RisingPiles", "ways", "LRisingPiles$Search;", true)
  | 7 => ("RisingPiles", "snapshotTaken", "Z", false)
  | 8 => ("RisingPiles", "refusedOrder", "I", false)
  | _ => ("RisingPiles", "refusedError", "I", false)
def rz_ty8 : Nat → FieldType := fun k => match k with
  | 0 => .object "RisingPiles$State"
  | 1 => .object "RisingPiles$State"
  | 2 => .object "RisingPiles$State"
  | 3 => .object "RisingPiles$History"
  | 4 => .object "RisingPiles$Text"
  | 5 => .object "RisingPiles$Orders"
  | 6 => .object "RisingPiles$Search"
  | 7 => .boolean
  | 8 => .int
  | _ => .int
theorem rz_nm8 : ∀ a, a < 10 → ∀ b, b < 10 → a ≠ b → (rz_T8 a).2.1 ≠ (rz_T8 b).2.1 := by decide +kernel
theorem rz_tok8 : ∀ k, k < 10 → parseFieldDescriptor (rz_T8 k).2.2.1 = some (rz_ty8 k) := by decide +kernel
theorem rz_lay8 : ∀ w ∈ u_ws rz_R8 rz_T8 10, w ∈ rz_tbl := by decide +kernel
def rz_R9 : String := "RisingPilesLaw"
def rz_T9 : u_T := fun _ => ("", "", "", false)
def rz_ty9 : Nat → FieldType := fun _ => .int
abbrev rz_cls : List vw_C := [(rz_R0, rz_T0, 2), (rz_R1, rz_T1, 5), (rz_R2, rz_T2, 5), (rz_R3, rz_T3, 8), (rz_R4, rz_T4, 2), (rz_R5, rz_T5, 5), (rz_R6, rz_T6, 6), (rz_R7, rz_T7, 2), (rz_R8, rz_T8, 10)]
def rz_R : Nat → String := fun k => match k with
  | 0 => rz_R0
  | 1 => rz_R1
  | 2 => rz_R2
  | 3 => rz_R3
  | 4 => rz_R4
  | 5 => rz_R5
  | 6 => rz_R6
  | 7 => rz_R7
  | 8 => rz_R8
  | 9 => rz_R9
  | _ => ""
def rz_T : Nat → u_T := fun k => match k with
  | 0 => rz_T0
  | 1 => rz_T1
  | 2 => rz_T2
  | 3 => rz_T3
  | 4 => rz_T4
  | 5 => rz_T5
  | 6 => rz_T6
  | 7 => rz_T7
  | 8 => rz_T8
  | 9 => rz_T9
  | _ => rz_T0
def rz_N : Nat → Nat := fun k => match k with
  | 0 => 2
  | 1 => 5
  | 2 => 5
  | 3 => 8
  | 4 => 2
  | 5 => 5
  | 6 => 6
  | 7 => 2
  | 8 => 10
  | 9 => 0
  | _ => 0
def rz_ty : Nat → (Nat → FieldType) := fun k => match k with
  | 0 => rz_ty0
  | 1 => rz_ty1
  | 2 => rz_ty2
  | 3 => rz_ty3
  | 4 => rz_ty4
  | 5 => rz_ty5
  | 6 => rz_ty6
  | 7 => rz_ty7
  | 8 => rz_ty8
  | 9 => rz_ty9
  | _ => (fun _ => .int)
-- methods by number
-- 0 RisingPiles$History.<init>()V
-- 1 RisingPiles$History.size()I
-- 2 RisingPiles$History.stateAt(I)LRisingPiles$State;
-- 3 RisingPiles$History.put(LRisingPiles$State;)V
-- 4 RisingPiles$History.dropOldest()V
-- 5 RisingPiles$History.giveLatestTo(LRisingPiles$State;)I
-- 6 RisingPiles$Latest.<init>()V
-- 7 RisingPiles$Latest.copyFrom(LRisingPiles$Latest;)V
-- 8 RisingPiles$Latest.put(IIII)V
-- 9 RisingPiles$Latest.putFirst([II)V
-- 10 RisingPiles$Latest.tell(II)I
-- 11 RisingPiles$Orders.<init>()V
-- 12 RisingPiles$Orders.size()I
-- 13 RisingPiles$Orders.has(I)Z
-- 14 RisingPiles$Orders.kindAt(I)I
-- 15 RisingPiles$Orders.firstAt(I)I
-- 16 RisingPiles$Orders.secondAt(I)I
-- 17 RisingPiles$Orders.readFrom(LRisingPiles$Text;)I
-- 18 RisingPiles$Orders.readOrder(LRisingPiles$Text;)Z
-- 19 RisingPiles$Orders.readComeIn(LRisingPiles$Text;)Z
-- 20 RisingPiles$Orders.readComeOut()Z
-- 21 RisingPiles$Orders.readTakeBack(LRisingPiles$Text;)Z
-- 22 RisingPiles$Orders.readMakeLess(LRisingPiles$Text;)Z
-- 23 RisingPiles$Orders.readNumber(LRisingPiles$Text;I)I
-- 24 RisingPiles$Orders.withDigit(II)I
-- 25 RisingPiles$Orders.put(CII)Z
-- 26 RisingPiles$Piles.<init>()V
-- 27 RisingPiles$Piles.copyFrom(LRisingPiles$Piles;)V
-- 28 RisingPiles$Piles.clear()V
-- 29 RisingPiles$Piles.size()I
-- 30 RisingPiles$Piles.floor()I
-- 31 RisingPiles$Piles.allMoves()I
-- 32 RisingPiles$Piles.isFull()Z
-- 33 RisingPiles$Piles.has(I)Z
-- 34 RisingPiles$Piles.numberAt(I)I
-- 35 RisingPiles$Piles.keyAt(I)I
-- 36 RisingPiles$Piles.valueAt(I)I
-- 37 RisingPiles$Piles.movesAt(I)I
-- 38 RisingPiles$Piles.pileAt(I)I
-- 39 RisingPiles$Piles.placeAt(I)I
-- 40 RisingPiles$Piles.indexOf(I)I
-- 41 RisingPiles$Piles.append(IIII)V
-- 42 RisingPiles$Piles.removeAt(I)V
-- 43 RisingPiles$Piles.pileFor(I)I
-- 44 RisingPiles$Piles.lessenAt(II)I
-- 45 RisingPiles$Piles.indexOfNext()I
-- 46 RisingPiles$Piles.indexOfRank(I)I
-- 47 RisingPiles$Piles.rankAt(I)I
-- 48 RisingPiles$Piles.movesToReach(I)I
-- 49 RisingPiles$Piles.reach(I)V
-- 50 RisingPiles$Piles.sizeOf(I)I
-- 51 RisingPiles$Piles.leastKeyOf(I)I
-- 52 RisingPiles$Piles.greatestKeyOf(I)I
-- 53 RisingPiles$Piles.frontOf(I)I
-- 54 RisingPiles$Piles.sumOfPiles()I
-- 55 RisingPiles$Piles.pilesInUse()I
-- 56 RisingPiles$Roads.<init>()V
-- 57 RisingPiles$Roads.copyFrom(LRisingPiles$Roads;)V
-- 58 RisingPiles$Roads.size()I
-- 59 RisingPiles$Roads.lengthOf(II)I
-- 60 RisingPiles$Roads.setLength(III)V
-- 61 RisingPiles$Roads.lay(III)I
-- 62 RisingPiles$Roads.remove(II)I
-- 63 RisingPiles$Search.<init>()V
-- 64 RisingPiles$Search.townsDone()I
-- 65 RisingPiles$Search.cameIn()I
-- 66 RisingPiles$Search.moves()I
-- 67 RisingPiles$Search.greatestDistance()I
-- 68 RisingPiles$Search.distanceOf(I)I
-- 69 RisingPiles$Search.findFrom(ILRisingPiles$Roads;)V
-- 70 RisingPiles$Search.clear()V
-- 71 RisingPiles$Search.bringIn(II)V
-- 72 RisingPiles$Search.letOut(LRisingPiles$Roads;)V
-- 73 RisingPiles$Search.followRoads(IILRisingPiles$Roads;)V
-- 74 RisingPiles$State.<init>()V
-- 75 RisingPiles$State.copyFrom(LRisingPiles$State;)V
-- 76 RisingPiles$State.bringIn(II)I
-- 77 RisingPiles$State.letOut()I
-- 78 RisingPiles$State.letOutUpTo(I)I
-- 79 RisingPiles$State.makeLess(II)I
-- 80 RisingPiles$State.giveBack(I)I
-- 81 RisingPiles$State.carryOut(III)I
-- 82 RisingPiles$Text.<init>()V
-- 83 RisingPiles$Text.size()I
-- 84 RisingPiles$Text.append(C)I
-- 85 RisingPiles$Text.clear()I
-- 86 RisingPiles$Text.signAt(I)I
-- 87 RisingPiles.<init>()V
-- 88 RisingPiles.comeIn(II)I
-- 89 RisingPiles.comeOut()I
-- 90 RisingPiles.comeOutUpTo(I)I
-- 91 RisingPiles.less(II)I
-- 92 RisingPiles.takeBack(I)I
-- 93 RisingPiles.road(III)I
-- 94 RisingPiles.unroad(II)I
-- 95 RisingPiles.type(C)I
-- 96 RisingPiles.clearText()I
-- 97 RisingPiles.perform()I
-- 98 RisingPiles.refusal(I)I
-- 99 RisingPiles.undo()I
-- 100 RisingPiles.keep()I
-- 101 RisingPiles.restore()I
-- 102 RisingPiles.entry(II)I
-- 103 RisingPiles.pile(II)I
-- 104 RisingPiles.next(I)I
-- 105 RisingPiles.ranked(I)I
-- 106 RisingPiles.movesLeft()I
-- 107 RisingPiles.out(II)I
-- 108 RisingPiles.roadOf(II)I
-- 109 RisingPiles.distance(II)I
-- 110 RisingPiles.search(II)I
-- 111 RisingPiles.count(I)I
-- 112 RisingPiles.recorded(I)I
-- 113 RisingPiles.isError(I)Z
-- 114 RisingPiles.isKey(I)Z
-- 115 RisingPiles.isTown(I)Z
-- 116 RisingPiles.copyRow([I[I)V
-- 117 RisingPilesLaw.part(II)I
-- 118 RisingPilesLaw.drawn([II)I
-- 119 RisingPilesLaw.seen(LRisingPiles;)J
-- 120 RisingPilesLaw.refusesAny(LRisingPiles;I)Z
-- 121 RisingPilesLaw.refused(LRisingPiles;)Z
-- 122 RisingPilesLaw.piles()Z
-- 123 RisingPilesLaw.ways()Z
-- 124 RisingPilesLaw.types(LRisingPiles;J)Z
-- 125 RisingPilesLaw.faultOf(JJ)I
-- 126 RisingPilesLaw.texts()Z
-- 127 RisingPilesLaw.law([I)Z
def rz_B : Nat → ByteArray := fun k => match k with
  | 0 => prog_2_method_1_code
  | 1 => prog_2_method_2_code
  | 2 => prog_2_method_3_code
  | 3 => prog_2_method_4_code
  | 4 => prog_2_method_5_code
  | 5 => prog_2_method_6_code
  | 6 => prog_3_method_1_code
  | 7 => prog_3_method_2_code
  | 8 => prog_3_method_3_code
  | 9 => prog_3_method_4_code
  | 10 => prog_3_method_5_code
  | 11 => prog_4_method_1_code
  | 12 => prog_4_method_2_code
  | 13 => prog_4_method_3_code
  | 14 => prog_4_method_4_code
  | 15 => prog_4_method_5_code
  | 16 => prog_4_method_6_code
  | 17 => prog_4_method_7_code
  | 18 => prog_4_method_8_code
  | 19 => prog_4_method_9_code
  | 20 => prog_4_method_10_code
  | 21 => prog_4_method_11_code
  | 22 => prog_4_method_12_code
  | 23 => prog_4_method_13_code
  | 24 => prog_4_method_14_code
  | 25 => prog_4_method_15_code
  | 26 => prog_5_method_1_code
  | 27 => prog_5_method_2_code
  | 28 => prog_5_method_3_code
  | 29 => prog_5_method_4_code
  | 30 => prog_5_method_5_code
  | 31 => prog_5_method_6_code
  | 32 => prog_5_method_7_code
  | 33 => prog_5_method_8_code
  | 34 => prog_5_method_9_code
  | 35 => prog_5_method_10_code
  | 36 => prog_5_method_11_code
  | 37 => prog_5_method_12_code
  | 38 => prog_5_method_13_code
  | 39 => prog_5_method_14_code
  | 40 => prog_5_method_15_code
  | 41 => prog_5_method_16_code
  | 42 => prog_5_method_17_code
  | 43 => prog_5_method_18_code
  | 44 => prog_5_method_19_code
  | 45 => prog_5_method_20_code
  | 46 => prog_5_method_21_code
  | 47 => prog_5_method_22_code
  | 48 => prog_5_method_23_code
  | 49 => prog_5_method_24_code
  | 50 => prog_5_method_25_code
  | 51 => prog_5_method_26_code
  | 52 => prog_5_method_27_code
  | 53 => prog_5_method_28_code
  | 54 => prog_5_method_29_code
  | 55 => prog_5_method_30_code
  | 56 => prog_6_method_1_code
  | 57 => prog_6_method_2_code
  | 58 => prog_6_method_3_code
  | 59 => prog_6_method_4_code
  | 60 => prog_6_method_5_code
  | 61 => prog_6_method_6_code
  | 62 => prog_6_method_7_code
  | 63 => prog_7_method_1_code
  | 64 => prog_7_method_2_code
  | 65 => prog_7_method_3_code
  | 66 => prog_7_method_4_code
  | 67 => prog_7_method_5_code
  | 68 => prog_7_method_6_code
  | 69 => prog_7_method_7_code
  | 70 => prog_7_method_8_code
  | 71 => prog_7_method_9_code
  | 72 => prog_7_method_10_code
  | 73 => prog_7_method_11_code
  | 74 => prog_8_method_1_code
  | 75 => prog_8_method_2_code
  | 76 => prog_8_method_3_code
  | 77 => prog_8_method_4_code
  | 78 => prog_8_method_5_code
  | 79 => prog_8_method_6_code
  | 80 => prog_8_method_7_code
  | 81 => prog_8_method_8_code
  | 82 => prog_9_method_1_code
  | 83 => prog_9_method_2_code
  | 84 => prog_9_method_3_code
  | 85 => prog_9_method_4_code
  | 86 => prog_9_method_5_code
  | 87 => prog_1_method_1_code
  | 88 => prog_1_method_2_code
  | 89 => prog_1_method_3_code
  | 90 => prog_1_method_4_code
  | 91 => prog_1_method_5_code
  | 92 => prog_1_method_6_code
  | 93 => prog_1_method_7_code
  | 94 => prog_1_method_8_code
  | 95 => prog_1_method_9_code
  | 96 => prog_1_method_10_code
  | 97 => prog_1_method_11_code
  | 98 => prog_1_method_12_code
  | 99 => prog_1_method_13_code
  | 100 => prog_1_method_14_code
  | 101 => prog_1_method_15_code
  | 102 => prog_1_method_16_code
  | 103 => prog_1_method_17_code
  | 104 => prog_1_method_18_code
  | 105 => prog_1_method_19_code
  | 106 => prog_1_method_20_code
  | 107 => prog_1_method_21_code
  | 108 => prog_1_method_22_code
  | 109 => prog_1_method_23_code
  | 110 => prog_1_method_24_code
  | 111 => prog_1_method_25_code
  | 112 => prog_1_method_26_code
  | 113 => prog_1_method_27_code
  | 114 => prog_1_method_28_code
  | 115 => prog_1_method_29_code
  | 116 => prog_1_method_30_code
  | 117 => method_2_code
  | 118 => method_3_code
  | 119 => method_4_code
  | 120 => method_5_code
  | 121 => method_6_code
  | 122 => method_7_code
  | 123 => method_8_code
  | 124 => method_9_code
  | 125 => method_10_code
  | 126 => method_11_code
  | 127 => code
  | _ => ⟨#[]⟩
def rz_Y : Nat → MethodName := fun k => match k with
  | 0 => ⟨rz_R0, "<init>", "()V"⟩
  | 1 => ⟨rz_R0, "size", "()I"⟩
  | 2 => ⟨rz_R0, "stateAt", "(I)LRisingPiles$State;"⟩
  | 3 => ⟨rz_R0, "put", "(LRisingPiles$State;)V"⟩
  | 4 => ⟨rz_R0, "dropOldest", "()V"⟩
  | 5 => ⟨rz_R0, "giveLatestTo", "(LRisingPiles$State;)I"⟩
  | 6 => ⟨rz_R1, "<init>", "()V"⟩
  | 7 => ⟨rz_R1, "copyFrom", "(LRisingPiles$Latest;)V"⟩
  | 8 => ⟨rz_R1, "put", "(IIII)V"⟩
  | 9 => ⟨rz_R1, "putFirst", "([II)V"⟩
  | 10 => ⟨rz_R1, "tell", "(II)I"⟩
  | 11 => ⟨rz_R2, "<init>", "()V"⟩
  | 12 => ⟨rz_R2, "size", "()I"⟩
  | 13 => ⟨rz_R2, "has", "(I)Z"⟩
  | 14 => ⟨rz_R2, "kindAt", "(I)I"⟩
  | 15 => ⟨rz_R2, "firstAt", "(I)I"⟩
  | 16 => ⟨rz_R2, "secondAt", "(I)I"⟩
  | 17 => ⟨rz_R2, "readFrom", "(LRisingPiles$Text;)I"⟩
  | 18 => ⟨rz_R2, "readOrder", "(LRisingPiles$Text;)Z"⟩
  | 19 => ⟨rz_R2, "readComeIn", "(LRisingPiles$Text;)Z"⟩
  | 20 => ⟨rz_R2, "readComeOut", "()Z"⟩
  | 21 => ⟨rz_R2, "readTakeBack", "(LRisingPiles$Text;)Z"⟩
  | 22 => ⟨rz_R2, "readMakeLess", "(LRisingPiles$Text;)Z"⟩
  | 23 => ⟨rz_R2, "readNumber", "(LRisingPiles$Text;I)I"⟩
  | 24 => ⟨rz_R2, "withDigit", "(II)I"⟩
  | 25 => ⟨rz_R2, "put", "(CII)Z"⟩
  | 26 => ⟨rz_R3, "<init>", "()V"⟩
  | 27 => ⟨rz_R3, "copyFrom", "(LRisingPiles$Piles;)V"⟩
  | 28 => ⟨rz_R3, "clear", "()V"⟩
  | 29 => ⟨rz_R3, "size", "()I"⟩
  | 30 => ⟨rz_R3, "floor", "()I"⟩
  | 31 => ⟨rz_R3, "allMoves", "()I"⟩
  | 32 => ⟨rz_R3, "isFull", "()Z"⟩
  | 33 => ⟨rz_R3, "has", "(I)Z"⟩
  | 34 => ⟨rz_R3, "numberAt", "(I)I"⟩
  | 35 => ⟨rz_R3, "keyAt", "(I)I"⟩
  | 36 => ⟨rz_R3, "valueAt", "(I)I"⟩
  | 37 => ⟨rz_R3, "movesAt", "(I)I"⟩
  | 38 => ⟨rz_R3, "pileAt", "(I)I"⟩
  | 39 => ⟨rz_R3, "placeAt", "(I)I"⟩
  | 40 => ⟨rz_R3, "indexOf", "(I)I"⟩
  | 41 => ⟨rz_R3, "append", "(IIII)V"⟩
  | 42 => ⟨rz_R3, "removeAt", "(I)V"⟩
  | 43 => ⟨rz_R3, "pileFor", "(I)I"⟩
  | 44 => ⟨rz_R3, "lessenAt", "(II)I"⟩
  | 45 => ⟨rz_R3, "indexOfNext", "()I"⟩
  | 46 => ⟨rz_R3, "indexOfRank", "(I)I"⟩
  | 47 => ⟨rz_R3, "rankAt", "(I)I"⟩
  | 48 => ⟨rz_R3, "movesToReach", "(I)I"⟩
  | 49 => ⟨rz_R3, "reach", "(I)V"⟩
  | 50 => ⟨rz_R3, "sizeOf", "(I)I"⟩
  | 51 => ⟨rz_R3, "leastKeyOf", "(I)I"⟩
  | 52 => ⟨rz_R3, "greatestKeyOf", "(I)I"⟩
  | 53 => ⟨rz_R3, "frontOf", "(I)I"⟩
  | 54 => ⟨rz_R3, "sumOfPiles", "()I"⟩
  | 55 => ⟨rz_R3, "pilesInUse", "()I"⟩
  | 56 => ⟨rz_R4, "<init>", "()V"⟩
  | 57 => ⟨rz_R4, "copyFrom", "(LRisingPiles$Roads;)V"⟩
  | 58 => ⟨rz_R4, "size", "()I"⟩
  | 59 => ⟨rz_R4, "lengthOf", "(II)I"⟩
  | 60 => ⟨rz_R4, "setLength", "(III)V"⟩
  | 61 => ⟨rz_R4, "lay", "(III)I"⟩
  | 62 => ⟨rz_R4, "remove", "(II)I"⟩
  | 63 => ⟨rz_R5, "<init>", "()V"⟩
  | 64 => ⟨rz_R5, "townsDone", "()I"⟩
  | 65 => ⟨rz_R5, "cameIn", "()I"⟩
  | 66 => ⟨rz_R5, "moves", "()I"⟩
  | 67 => ⟨rz_R5, "greatestDistance", "()I"⟩
  | 68 => ⟨rz_R5, "distanceOf", "(I)I"⟩
  | 69 => ⟨rz_R5, "findFrom", "(ILRisingPiles$Roads;)V"⟩
  | 70 => ⟨rz_R5, "clear", "()V"⟩
  | 71 => ⟨rz_R5, "bringIn", "(II)V"⟩
  | 72 => ⟨rz_R5, "letOut", "(LRisingPiles$Roads;)V"⟩
  | 73 => ⟨rz_R5, "followRoads", "(IILRisingPiles$Roads;)V"⟩
  | 74 => ⟨rz_R6, "<init>", "()V"⟩
  | 75 => ⟨rz_R6, "copyFrom", "(LRisingPiles$State;)V"⟩
  | 76 => ⟨rz_R6, "bringIn", "(II)I"⟩
  | 77 => ⟨rz_R6, "letOut", "()I"⟩
  | 78 => ⟨rz_R6, "letOutUpTo", "(I)I"⟩
  | 79 => ⟨rz_R6, "makeLess", "(II)I"⟩
  | 80 => ⟨rz_R6, "giveBack", "(I)I"⟩
  | 81 => ⟨rz_R6, "carryOut", "(III)I"⟩
  | 82 => ⟨rz_R7, "<init>", "()V"⟩
  | 83 => ⟨rz_R7, "size", "()I"⟩
  | 84 => ⟨rz_R7, "append", "(C)I"⟩
  | 85 => ⟨rz_R7, "clear", "()I"⟩
  | 86 => ⟨rz_R7, "signAt", "(I)I"⟩
  | 87 => ⟨rz_R8, "<init>", "()V"⟩
  | 88 => ⟨rz_R8, "comeIn", "(II)I"⟩
  | 89 => ⟨rz_R8, "comeOut", "()I"⟩
  | 90 => ⟨rz_R8, "comeOutUpTo", "(I)I"⟩
  | 91 => ⟨rz_R8, "less", "(II)I"⟩
  | 92 => ⟨rz_R8, "takeBack", "(I)I"⟩
  | 93 => ⟨rz_R8, "road", "(III)I"⟩
  | 94 => ⟨rz_R8, "unroad", "(II)I"⟩
  | 95 => ⟨rz_R8, "type", "(C)I"⟩
  | 96 => ⟨rz_R8, "clearText", "()I"⟩
  | 97 => ⟨rz_R8, "perform", "()I"⟩
  | 98 => ⟨rz_R8, "refusal", "(I)I"⟩
  | 99 => ⟨rz_R8, "undo", "()I"⟩
  | 100 => ⟨rz_R8, "keep", "()I"⟩
  | 101 => ⟨rz_R8, "restore", "()I"⟩
  | 102 => ⟨rz_R8, "entry", "(II)I"⟩
  | 103 => ⟨rz_R8, "pile", "(II)I"⟩
  | 104 => ⟨rz_R8, "next", "(I)I"⟩
  | 105 => ⟨rz_R8, "ranked", "(I)I"⟩
  | 106 => ⟨rz_R8, "movesLeft", "()I"⟩
  | 107 => ⟨rz_R8, "out", "(II)I"⟩
  | 108 => ⟨rz_R8, "roadOf", "(II)I"⟩
  | 109 => ⟨rz_R8, "distance", "(II)I"⟩
  | 110 => ⟨rz_R8, "search", "(II)I"⟩
  | 111 => ⟨rz_R8, "count", "(I)I"⟩
  | 112 => ⟨rz_R8, "recorded", "(I)I"⟩
  | 113 => ⟨rz_R8, "isError", "(I)Z"⟩
  | 114 => ⟨rz_R8, "isKey", "(I)Z"⟩
  | 115 => ⟨rz_R8, "isTown", "(I)Z"⟩
  | 116 => ⟨rz_R8, "copyRow", "([I[I)V"⟩
  | 117 => ⟨rz_R9, "part", "(II)I"⟩
  | 118 => ⟨rz_R9, "drawn", "([II)I"⟩
  | 119 => ⟨rz_R9, "seen", "(LRisingPiles;)J"⟩
  | 120 => ⟨rz_R9, "refusesAny", "(LRisingPiles;I)Z"⟩
  | 121 => ⟨rz_R9, "refused", "(LRisingPiles;)Z"⟩
  | 122 => ⟨rz_R9, "piles", "()Z"⟩
  | 123 => ⟨rz_R9, "ways", "()Z"⟩
  | 124 => ⟨rz_R9, "types", "(LRisingPiles;J)Z"⟩
  | 125 => ⟨rz_R9, "faultOf", "(JJ)I"⟩
  | 126 => ⟨rz_R9, "texts", "()Z"⟩
  | 127 => ⟨rz_R9, "law", "([I)Z"⟩
  | _ => ⟨"", "", ""⟩
def rz_K : Nat → Nat := fun k => match k with
  | 0 => 0
  | 1 => 0
  | 2 => 0
  | 3 => 0
  | 4 => 0
  | 5 => 0
  | 6 => 1
  | 7 => 1
  | 8 => 1
  | 9 => 1
  | 10 => 1
  | 11 => 2
  | 12 => 2
  | 13 => 2
  | 14 => 2
  | 15 => 2
  | 16 => 2
  | 17 => 2
  | 18 => 2
  | 19 => 2
  | 20 => 2
  | 21 => 2
  | 22 => 2
  | 23 => 2
  | 24 => 2
  | 25 => 2
  | 26 => 3
  | 27 => 3
  | 28 => 3
  | 29 => 3
  | 30 => 3
  | 31 => 3
  | 32 => 3
  | 33 => 3
  | 34 => 3
  | 35 => 3
  | 36 => 3
  | 37 => 3
  | 38 => 3
  | 39 => 3
  | 40 => 3
  | 41 => 3
  | 42 => 3
  | 43 => 3
  | 44 => 3
  | 45 => 3
  | 46 => 3
  | 47 => 3
  | 48 => 3
  | 49 => 3
  | 50 => 3
  | 51 => 3
  | 52 => 3
  | 53 => 3
  | 54 => 3
  | 55 => 3
  | 56 => 4
  | 57 => 4
  | 58 => 4
  | 59 => 4
  | 60 => 4
  | 61 => 4
  | 62 => 4
  | 63 => 5
  | 64 => 5
  | 65 => 5
  | 66 => 5
  | 67 => 5
  | 68 => 5
  | 69 => 5
  | 70 => 5
  | 71 => 5
  | 72 => 5
  | 73 => 5
  | 74 => 6
  | 75 => 6
  | 76 => 6
  | 77 => 6
  | 78 => 6
  | 79 => 6
  | 80 => 6
  | 81 => 6
  | 82 => 7
  | 83 => 7
  | 84 => 7
  | 85 => 7
  | 86 => 7
  | 87 => 8
  | 88 => 8
  | 89 => 8
  | 90 => 8
  | 91 => 8
  | 92 => 8
  | 93 => 8
  | 94 => 8
  | 95 => 8
  | 96 => 8
  | 97 => 8
  | 98 => 8
  | 99 => 8
  | 100 => 8
  | 101 => 8
  | 102 => 8
  | 103 => 8
  | 104 => 8
  | 105 => 8
  | 106 => 8
  | 107 => 8
  | 108 => 8
  | 109 => 8
  | 110 => 8
  | 111 => 8
  | 112 => 8
  | 113 => 8
  | 114 => 8
  | 115 => 8
  | 116 => 8
  | 117 => 9
  | 118 => 9
  | 119 => 9
  | 120 => 9
  | 121 => 9
  | 122 => 9
  | 123 => 9
  | 124 => 9
  | 125 => 9
  | 126 => 9
  | 127 => 9
  | _ => 0
def rz_ML : Nat → Nat := fun k => match k with
  | 0 => 2
  | 1 => 1
  | 2 => 2
  | 3 => 3
  | 4 => 3
  | 5 => 3
  | 6 => 1
  | 7 => 2
  | 8 => 5
  | 9 => 2
  | 10 => 3
  | 11 => 1
  | 12 => 1
  | 13 => 2
  | 14 => 2
  | 15 => 2
  | 16 => 2
  | 17 => 3
  | 18 => 3
  | 19 => 4
  | 20 => 1
  | 21 => 3
  | 22 => 4
  | 23 => 6
  | 24 => 3
  | 25 => 4
  | 26 => 1
  | 27 => 2
  | 28 => 1
  | 29 => 1
  | 30 => 1
  | 31 => 1
  | 32 => 1
  | 33 => 2
  | 34 => 2
  | 35 => 2
  | 36 => 2
  | 37 => 2
  | 38 => 2
  | 39 => 4
  | 40 => 3
  | 41 => 5
  | 42 => 3
  | 43 => 5
  | 44 => 7
  | 45 => 3
  | 46 => 3
  | 47 => 6
  | 48 => 3
  | 49 => 4
  | 50 => 4
  | 51 => 4
  | 52 => 4
  | 53 => 3
  | 54 => 3
  | 55 => 3
  | 56 => 2
  | 57 => 2
  | 58 => 1
  | 59 => 3
  | 60 => 4
  | 61 => 5
  | 62 => 4
  | 63 => 1
  | 64 => 1
  | 65 => 1
  | 66 => 1
  | 67 => 1
  | 68 => 2
  | 69 => 4
  | 70 => 2
  | 71 => 3
  | 72 => 5
  | 73 => 6
  | 74 => 1
  | 75 => 2
  | 76 => 4
  | 77 => 3
  | 78 => 5
  | 79 => 5
  | 80 => 4
  | 81 => 4
  | 82 => 1
  | 83 => 1
  | 84 => 2
  | 85 => 2
  | 86 => 2
  | 87 => 1
  | 88 => 3
  | 89 => 1
  | 90 => 2
  | 91 => 3
  | 92 => 2
  | 93 => 4
  | 94 => 3
  | 95 => 2
  | 96 => 1
  | 97 => 4
  | 98 => 2
  | 99 => 1
  | 100 => 1
  | 101 => 1
  | 102 => 4
  | 103 => 3
  | 104 => 3
  | 105 => 3
  | 106 => 1
  | 107 => 3
  | 108 => 3
  | 109 => 3
  | 110 => 3
  | 111 => 2
  | 112 => 2
  | 113 => 1
  | 114 => 1
  | 115 => 1
  | 116 => 2
  | 117 => 2
  | 118 => 2
  | 119 => 4
  | 120 => 5
  | 121 => 4
  | 122 => 3
  | 123 => 3
  | 124 => 6
  | 125 => 6
  | 126 => 2
  | 127 => 11
  | _ => 0
def rz_RT : Nat → Option FieldType := fun k => match k with
  | 0 => none
  | 1 => some .int
  | 2 => some (.object "RisingPiles$State")
  | 3 => none
  | 4 => none
  | 5 => some .int
  | 6 => none
  | 7 => none
  | 8 => none
  | 9 => none
  | 10 => some .int
  | 11 => none
  | 12 => some .int
  | 13 => some .boolean
  | 14 => some .int
  | 15 => some .int
  | 16 => some .int
  | 17 => some .int
  | 18 => some .boolean
  | 19 => some .boolean
  | 20 => some .boolean
  | 21 => some .boolean
  | 22 => some .boolean
  | 23 => some .int
  | 24 => some .int
  | 25 => some .boolean
  | 26 => none
  | 27 => none
  | 28 => none
  | 29 => some .int
  | 30 => some .int
  | 31 => some .int
  | 32 => some .boolean
  | 33 => some .boolean
  | 34 => some .int
  | 35 => some .int
  | 36 => some .int
  | 37 => some .int
  | 38 => some .int
  | 39 => some .int
  | 40 => some .int
  | 41 => none
  | 42 => none
  | 43 => some .int
  | 44 => some .int
  | 45 => some .int
  | 46 => some .int
  | 47 => some .int
  | 48 => some .int
  | 49 => none
  | 50 => some .int
  | 51 => some .int
  | 52 => some .int
  | 53 => some .int
  | 54 => some .int
  | 55 => some .int
  | 56 => none
  | 57 => none
  | 58 => some .int
  | 59 => some .int
  | 60 => none
  | 61 => some .int
  | 62 => some .int
  | 63 => none
  | 64 => some .int
  | 65 => some .int
  | 66 => some .int
  | 67 => some .int
  | 68 => some .int
  | 69 => none
  | 70 => none
  | 71 => none
  | 72 => none
  | 73 => none
  | 74 => none
  | 75 => none
  | 76 => some .int
  | 77 => some .int
  | 78 => some .int
  | 79 => some .int
  | 80 => some .int
  | 81 => some .int
  | 82 => none
  | 83 => some .int
  | 84 => some .int
  | 85 => some .int
  | 86 => some .int
  | 87 => none
  | 88 => some .int
  | 89 => some .int
  | 90 => some .int
  | 91 => some .int
  | 92 => some .int
  | 93 => some .int
  | 94 => some .int
  | 95 => some .int
  | 96 => some .int
  | 97 => some .int
  | 98 => some .int
  | 99 => some .int
  | 100 => some .int
  | 101 => some .int
  | 102 => some .int
  | 103 => some .int
  | 104 => some .int
  | 105 => some .int
  | 106 => some .int
  | 107 => some .int
  | 108 => some .int
  | 109 => some .int
  | 110 => some .int
  | 111 => some .int
  | 112 => some .int
  | 113 => some .boolean
  | 114 => some .boolean
  | 115 => some .boolean
  | 116 => none
  | 117 => some .int
  | 118 => some .int
  | 119 => some .long
  | 120 => some .boolean
  | 121 => some .boolean
  | 122 => some .boolean
  | 123 => some .boolean
  | 124 => some .boolean
  | 125 => some .int
  | 126 => some .boolean
  | 127 => some .boolean
  | _ => none
def rz_kd : Nat → Nat := fun k => match k with
  | 0 => 2
  | 1 => 0
  | 2 => 0
  | 3 => 0
  | 4 => 0
  | 5 => 0
  | 6 => 2
  | 7 => 0
  | 8 => 0
  | 9 => 1
  | 10 => 0
  | 11 => 2
  | 12 => 0
  | 13 => 0
  | 14 => 0
  | 15 => 0
  | 16 => 0
  | 17 => 0
  | 18 => 0
  | 19 => 0
  | 20 => 0
  | 21 => 0
  | 22 => 0
  | 23 => 0
  | 24 => 1
  | 25 => 0
  | 26 => 2
  | 27 => 0
  | 28 => 0
  | 29 => 0
  | 30 => 0
  | 31 => 0
  | 32 => 0
  | 33 => 0
  | 34 => 0
  | 35 => 0
  | 36 => 0
  | 37 => 0
  | 38 => 0
  | 39 => 0
  | 40 => 0
  | 41 => 0
  | 42 => 0
  | 43 => 0
  | 44 => 0
  | 45 => 0
  | 46 => 0
  | 47 => 0
  | 48 => 0
  | 49 => 0
  | 50 => 0
  | 51 => 0
  | 52 => 0
  | 53 => 0
  | 54 => 0
  | 55 => 0
  | 56 => 2
  | 57 => 0
  | 58 => 0
  | 59 => 0
  | 60 => 0
  | 61 => 0
  | 62 => 0
  | 63 => 2
  | 64 => 0
  | 65 => 0
  | 66 => 0
  | 67 => 0
  | 68 => 0
  | 69 => 0
  | 70 => 0
  | 71 => 0
  | 72 => 0
  | 73 => 0
  | 74 => 2
  | 75 => 0
  | 76 => 0
  | 77 => 0
  | 78 => 0
  | 79 => 0
  | 80 => 0
  | 81 => 0
  | 82 => 2
  | 83 => 0
  | 84 => 0
  | 85 => 0
  | 86 => 0
  | 87 => 2
  | 88 => 0
  | 89 => 0
  | 90 => 0
  | 91 => 0
  | 92 => 0
  | 93 => 0
  | 94 => 0
  | 95 => 0
  | 96 => 0
  | 97 => 0
  | 98 => 0
  | 99 => 0
  | 100 => 0
  | 101 => 0
  | 102 => 0
  | 103 => 0
  | 104 => 0
  | 105 => 0
  | 106 => 0
  | 107 => 0
  | 108 => 0
  | 109 => 0
  | 110 => 0
  | 111 => 0
  | 112 => 0
  | 113 => 1
  | 114 => 1
  | 115 => 1
  | 116 => 1
  | 117 => 1
  | 118 => 1
  | 119 => 1
  | 120 => 1
  | 121 => 1
  | 122 => 1
  | 123 => 1
  | 124 => 1
  | 125 => 1
  | 126 => 1
  | 127 => 1
  | _ => 0
def rz_np : Nat → Nat := fun k => match k with
  | 0 => 0
  | 1 => 0
  | 2 => 1
  | 3 => 1
  | 4 => 0
  | 5 => 1
  | 6 => 0
  | 7 => 1
  | 8 => 4
  | 9 => 2
  | 10 => 2
  | 11 => 0
  | 12 => 0
  | 13 => 1
  | 14 => 1
  | 15 => 1
  | 16 => 1
  | 17 => 1
  | 18 => 1
  | 19 => 1
  | 20 => 0
  | 21 => 1
  | 22 => 1
  | 23 => 2
  | 24 => 2
  | 25 => 3
  | 26 => 0
  | 27 => 1
  | 28 => 0
  | 29 => 0
  | 30 => 0
  | 31 => 0
  | 32 => 0
  | 33 => 1
  | 34 => 1
  | 35 => 1
  | 36 => 1
  | 37 => 1
  | 38 => 1
  | 39 => 1
  | 40 => 1
  | 41 => 4
  | 42 => 1
  | 43 => 1
  | 44 => 2
  | 45 => 0
  | 46 => 1
  | 47 => 1
  | 48 => 1
  | 49 => 1
  | 50 => 1
  | 51 => 1
  | 52 => 1
  | 53 => 1
  | 54 => 0
  | 55 => 0
  | 56 => 0
  | 57 => 1
  | 58 => 0
  | 59 => 2
  | 60 => 3
  | 61 => 3
  | 62 => 2
  | 63 => 0
  | 64 => 0
  | 65 => 0
  | 66 => 0
  | 67 => 0
  | 68 => 1
  | 69 => 2
  | 70 => 0
  | 71 => 2
  | 72 => 1
  | 73 => 3
  | 74 => 0
  | 75 => 1
  | 76 => 2
  | 77 => 0
  | 78 => 1
  | 79 => 2
  | 80 => 1
  | 81 => 3
  | 82 => 0
  | 83 => 0
  | 84 => 1
  | 85 => 0
  | 86 => 1
  | 87 => 0
  | 88 => 2
  | 89 => 0
  | 90 => 1
  | 91 => 2
  | 92 => 1
  | 93 => 3
  | 94 => 2
  | 95 => 1
  | 96 => 0
  | 97 => 0
  | 98 => 1
  | 99 => 0
  | 100 => 0
  | 101 => 0
  | 102 => 2
  | 103 => 2
  | 104 => 1
  | 105 => 1
  | 106 => 0
  | 107 => 2
  | 108 => 2
  | 109 => 2
  | 110 => 2
  | 111 => 1
  | 112 => 1
  | 113 => 1
  | 114 => 1
  | 115 => 1
  | 116 => 2
  | 117 => 2
  | 118 => 2
  | 119 => 1
  | 120 => 2
  | 121 => 1
  | 122 => 0
  | 123 => 0
  | 124 => 2
  | 125 => 2
  | 126 => 0
  | 127 => 1
  | _ => 0
def rz_xC : Nat → Nat := fun k => match k with
  | 0 => 140
  | 1 => 478
  | 2 => 314
  | 3 => 306
  | 4 => 310
  | 5 => 441
  | 6 => 80
  | 7 => 267
  | 8 => 360
  | 9 => 363
  | 10 => 523
  | 11 => 170
  | 12 => 720
  | 13 => 728
  | 14 => 724
  | 15 => 732
  | 16 => 736
  | 17 => 680
  | 18 => 684
  | 19 => 692
  | 20 => 708
  | 21 => 712
  | 22 => 716
  | 23 => 697
  | 24 => 700
  | 25 => 704
  | 26 => 48
  | 27 => 254
  | 28 => 600
  | 29 => 449
  | 30 => 285
  | 31 => 462
  | 32 => 289
  | 33 => 335
  | 34 => 347
  | 35 => 331
  | 36 => 352
  | 37 => 356
  | 38 => 343
  | 39 => 514
  | 40 => 391
  | 41 => 293
  | 42 => 369
  | 43 => 298
  | 44 => 396
  | 45 => 327
  | 46 => 580
  | 47 => 584
  | 48 => 571
  | 49 => 339
  | 50 => 549
  | 51 => 553
  | 52 => 557
  | 53 => 470
  | 54 => 501
  | 55 => 466
  | 56 => 102
  | 57 => 272
  | 58 => 474
  | 59 => 421
  | 60 => 425
  | 61 => 414
  | 62 => 433
  | 63 => 192
  | 64 => 635
  | 65 => 639
  | 66 => 643
  | 67 => 648
  | 68 => 626
  | 69 => 592
  | 70 => 596
  | 71 => 604
  | 72 => 610
  | 73 => 621
  | 74 => 42
  | 75 => 250
  | 76 => 277
  | 77 => 323
  | 78 => 378
  | 79 => 387
  | 80 => 406
  | 81 => 740
  | 82 => 156
  | 83 => 482
  | 84 => 672
  | 85 => 773
  | 86 => 688
  | 87 => 34
  | 88 => 246
  | 89 => 319
  | 90 => 374
  | 91 => 383
  | 92 => 402
  | 93 => 410
  | 94 => 429
  | 95 => 668
  | 96 => 769
  | 97 => 676
  | 98 => 541
  | 99 => 437
  | 100 => 445
  | 101 => 453
  | 102 => 506
  | 103 => 545
  | 104 => 565
  | 105 => 576
  | 106 => 497
  | 107 => 519
  | 108 => 527
  | 109 => 588
  | 110 => 631
  | 111 => 457
  | 112 => 302
  | 113 => 746
  | 114 => 280
  | 115 => 417
  | 116 => 257
  | 117 => 485
  | 118 => 489
  | 119 => 493
  | 120 => 535
  | 121 => 532
  | 122 => 651
  | 123 => 654
  | 124 => 663
  | 125 => 660
  | 126 => 657
  | _ => 0
def rz_xI : Nat → Nat := fun k => match k with
  | 0 => 139
  | 1 => 476
  | 2 => 313
  | 3 => 304
  | 4 => 309
  | 5 => 439
  | 6 => 79
  | 7 => 265
  | 8 => 358
  | 9 => 362
  | 10 => 521
  | 11 => 169
  | 12 => 718
  | 13 => 727
  | 14 => 722
  | 15 => 730
  | 16 => 734
  | 17 => 678
  | 18 => 683
  | 19 => 691
  | 20 => 707
  | 21 => 711
  | 22 => 715
  | 23 => 696
  | 24 => 699
  | 25 => 703
  | 26 => 47
  | 27 => 252
  | 28 => 598
  | 29 => 447
  | 30 => 283
  | 31 => 460
  | 32 => 287
  | 33 => 334
  | 34 => 345
  | 35 => 329
  | 36 => 350
  | 37 => 354
  | 38 => 341
  | 39 => 512
  | 40 => 389
  | 41 => 291
  | 42 => 367
  | 43 => 296
  | 44 => 394
  | 45 => 325
  | 46 => 578
  | 47 => 583
  | 48 => 569
  | 49 => 337
  | 50 => 547
  | 51 => 551
  | 52 => 555
  | 53 => 468
  | 54 => 499
  | 55 => 464
  | 56 => 101
  | 57 => 270
  | 58 => 472
  | 59 => 419
  | 60 => 424
  | 61 => 412
  | 62 => 431
  | 63 => 191
  | 64 => 633
  | 65 => 637
  | 66 => 641
  | 67 => 646
  | 68 => 624
  | 69 => 590
  | 70 => 595
  | 71 => 603
  | 72 => 609
  | 73 => 620
  | 74 => 41
  | 75 => 248
  | 76 => 275
  | 77 => 321
  | 78 => 376
  | 79 => 385
  | 80 => 404
  | 81 => 738
  | 82 => 155
  | 83 => 480
  | 84 => 670
  | 85 => 771
  | 86 => 686
  | 87 => 33
  | 88 => 244
  | 89 => 317
  | 90 => 372
  | 91 => 381
  | 92 => 400
  | 93 => 408
  | 94 => 427
  | 95 => 666
  | 96 => 767
  | 97 => 674
  | 98 => 539
  | 99 => 435
  | 100 => 443
  | 101 => 451
  | 102 => 504
  | 103 => 543
  | 104 => 563
  | 105 => 574
  | 106 => 495
  | 107 => 517
  | 108 => 525
  | 109 => 586
  | 110 => 629
  | 111 => 455
  | 112 => 301
  | 113 => 745
  | 114 => 279
  | 115 => 416
  | 116 => 256
  | 117 => 484
  | 118 => 488
  | 119 => 492
  | 120 => 534
  | 121 => 531
  | 122 => 650
  | 123 => 653
  | 124 => 662
  | 125 => 659
  | 126 => 656
  | _ => 0
def rz_xS : Nat → Nat := fun k => match k with
  | 0 => 0
  | 1 => 477
  | 2 => 2
  | 3 => 305
  | 4 => 1
  | 5 => 440
  | 6 => 0
  | 7 => 266
  | 8 => 359
  | 9 => 0
  | 10 => 522
  | 11 => 0
  | 12 => 719
  | 13 => 17
  | 14 => 723
  | 15 => 731
  | 16 => 735
  | 17 => 679
  | 18 => 10
  | 19 => 11
  | 20 => 14
  | 21 => 15
  | 22 => 16
  | 23 => 12
  | 24 => 0
  | 25 => 13
  | 26 => 0
  | 27 => 253
  | 28 => 599
  | 29 => 448
  | 30 => 284
  | 31 => 461
  | 32 => 288
  | 33 => 3
  | 34 => 346
  | 35 => 330
  | 36 => 351
  | 37 => 355
  | 38 => 342
  | 39 => 513
  | 40 => 390
  | 41 => 292
  | 42 => 368
  | 43 => 297
  | 44 => 395
  | 45 => 326
  | 46 => 579
  | 47 => 5
  | 48 => 570
  | 49 => 338
  | 50 => 548
  | 51 => 552
  | 52 => 556
  | 53 => 469
  | 54 => 500
  | 55 => 465
  | 56 => 0
  | 57 => 271
  | 58 => 473
  | 59 => 420
  | 60 => 4
  | 61 => 413
  | 62 => 432
  | 63 => 0
  | 64 => 634
  | 65 => 638
  | 66 => 642
  | 67 => 647
  | 68 => 625
  | 69 => 591
  | 70 => 6
  | 71 => 7
  | 72 => 8
  | 73 => 9
  | 74 => 0
  | 75 => 249
  | 76 => 276
  | 77 => 322
  | 78 => 377
  | 79 => 386
  | 80 => 405
  | 81 => 739
  | 82 => 0
  | 83 => 481
  | 84 => 671
  | 85 => 772
  | 86 => 687
  | 87 => 0
  | 88 => 245
  | 89 => 318
  | 90 => 373
  | 91 => 382
  | 92 => 401
  | 93 => 409
  | 94 => 428
  | 95 => 667
  | 96 => 768
  | 97 => 675
  | 98 => 540
  | 99 => 436
  | 100 => 444
  | 101 => 452
  | 102 => 505
  | 103 => 544
  | 104 => 564
  | 105 => 575
  | 106 => 496
  | 107 => 518
  | 108 => 526
  | 109 => 587
  | 110 => 630
  | 111 => 456
  | 112 => 0
  | 113 => 0
  | 114 => 0
  | 115 => 0
  | 116 => 0
  | 117 => 0
  | 118 => 0
  | 119 => 0
  | 120 => 0
  | 121 => 0
  | 122 => 0
  | 123 => 0
  | 124 => 0
  | 125 => 0
  | 126 => 0
  | 127 => 0
  | _ => 0
def rz_xN : Nat → Nat := fun k => match k with
  | 0 => 24
  | 1 => 22
  | 2 => 26
  | 3 => 21
  | 4 => 23
  | 5 => 27
  | 6 => 20
  | 7 => 25
  | 8 => 19
  | 9 => 18
  | _ => 0
def rz_xW : Nat → Nat := fun k => match k with
  | 0 => 137
  | 1 => 77
  | 2 => 167
  | 3 => 45
  | 4 => 99
  | 5 => 189
  | 6 => 39
  | 7 => 153
  | 8 => 31
  | _ => 0
set_option maxRecDepth 100000 in
theorem rz_cd0 : lw_tbl[140]? = some (Cond.code (rz_Y 0) (rz_B 0) (rz_ML 0) (rz_RT 0)) := rfl
set_option maxRecDepth 100000 in
theorem rz_cd1 : lw_tbl[478]? = some (Cond.code (rz_Y 1) (rz_B 1) (rz_ML 1) (rz_RT 1)) := rfl
set_option maxRecDepth 100000 in
theorem rz_cd2 : lw_tbl[314]? = some (Cond.code (rz_Y 2) (rz_B 2) (rz_ML 2) (rz_RT 2)) := rfl
set_option maxRecDepth 100000 in
theorem rz_cd3 : lw_tbl[306]? = some (Cond.code (rz_Y 3) (rz_B 3) (rz_ML 3) (rz_RT 3)) := rfl
set_option maxRecDepth 100000 in
theorem rz_cd4 : lw_tbl[310]? = some (Cond.code (rz_Y 4) (rz_B 4) (rz_ML 4) (rz_RT 4)) := rfl
set_option maxRecDepth 100000 in
theorem rz_cd5 : lw_tbl[441]? = some (Cond.code (rz_Y 5) (rz_B 5) (rz_ML 5) (rz_RT 5)) := rfl
set_option maxRecDepth 100000 in
theorem rz_cd6 : lw_tbl[80]? = some (Cond.code (rz_Y 6) (rz_B 6) (rz_ML 6) (rz_RT 6)) := rfl
set_option maxRecDepth 100000 in
theorem rz_cd7 : lw_tbl[267]? = some (Cond.code (rz_Y 7) (rz_B 7) (rz_ML 7) (rz_RT 7)) := rfl
set_option maxRecDepth 100000 in
theorem rz_cd8 : lw_tbl[360]? = some (Cond.code (rz_Y 8) (rz_B 8) (rz_ML 8) (rz_RT 8)) := rfl
set_option maxRecDepth 100000 in
theorem rz_cd9 : lw_tbl[363]? = some (Cond.code (rz_Y 9) (rz_B 9) (rz_ML 9) (rz_RT 9)) := rfl
set_option maxRecDepth 100000 in
theorem rz_cd10 : lw_tbl[523]? = some (Cond.code (rz_Y 10) (rz_B 10) (rz_ML 10) (rz_RT 10)) := rfl
set_option maxRecDepth 100000 in
theorem rz_cd11 : lw_tbl[170]? = some (Cond.code (rz_Y 11) (rz_B 11) (rz_ML 11) (rz_RT 11)) := rfl
set_option maxRecDepth 100000 in
theorem rz_cd12 : lw_tbl[720]? = some (Cond.code (rz_Y 12) (rz_B 12) (rz_ML 12) (rz_RT 12)) := rfl
set_option maxRecDepth 100000 in
theorem rz_cd13 : lw_tbl[728]? = some (Cond.code (rz_Y 13) (rz_B 13) (rz_ML 13) (rz_RT 13)) := rfl
set_option maxRecDepth 100000 in
theorem rz_cd14 : lw_tbl[724]? = some (Cond.code (rz_Y 14) (rz_B 14) (rz_ML 14) (rz_RT 14)) := rfl
set_option maxRecDepth 100000 in
theorem rz_cd15 : lw_tbl[732]? = some (Cond.code (rz_Y 15) (rz_B 15) (rz_ML 15) (rz_RT 15)) := rfl
set_option maxRecDepth 100000 in
theorem rz_cd16 : lw_tbl[736]? = some (Cond.code (rz_Y 16) (rz_B 16) (rz_ML 16) (rz_RT 16)) := rfl
set_option maxRecDepth 100000 in
theorem rz_cd17 : lw_tbl[680]? = some (Cond.code (rz_Y 17) (rz_B 17) (rz_ML 17) (rz_RT 17)) := rfl
set_option maxRecDepth 100000 in
theorem rz_cd18 : lw_tbl[684]? = some (Cond.code (rz_Y 18) (rz_B 18) (rz_ML 18) (rz_RT 18)) := rfl
set_option maxRecDepth 100000 in
theorem rz_cd19 : lw_tbl[692]? = some (Cond.code (rz_Y 19) (rz_B 19) (rz_ML 19) (rz_RT 19)) := rfl
set_option maxRecDepth 100000 in
theorem rz_cd20 : lw_tbl[708]? = some (Cond.code (rz_Y 20) (rz_B 20) (rz_ML 20) (rz_RT 20)) := rfl
set_option maxRecDepth 100000 in
theorem rz_cd21 : lw_tbl[712]? = some (Cond.code (rz_Y 21) (rz_B 21) (rz_ML 21) (rz_RT 21)) := rfl
set_option maxRecDepth 100000 in
theorem rz_cd22 : lw_tbl[716]? = some (Cond.code (rz_Y 22) (rz_B 22) (rz_ML 22) (rz_RT 22)) := rfl
set_option maxRecDepth 100000 in
theorem rz_cd23 : lw_tbl[697]? = some (Cond.code (rz_Y 23) (rz_B 23) (rz_ML 23) (rz_RT 23)) := rfl
set_option maxRecDepth 100000 in
theorem rz_cd24 : lw_tbl[700]? = some (Cond.code (rz_Y 24) (rz_B 24) (rz_ML 24) (rz_RT 24)) := rfl
set_option maxRecDepth 100000 in
theorem rz_cd25 : lw_tbl[704]? = some (Cond.code (rz_Y 25) (rz_B 25) (rz_ML 25) (rz_RT 25)) := rfl
set_option maxRecDepth 100000 in
theorem rz_cd26 : lw_tbl[48]? = some (Cond.code (rz_Y 26) (rz_B 26) (rz_ML 26) (rz_RT 26)) := rfl
set_option maxRecDepth 100000 in
theorem rz_cd27 : lw_tbl[254]? = some (Cond.code (rz_Y 27) (rz_B 27) (rz_ML 27) (rz_RT 27)) := rfl
set_option maxRecDepth 100000 in
theorem rz_cd28 : lw_tbl[600]? = some (Cond.code (rz_Y 28) (rz_B 28) (rz_ML 28) (rz_RT 28)) := rfl
set_option maxRecDepth 100000 in
theorem rz_cd29 : lw_tbl[449]? = some (Cond.code (rz_Y 29) (rz_B 29) (rz_ML 29) (rz_RT 29)) := rfl
set_option maxRecDepth 100000 in
theorem rz_cd30 : lw_tbl[285]? = some (Cond.code (rz_Y 30) (rz_B 30) (rz_ML 30) (rz_RT 30)) := rfl
set_option maxRecDepth 100000 in
theorem rz_cd31 : lw_tbl[462]? = some (Cond.code (rz_Y 31) (rz_B 31) (rz_ML 31) (rz_RT 31)) := rfl
set_option maxRecDepth 100000 in
theorem rz_cd32 : lw_tbl[289]? = some (Cond.code (rz_Y 32) (rz_B 32) (rz_ML 32) (rz_RT 32)) := rfl
set_option maxRecDepth 100000 in
theorem rz_cd33 : lw_tbl[335]? = some (Cond.code (rz_Y 33) (rz_B 33) (rz_ML 33) (rz_RT 33)) := rfl
set_option maxRecDepth 100000 in
theorem rz_cd34 : lw_tbl[347]? = some (Cond.code (rz_Y 34) (rz_B 34) (rz_ML 34) (rz_RT 34)) := rfl
set_option maxRecDepth 100000 in
theorem rz_cd35 : lw_tbl[331]? = some (Cond.code (rz_Y 35) (rz_B 35) (rz_ML 35) (rz_RT 35)) := rfl
set_option maxRecDepth 100000 in
theorem rz_cd36 : lw_tbl[352]? = some (Cond.code (rz_Y 36) (rz_B 36) (rz_ML 36) (rz_RT 36)) := rfl
set_option maxRecDepth 100000 in
theorem rz_cd37 : lw_tbl[356]? = some (Cond.code (rz_Y 37) (rz_B 37) (rz_ML 37) (rz_RT 37)) := rfl
set_option maxRecDepth 100000 in
theorem rz_cd38 : lw_tbl[343]? = some (Cond.code (rz_Y 38) (rz_B 38) (rz_ML 38) (rz_RT 38)) := rfl
set_option maxRecDepth 100000 in
theorem rz_cd39 : lw_tbl[514]? = some (Cond.code (rz_Y 39) (rz_B 39) (rz_ML 39) (rz_RT 39)) := rfl
set_option maxRecDepth 100000 in
theorem rz_cd40 : lw_tbl[391]? = some (Cond.code (rz_Y 40) (rz_B 40) (rz_ML 40) (rz_RT 40)) := rfl
set_option maxRecDepth 100000 in
theorem rz_cd41 : lw_tbl[293]? = some (Cond.code (rz_Y 41) (rz_B 41) (rz_ML 41) (rz_RT 41)) := rfl
set_option maxRecDepth 100000 in
theorem rz_cd42 : lw_tbl[369]? = some (Cond.code (rz_Y 42) (rz_B 42) (rz_ML 42) (rz_RT 42)) := rfl
set_option maxRecDepth 100000 in
theorem rz_cd43 : lw_tbl[298]? = some (Cond.code (rz_Y 43) (rz_B 43) (rz_ML 43) (rz_RT 43)) := rfl
set_option maxRecDepth 100000 in
theorem rz_cd44 : lw_tbl[396]? = some (Cond.code (rz_Y 44) (rz_B 44) (rz_ML 44) (rz_RT 44)) := rfl
set_option maxRecDepth 100000 in
theorem rz_cd45 : lw_tbl[327]? = some (Cond.code (rz_Y 45) (rz_B 45) (rz_ML 45) (rz_RT 45)) := rfl
set_option maxRecDepth 100000 in
theorem rz_cd46 : lw_tbl[580]? = some (Cond.code (rz_Y 46) (rz_B 46) (rz_ML 46) (rz_RT 46)) := rfl
set_option maxRecDepth 100000 in
theorem rz_cd47 : lw_tbl[584]? = some (Cond.code (rz_Y 47) (rz_B 47) (rz_ML 47) (rz_RT 47)) := rfl
set_option maxRecDepth 100000 in
theorem rz_cd48 : lw_tbl[571]? = some (Cond.code (rz_Y 48) (rz_B 48) (rz_ML 48) (rz_RT 48)) := rfl
set_option maxRecDepth 100000 in
theorem rz_cd49 : lw_tbl[339]? = some (Cond.code (rz_Y 49) (rz_B 49) (rz_ML 49) (rz_RT 49)) := rfl
set_option maxRecDepth 100000 in
theorem rz_cd50 : lw_tbl[549]? = some (Cond.code (rz_Y 50) (rz_B 50) (rz_ML 50) (rz_RT 50)) := rfl
set_option maxRecDepth 100000 in
theorem rz_cd51 : lw_tbl[553]? = some (Cond.code (rz_Y 51) (rz_B 51) (rz_ML 51) (rz_RT 51)) := rfl
set_option maxRecDepth 100000 in
theorem rz_cd52 : lw_tbl[557]? = some (Cond.code (rz_Y 52) (rz_B 52) (rz_ML 52) (rz_RT 52)) := rfl
set_option maxRecDepth 100000 in
theorem rz_cd53 : lw_tbl[470]? = some (Cond.code (rz_Y 53) (rz_B 53) (rz_ML 53) (rz_RT 53)) := rfl
set_option maxRecDepth 100000 in
theorem rz_cd54 : lw_tbl[501]? = some (Cond.code (rz_Y 54) (rz_B 54) (rz_ML 54) (rz_RT 54)) := rfl
set_option maxRecDepth 100000 in
theorem rz_cd55 : lw_tbl[466]? = some (Cond.code (rz_Y 55) (rz_B 55) (rz_ML 55) (rz_RT 55)) := rfl
set_option maxRecDepth 100000 in
theorem rz_cd56 : lw_tbl[102]? = some (Cond.code (rz_Y 56) (rz_B 56) (rz_ML 56) (rz_RT 56)) := rfl
set_option maxRecDepth 100000 in
theorem rz_cd57 : lw_tbl[272]? = some (Cond.code (rz_Y 57) (rz_B 57) (rz_ML 57) (rz_RT 57)) := rfl
set_option maxRecDepth 100000 in
theorem rz_cd58 : lw_tbl[474]? = some (Cond.code (rz_Y 58) (rz_B 58) (rz_ML 58) (rz_RT 58)) := rfl
set_option maxRecDepth 100000 in
theorem rz_cd59 : lw_tbl[421]? = some (Cond.code (rz_Y 59) (rz_B 59) (rz_ML 59) (rz_RT 59)) := rfl
set_option maxRecDepth 100000 in
theorem rz_cd60 : lw_tbl[425]? = some (Cond.code (rz_Y 60) (rz_B 60) (rz_ML 60) (rz_RT 60)) := rfl
set_option maxRecDepth 100000 in
theorem rz_cd61 : lw_tbl[414]? = some (Cond.code (rz_Y 61) (rz_B 61) (rz_ML 61) (rz_RT 61)) := rfl
set_option maxRecDepth 100000 in
theorem rz_cd62 : lw_tbl[433]? = some (Cond.code (rz_Y 62) (rz_B 62) (rz_ML 62) (rz_RT 62)) := rfl
set_option maxRecDepth 100000 in
theorem rz_cd63 : lw_tbl[192]? = some (Cond.code (rz_Y 63) (rz_B 63) (rz_ML 63) (rz_RT 63)) := rfl
set_option maxRecDepth 100000 in
theorem rz_cd64 : lw_tbl[635]? = some (Cond.code (rz_Y 64) (rz_B 64) (rz_ML 64) (rz_RT 64)) := rfl
set_option maxRecDepth 100000 in
theorem rz_cd65 : lw_tbl[639]? = some (Cond.code (rz_Y 65) (rz_B 65) (rz_ML 65) (rz_RT 65)) := rfl
set_option maxRecDepth 100000 in
theorem rz_cd66 : lw_tbl[643]? = some (Cond.code (rz_Y 66) (rz_B 66) (rz_ML 66) (rz_RT 66)) := rfl
set_option maxRecDepth 100000 in
theorem rz_cd67 : lw_tbl[648]? = some (Cond.code (rz_Y 67) (rz_B 67) (rz_ML 67) (rz_RT 67)) := rfl
set_option maxRecDepth 100000 in
theorem rz_cd68 : lw_tbl[626]? = some (Cond.code (rz_Y 68) (rz_B 68) (rz_ML 68) (rz_RT 68)) := rfl
set_option maxRecDepth 100000 in
theorem rz_cd69 : lw_tbl[592]? = some (Cond.code (rz_Y 69) (rz_B 69) (rz_ML 69) (rz_RT 69)) := rfl
set_option maxRecDepth 100000 in
theorem rz_cd70 : lw_tbl[596]? = some (Cond.code (rz_Y 70) (rz_B 70) (rz_ML 70) (rz_RT 70)) := rfl
set_option maxRecDepth 100000 in
theorem rz_cd71 : lw_tbl[604]? = some (Cond.code (rz_Y 71) (rz_B 71) (rz_ML 71) (rz_RT 71)) := rfl
set_option maxRecDepth 100000 in
theorem rz_cd72 : lw_tbl[610]? = some (Cond.code (rz_Y 72) (rz_B 72) (rz_ML 72) (rz_RT 72)) := rfl
set_option maxRecDepth 100000 in
theorem rz_cd73 : lw_tbl[621]? = some (Cond.code (rz_Y 73) (rz_B 73) (rz_ML 73) (rz_RT 73)) := rfl
set_option maxRecDepth 100000 in
theorem rz_cd74 : lw_tbl[42]? = some (Cond.code (rz_Y 74) (rz_B 74) (rz_ML 74) (rz_RT 74)) := rfl
set_option maxRecDepth 100000 in
theorem rz_cd75 : lw_tbl[250]? = some (Cond.code (rz_Y 75) (rz_B 75) (rz_ML 75) (rz_RT 75)) := rfl
set_option maxRecDepth 100000 in
theorem rz_cd76 : lw_tbl[277]? = some (Cond.code (rz_Y 76) (rz_B 76) (rz_ML 76) (rz_RT 76)) := rfl
set_option maxRecDepth 100000 in
theorem rz_cd77 : lw_tbl[323]? = some (Cond.code (rz_Y 77) (rz_B 77) (rz_ML 77) (rz_RT 77)) := rfl
set_option maxRecDepth 100000 in
theorem rz_cd78 : lw_tbl[378]? = some (Cond.code (rz_Y 78) (rz_B 78) (rz_ML 78) (rz_RT 78)) := rfl
set_option maxRecDepth 100000 in
theorem rz_cd79 : lw_tbl[387]? = some (Cond.code (rz_Y 79) (rz_B 79) (rz_ML 79) (rz_RT 79)) := rfl
set_option maxRecDepth 100000 in
theorem rz_cd80 : lw_tbl[406]? = some (Cond.code (rz_Y 80) (rz_B 80) (rz_ML 80) (rz_RT 80)) := rfl
set_option maxRecDepth 100000 in
theorem rz_cd81 : lw_tbl[740]? = some (Cond.code (rz_Y 81) (rz_B 81) (rz_ML 81) (rz_RT 81)) := rfl
set_option maxRecDepth 100000 in
theorem rz_cd82 : lw_tbl[156]? = some (Cond.code (rz_Y 82) (rz_B 82) (rz_ML 82) (rz_RT 82)) := rfl
set_option maxRecDepth 100000 in
theorem rz_cd83 : lw_tbl[482]? = some (Cond.code (rz_Y 83) (rz_B 83) (rz_ML 83) (rz_RT 83)) := rfl
set_option maxRecDepth 100000 in
theorem rz_cd84 : lw_tbl[672]? = some (Cond.code (rz_Y 84) (rz_B 84) (rz_ML 84) (rz_RT 84)) := rfl
set_option maxRecDepth 100000 in
theorem rz_cd85 : lw_tbl[773]? = some (Cond.code (rz_Y 85) (rz_B 85) (rz_ML 85) (rz_RT 85)) := rfl
set_option maxRecDepth 100000 in
theorem rz_cd86 : lw_tbl[688]? = some (Cond.code (rz_Y 86) (rz_B 86) (rz_ML 86) (rz_RT 86)) := rfl
set_option maxRecDepth 100000 in
theorem rz_cd87 : lw_tbl[34]? = some (Cond.code (rz_Y 87) (rz_B 87) (rz_ML 87) (rz_RT 87)) := rfl
set_option maxRecDepth 100000 in
theorem rz_cd88 : lw_tbl[246]? = some (Cond.code (rz_Y 88) (rz_B 88) (rz_ML 88) (rz_RT 88)) := rfl
set_option maxRecDepth 100000 in
theorem rz_cd89 : lw_tbl[319]? = some (Cond.code (rz_Y 89) (rz_B 89) (rz_ML 89) (rz_RT 89)) := rfl
set_option maxRecDepth 100000 in
theorem rz_cd90 : lw_tbl[374]? = some (Cond.code (rz_Y 90) (rz_B 90) (rz_ML 90) (rz_RT 90)) := rfl
set_option maxRecDepth 100000 in
theorem rz_cd91 : lw_tbl[383]? = some (Cond.code (rz_Y 91) (rz_B 91) (rz_ML 91) (rz_RT 91)) := rfl
set_option maxRecDepth 100000 in
theorem rz_cd92 : lw_tbl[402]? = some (Cond.code (rz_Y 92) (rz_B 92) (rz_ML 92) (rz_RT 92)) := rfl
set_option maxRecDepth 100000 in
theorem rz_cd93 : lw_tbl[410]? = some (Cond.code (rz_Y 93) (rz_B 93) (rz_ML 93) (rz_RT 93)) := rfl
set_option maxRecDepth 100000 in
theorem rz_cd94 : lw_tbl[429]? = some (Cond.code (rz_Y 94) (rz_B 94) (rz_ML 94) (rz_RT 94)) := rfl
set_option maxRecDepth 100000 in
theorem rz_cd95 : lw_tbl[668]? = some (Cond.code (rz_Y 95) (rz_B 95) (rz_ML 95) (rz_RT 95)) := rfl
set_option maxRecDepth 100000 in
theorem rz_cd96 : lw_tbl[769]? = some (Cond.code (rz_Y 96) (rz_B 96) (rz_ML 96) (rz_RT 96)) := rfl
set_option maxRecDepth 100000 in
theorem rz_cd97 : lw_tbl[676]? = some (Cond.code (rz_Y 97) (rz_B 97) (rz_ML 97) (rz_RT 97)) := rfl
set_option maxRecDepth 100000 in
theorem rz_cd98 : lw_tbl[541]? = some (Cond.code (rz_Y 98) (rz_B 98) (rz_ML 98) (rz_RT 98)) := rfl
set_option maxRecDepth 100000 in
theorem rz_cd99 : lw_tbl[437]? = some (Cond.code (rz_Y 99) (rz_B 99) (rz_ML 99) (rz_RT 99)) := rfl
set_option maxRecDepth 100000 in
theorem rz_cd100 : lw_tbl[445]? = some (Cond.code (rz_Y 100) (rz_B 100) (rz_ML 100) (rz_RT 100)) := rfl
set_option maxRecDepth 100000 in
theorem rz_cd101 : lw_tbl[453]? = some (Cond.code (rz_Y 101) (rz_B 101) (rz_ML 101) (rz_RT 101)) := rfl
set_option maxRecDepth 100000 in
theorem rz_cd102 : lw_tbl[506]? = some (Cond.code (rz_Y 102) (rz_B 102) (rz_ML 102) (rz_RT 102)) := rfl
set_option maxRecDepth 100000 in
theorem rz_cd103 : lw_tbl[545]? = some (Cond.code (rz_Y 103) (rz_B 103) (rz_ML 103) (rz_RT 103)) := rfl
set_option maxRecDepth 100000 in
theorem rz_cd104 : lw_tbl[565]? = some (Cond.code (rz_Y 104) (rz_B 104) (rz_ML 104) (rz_RT 104)) := rfl
set_option maxRecDepth 100000 in
theorem rz_cd105 : lw_tbl[576]? = some (Cond.code (rz_Y 105) (rz_B 105) (rz_ML 105) (rz_RT 105)) := rfl
set_option maxRecDepth 100000 in
theorem rz_cd106 : lw_tbl[497]? = some (Cond.code (rz_Y 106) (rz_B 106) (rz_ML 106) (rz_RT 106)) := rfl
set_option maxRecDepth 100000 in
theorem rz_cd107 : lw_tbl[519]? = some (Cond.code (rz_Y 107) (rz_B 107) (rz_ML 107) (rz_RT 107)) := rfl
set_option maxRecDepth 100000 in
theorem rz_cd108 : lw_tbl[527]? = some (Cond.code (rz_Y 108) (rz_B 108) (rz_ML 108) (rz_RT 108)) := rfl
set_option maxRecDepth 100000 in
theorem rz_cd109 : lw_tbl[588]? = some (Cond.code (rz_Y 109) (rz_B 109) (rz_ML 109) (rz_RT 109)) := rfl
set_option maxRecDepth 100000 in
theorem rz_cd110 : lw_tbl[631]? = some (Cond.code (rz_Y 110) (rz_B 110) (rz_ML 110) (rz_RT 110)) := rfl
set_option maxRecDepth 100000 in
theorem rz_cd111 : lw_tbl[457]? = some (Cond.code (rz_Y 111) (rz_B 111) (rz_ML 111) (rz_RT 111)) := rfl
set_option maxRecDepth 100000 in
theorem rz_cd112 : lw_tbl[302]? = some (Cond.code (rz_Y 112) (rz_B 112) (rz_ML 112) (rz_RT 112)) := rfl
set_option maxRecDepth 100000 in
theorem rz_cd113 : lw_tbl[746]? = some (Cond.code (rz_Y 113) (rz_B 113) (rz_ML 113) (rz_RT 113)) := rfl
set_option maxRecDepth 100000 in
theorem rz_cd114 : lw_tbl[280]? = some (Cond.code (rz_Y 114) (rz_B 114) (rz_ML 114) (rz_RT 114)) := rfl
set_option maxRecDepth 100000 in
theorem rz_cd115 : lw_tbl[417]? = some (Cond.code (rz_Y 115) (rz_B 115) (rz_ML 115) (rz_RT 115)) := rfl
set_option maxRecDepth 100000 in
theorem rz_cd116 : lw_tbl[257]? = some (Cond.code (rz_Y 116) (rz_B 116) (rz_ML 116) (rz_RT 116)) := rfl
set_option maxRecDepth 100000 in
theorem rz_cd117 : lw_tbl[485]? = some (Cond.code (rz_Y 117) (rz_B 117) (rz_ML 117) (rz_RT 117)) := rfl
set_option maxRecDepth 100000 in
theorem rz_cd118 : lw_tbl[489]? = some (Cond.code (rz_Y 118) (rz_B 118) (rz_ML 118) (rz_RT 118)) := rfl
set_option maxRecDepth 100000 in
theorem rz_cd119 : lw_tbl[493]? = some (Cond.code (rz_Y 119) (rz_B 119) (rz_ML 119) (rz_RT 119)) := rfl
set_option maxRecDepth 100000 in
theorem rz_cd120 : lw_tbl[535]? = some (Cond.code (rz_Y 120) (rz_B 120) (rz_ML 120) (rz_RT 120)) := rfl
set_option maxRecDepth 100000 in
theorem rz_cd121 : lw_tbl[532]? = some (Cond.code (rz_Y 121) (rz_B 121) (rz_ML 121) (rz_RT 121)) := rfl
set_option maxRecDepth 100000 in
theorem rz_cd122 : lw_tbl[651]? = some (Cond.code (rz_Y 122) (rz_B 122) (rz_ML 122) (rz_RT 122)) := rfl
set_option maxRecDepth 100000 in
theorem rz_cd123 : lw_tbl[654]? = some (Cond.code (rz_Y 123) (rz_B 123) (rz_ML 123) (rz_RT 123)) := rfl
set_option maxRecDepth 100000 in
theorem rz_cd124 : lw_tbl[663]? = some (Cond.code (rz_Y 124) (rz_B 124) (rz_ML 124) (rz_RT 124)) := rfl
set_option maxRecDepth 100000 in
theorem rz_cd125 : lw_tbl[660]? = some (Cond.code (rz_Y 125) (rz_B 125) (rz_ML 125) (rz_RT 125)) := rfl
set_option maxRecDepth 100000 in
theorem rz_cd126 : lw_tbl[657]? = some (Cond.code (rz_Y 126) (rz_B 126) (rz_ML 126) (rz_RT 126)) := rfl
theorem rz_okD : ∀ k, k < 127 → ∃ i : Nat, lw_tbl[i]? = some (Cond.code (rz_Y k) (rz_B k) (rz_ML k) (rz_RT k)) := by
  intro k hk
  match k, hk with
  | 0, _ => exact ⟨_, rz_cd0⟩
  | 1, _ => exact ⟨_, rz_cd1⟩
  | 2, _ => exact ⟨_, rz_cd2⟩
  | 3, _ => exact ⟨_, rz_cd3⟩
  | 4, _ => exact ⟨_, rz_cd4⟩
  | 5, _ => exact ⟨_, rz_cd5⟩
  | 6, _ => exact ⟨_, rz_cd6⟩
  | 7, _ => exact ⟨_, rz_cd7⟩
  | 8, _ => exact ⟨_, rz_cd8⟩
  | 9, _ => exact ⟨_, rz_cd9⟩
  | 10, _ => exact ⟨_, rz_cd10⟩
  | 11, _ => exact ⟨_, rz_cd11⟩
  | 12, _ => exact ⟨_, rz_cd12⟩
  | 13, _ => exact ⟨_, rz_cd13⟩
  | 14, _ => exact ⟨_, rz_cd14⟩
  | 15, _ => exact ⟨_, rz_cd15⟩
  | 16, _ => exact ⟨_, rz_cd16⟩
  | 17, _ => exact ⟨_, rz_cd17⟩
  | 18, _ => exact ⟨_, rz_cd18⟩
  | 19, _ => exact ⟨_, rz_cd19⟩
  | 20, _ => exact ⟨_, rz_cd20⟩
  | 21, _ => exact ⟨_, rz_cd21⟩
  | 22, _ => exact ⟨_, rz_cd22⟩
  | 23, _ => exact ⟨_, rz_cd23⟩
  | 24, _ => exact ⟨_, rz_cd24⟩
  | 25, _ => exact ⟨_, rz_cd25⟩
  | 26, _ => exact ⟨_, rz_cd26⟩
  | 27, _ => exact ⟨_, rz_cd27⟩
  | 28, _ => exact ⟨_, rz_cd28⟩
  | 29, _ => exact ⟨_, rz_cd29⟩
  | 30, _ => exact ⟨_, rz_cd30⟩
  | 31, _ => exact ⟨_, rz_cd31⟩
  | 32, _ => exact ⟨_, rz_cd32⟩
  | 33, _ => exact ⟨_, rz_cd33⟩
  | 34, _ => exact ⟨_, rz_cd34⟩
  | 35, _ => exact ⟨_, rz_cd35⟩
  | 36, _ => exact ⟨_, rz_cd36⟩
  | 37, _ => exact ⟨_, rz_cd37⟩
  | 38, _ => exact ⟨_, rz_cd38⟩
  | 39, _ => exact ⟨_, rz_cd39⟩
  | 40, _ => exact ⟨_, rz_cd40⟩
  | 41, _ => exact ⟨_, rz_cd41⟩
  | 42, _ => exact ⟨_, rz_cd42⟩
  | 43, _ => exact ⟨_, rz_cd43⟩
  | 44, _ => exact ⟨_, rz_cd44⟩
  | 45, _ => exact ⟨_, rz_cd45⟩
  | 46, _ => exact ⟨_, rz_cd46⟩
  | 47, _ => exact ⟨_, rz_cd47⟩
  | 48, _ => exact ⟨_, rz_cd48⟩
  | 49, _ => exact ⟨_, rz_cd49⟩
  | 50, _ => exact ⟨_, rz_cd50⟩
  | 51, _ => exact ⟨_, rz_cd51⟩
  | 52, _ => exact ⟨_, rz_cd52⟩
  | 53, _ => exact ⟨_, rz_cd53⟩
  | 54, _ => exact ⟨_, rz_cd54⟩
  | 55, _ => exact ⟨_, rz_cd55⟩
  | 56, _ => exact ⟨_, rz_cd56⟩
  | 57, _ => exact ⟨_, rz_cd57⟩
  | 58, _ => exact ⟨_, rz_cd58⟩
  | 59, _ => exact ⟨_, rz_cd59⟩
  | 60, _ => exact ⟨_, rz_cd60⟩
  | 61, _ => exact ⟨_, rz_cd61⟩
  | 62, _ => exact ⟨_, rz_cd62⟩
  | 63, _ => exact ⟨_, rz_cd63⟩
  | 64, _ => exact ⟨_, rz_cd64⟩
  | 65, _ => exact ⟨_, rz_cd65⟩
  | 66, _ => exact ⟨_, rz_cd66⟩
  | 67, _ => exact ⟨_, rz_cd67⟩
  | 68, _ => exact ⟨_, rz_cd68⟩
  | 69, _ => exact ⟨_, rz_cd69⟩
  | 70, _ => exact ⟨_, rz_cd70⟩
  | 71, _ => exact ⟨_, rz_cd71⟩
  | 72, _ => exact ⟨_, rz_cd72⟩
  | 73, _ => exact ⟨_, rz_cd73⟩
  | 74, _ => exact ⟨_, rz_cd74⟩
  | 75, _ => exact ⟨_, rz_cd75⟩
  | 76, _ => exact ⟨_, rz_cd76⟩
  | 77, _ => exact ⟨_, rz_cd77⟩
  | 78, _ => exact ⟨_, rz_cd78⟩
  | 79, _ => exact ⟨_, rz_cd79⟩
  | 80, _ => exact ⟨_, rz_cd80⟩
  | 81, _ => exact ⟨_, rz_cd81⟩
  | 82, _ => exact ⟨_, rz_cd82⟩
  | 83, _ => exact ⟨_, rz_cd83⟩
  | 84, _ => exact ⟨_, rz_cd84⟩
  | 85, _ => exact ⟨_, rz_cd85⟩
  | 86, _ => exact ⟨_, rz_cd86⟩
  | 87, _ => exact ⟨_, rz_cd87⟩
  | 88, _ => exact ⟨_, rz_cd88⟩
  | 89, _ => exact ⟨_, rz_cd89⟩
  | 90, _ => exact ⟨_, rz_cd90⟩
  | 91, _ => exact ⟨_, rz_cd91⟩
  | 92, _ => exact ⟨_, rz_cd92⟩
  | 93, _ => exact ⟨_, rz_cd93⟩
  | 94, _ => exact ⟨_, rz_cd94⟩
  | 95, _ => exact ⟨_, rz_cd95⟩
  | 96, _ => exact ⟨_, rz_cd96⟩
  | 97, _ => exact ⟨_, rz_cd97⟩
  | 98, _ => exact ⟨_, rz_cd98⟩
  | 99, _ => exact ⟨_, rz_cd99⟩
  | 100, _ => exact ⟨_, rz_cd100⟩
  | 101, _ => exact ⟨_, rz_cd101⟩
  | 102, _ => exact ⟨_, rz_cd102⟩
  | 103, _ => exact ⟨_, rz_cd103⟩
  | 104, _ => exact ⟨_, rz_cd104⟩
  | 105, _ => exact ⟨_, rz_cd105⟩
  | 106, _ => exact ⟨_, rz_cd106⟩
  | 107, _ => exact ⟨_, rz_cd107⟩
  | 108, _ => exact ⟨_, rz_cd108⟩
  | 109, _ => exact ⟨_, rz_cd109⟩
  | 110, _ => exact ⟨_, rz_cd110⟩
  | 111, _ => exact ⟨_, rz_cd111⟩
  | 112, _ => exact ⟨_, rz_cd112⟩
  | 113, _ => exact ⟨_, rz_cd113⟩
  | 114, _ => exact ⟨_, rz_cd114⟩
  | 115, _ => exact ⟨_, rz_cd115⟩
  | 116, _ => exact ⟨_, rz_cd116⟩
  | 117, _ => exact ⟨_, rz_cd117⟩
  | 118, _ => exact ⟨_, rz_cd118⟩
  | 119, _ => exact ⟨_, rz_cd119⟩
  | 120, _ => exact ⟨_, rz_cd120⟩
  | 121, _ => exact ⟨_, rz_cd121⟩
  | 122, _ => exact ⟨_, rz_cd122⟩
  | 123, _ => exact ⟨_, rz_cd123⟩
  | 124, _ => exact ⟨_, rz_cd124⟩
  | 125, _ => exact ⟨_, rz_cd125⟩
  | 126, _ => exact ⟨_, rz_cd126⟩
  | n + 127, h => omega
theorem rz_okM : ∀ k, k < 127 → (rz_kd k = 1 → lw_tbl[rz_xI k]? = some (Cond.static (rz_Y k))) ∧ (rz_kd k ≠ 1 → lw_tbl[rz_xI k]? = some (Cond.instanceMethod (rz_Y k))) ∧ (rz_kd k = 0 → lw_tbl[rz_xS k]? = some (Cond.selects (rz_Y k).cls (rz_Y k) (rz_Y k))) := by decide +kernel
theorem rz_okY : ∀ k, k < 128 → (rz_Y k).cls = rz_R (rz_K k) ∧ rz_K k < 10 ∧ ((rz_Y k).cls ≠ "java/lang/invoke/MethodHandle" ∧ (rz_Y k).cls ≠ "java/lang/invoke/VarHandle") ∧ (parseMethodDescriptor (rz_Y k).desc).map (fun d => d.parameters.length) = some (rz_np k) ∧ rz_ML k ≤ 11 ∧ rz_np k + (if rz_kd k = 1 then 0 else 1) ≤ rz_ML k ∧ (rz_kd k = 2 → (rz_Y k).name = "<init>" ∧ rz_RT k = none) ∧ plainName (rz_Y k).cls = true := by decide +kernel
theorem rz_okN : ∀ c, c < 10 → lw_tbl[rz_xN c]? = some (Cond.initialized (rz_R c)) := by decide +kernel
theorem rz_okC : ∀ c, c < 9 → lw_tbl[rz_xN c]? = some (Cond.initialized (rz_R c)) ∧ lw_tbl[rz_xW c]? = some (Cond.instantiable (rz_R c) (rz_N c)) ∧ rz_cls[c]? = some (rz_R c, rz_T c, rz_N c) := by
  intro c hc
  refine ⟨?_, ?_, ?_⟩
  · revert c; decide +kernel
  · revert c; decide +kernel
  · match c, hc with
    | 0, _ => rfl
    | 1, _ => rfl
    | 2, _ => rfl
    | 3, _ => rfl
    | 4, _ => rfl
    | 5, _ => rfl
    | 6, _ => rfl
    | 7, _ => rfl
    | 8, _ => rfl
    | n + 9, h => omega
-- links by class number and index: fields ((class, index), (class of the field, its place), place in the tables)
def rz_fl : List ((Nat × Nat) × (Nat × Nat)) := [((3, 9), (3, 0)), ((3, 15), (3, 1)), ((3, 18), (3, 2)), ((3, 21), (3, 3)), ((3, 24), (3, 4)), ((3, 31), (3, 5)), ((3, 35), (3, 6)), ((3, 38), (3, 7)), ((1, 9), (1, 0)), ((1, 15), (1, 1)), ((1, 18), (1, 2)), ((1, 21), (1, 3)), ((1, 28), (1, 4)), ((4, 9), (4, 0)), ((4, 19), (4, 1)), ((6, 12), (6, 0)), ((8, 133), (6, 0)), ((6, 21), (6, 1)), ((8, 185), (6, 1)), ((6, 28), (6, 2)), ((8, 79), (6, 2)), ((6, 42), (6, 3)), ((8, 219), (6, 3)), ((6, 46), (6, 4)), ((8, 221), (6, 4)), ((6, 49), (6, 5)), ((8, 234), (6, 5)), ((0, 11), (0, 0)), ((0, 18), (0, 1)), ((7, 9), (7, 0)), ((7, 15), (7, 1)), ((2, 9), (2, 0)), ((2, 15), (2, 1)), ((2, 19), (2, 2)), ((2, 22), (2, 3)), ((2, 30), (2, 4)), ((5, 12), (5, 0)), ((5, 18), (5, 1)), ((5, 22), (5, 2)), ((5, 26), (5, 3)), ((5, 33), (5, 4)), ((8, 10), (8, 0)), ((8, 16), (8, 1)), ((8, 19), (8, 2)), ((8, 25), (8, 3)), ((8, 32), (8, 4)), ((8, 39), (8, 5)), ((8, 46), (8, 6)), ((8, 129), (8, 7)), ((8, 122), (8, 8)), ((8, 50), (8, 9))]
def rz_flx : List Nat := [50, 51, 52, 53, 54, 55, 56, 57, 82, 83, 84, 85, 86, 104, 105, 111, 112, 113, 114, 115, 116, 117, 118, 119, 120, 121, 122, 145, 146, 158, 159, 172, 173, 174, 175, 176, 196, 197, 198, 199, 200, 212, 213, 214, 215, 216, 217, 218, 219, 220, 221]
theorem rz_okF : (rz_fl.zip rz_flx).all (fun q => decide (lw_tbl[q.2]? = some (Cond.fieldLink (rz_R q.1.1.1) q.1.1.2 (rz_R q.1.2.1) (rz_T q.1.2.1 q.1.2.2).2.1 (rz_T q.1.2.1 q.1.2.2).2.2.1)) && decide (q.1.2.1 < 9) && decide (q.1.2.2 < rz_N q.1.2.1) && decide ((rz_T q.1.2.1 q.1.2.2).1 = rz_R q.1.2.1)) = true := by decide +kernel
-- methods: ((class, index), (kind, number)): 0 virtual, 1 static, 2 constructor, 3 static of a nest mate, 5 arraycopy, 6 min, 7 max, 8 Object()
def rz_ml : List ((Nat × Nat) × (Nat × Nat)) := [((9, 80), (2, 87)), ((8, 1), (8, 0)), ((8, 9), (2, 74)), ((6, 3), (8, 0)), ((6, 11), (2, 26)), ((3, 3), (8, 0)), ((6, 20), (2, 6)), ((1, 3), (8, 0)), ((6, 27), (2, 56)), ((4, 3), (8, 0)), ((8, 24), (2, 0)), ((0, 3), (8, 0)), ((0, 17), (2, 74)), ((8, 31), (2, 82)), ((7, 3), (8, 0)), ((8, 38), (2, 11)), ((2, 3), (8, 0)), ((8, 45), (2, 63)), ((5, 3), (8, 0)), ((5, 11), (2, 26)), ((9, 32), (0, 88)), ((8, 54), (0, 75)), ((6, 32), (0, 27)), ((8, 243), (6, 0)), ((8, 248), (5, 0)), ((6, 36), (0, 7)), ((6, 39), (0, 57)), ((8, 58), (0, 76)), ((6, 56), (0, 30)), ((6, 60), (0, 32)), ((6, 64), (0, 41)), ((3, 52), (0, 32)), ((3, 56), (0, 43)), ((8, 62), (0, 112)), ((8, 239), (0, 3)), ((0, 22), (0, 4)), ((0, 25), (0, 2)), ((0, 29), (0, 75)), ((9, 87), (0, 89)), ((8, 66), (0, 77)), ((6, 68), (0, 45)), ((3, 73), (0, 35)), ((3, 41), (0, 33)), ((6, 71), (0, 49)), ((3, 45), (0, 38)), ((6, 75), (0, 34)), ((6, 79), (0, 35)), ((6, 82), (0, 36)), ((6, 85), (0, 37)), ((6, 88), (0, 8)), ((1, 32), (1, 9)), ((1, 42), (5, 0)), ((1, 36), (6, 0)), ((6, 91), (0, 42)), ((3, 59), (5, 0)), ((9, 38), (0, 90)), ((8, 70), (0, 78)), ((6, 94), (0, 77)), ((9, 41), (0, 91)), ((8, 73), (0, 79)), ((6, 97), (0, 40)), ((3, 49), (0, 34)), ((6, 100), (0, 44)), ((3, 65), (0, 42)), ((3, 69), (0, 41)), ((9, 44), (0, 92)), ((8, 76), (0, 80)), ((9, 47), (0, 93)), ((8, 83), (0, 61)), ((4, 27), (0, 59)), ((4, 31), (0, 60)), ((9, 51), (0, 94)), ((8, 89), (0, 62)), ((9, 81), (0, 99)), ((8, 125), (0, 5)), ((9, 177), (0, 100)), ((8, 137), (0, 29)), ((9, 84), (0, 101)), ((9, 17), (0, 111)), ((8, 224), (0, 30)), ((8, 227), (0, 31)), ((8, 230), (0, 55)), ((3, 88), (0, 53)), ((8, 233), (0, 58)), ((8, 237), (0, 1)), ((8, 238), (0, 83)), ((9, 174), (1, 117)), ((9, 170), (1, 118)), ((9, 72), (1, 119)), ((9, 9), (0, 106)), ((8, 182), (0, 54)), ((9, 21), (0, 102)), ((8, 140), (0, 40)), ((8, 143), (0, 35)), ((8, 146), (0, 36)), ((8, 149), (0, 38)), ((8, 152), (0, 39)), ((8, 155), (0, 37)), ((9, 25), (0, 107)), ((8, 189), (0, 10)), ((9, 28), (0, 108)), ((8, 194), (1, 115)), ((8, 197), (0, 59)), ((9, 90), (1, 121)), ((9, 76), (1, 120)), ((9, 54), (0, 98)), ((9, 57), (0, 103)), ((8, 158), (0, 50)), ((8, 161), (0, 51)), ((8, 164), (0, 52)), ((3, 82), (7, 0)), ((8, 167), (0, 53)), ((9, 60), (0, 104)), ((8, 170), (0, 45)), ((8, 173), (0, 34)), ((8, 176), (0, 48)), ((3, 79), (0, 50)), ((9, 63), (0, 105)), ((8, 179), (0, 46)), ((3, 76), (0, 47)), ((9, 66), (0, 109)), ((8, 200), (0, 69)), ((5, 40), (0, 70)), ((5, 54), (0, 28)), ((5, 43), (0, 71)), ((5, 55), (0, 41)), ((5, 47), (0, 29)), ((5, 50), (0, 72)), ((5, 59), (0, 45)), ((5, 62), (0, 49)), ((5, 66), (0, 35)), ((5, 70), (0, 36)), ((5, 73), (0, 42)), ((5, 76), (7, 0)), ((5, 82), (0, 73)), ((5, 86), (0, 59)), ((5, 91), (0, 68)), ((8, 204), (0, 68)), ((9, 69), (0, 110)), ((8, 207), (0, 64)), ((8, 210), (0, 65)), ((8, 213), (0, 66)), ((5, 29), (0, 31)), ((8, 216), (0, 67)), ((9, 160), (1, 122)), ((9, 164), (1, 123)), ((9, 167), (1, 126)), ((9, 107), (1, 125)), ((9, 100), (1, 124)), ((9, 96), (0, 95)), ((8, 92), (0, 84)), ((9, 104), (0, 97)), ((8, 99), (0, 17)), ((2, 33), (0, 18)), ((2, 37), (0, 86)), ((2, 43), (0, 19)), ((2, 57), (0, 23)), ((2, 65), (1, 24)), ((2, 61), (0, 25)), ((2, 46), (0, 20)), ((2, 50), (0, 21)), ((2, 53), (0, 22)), ((8, 103), (0, 12)), ((8, 106), (0, 14)), ((2, 26), (0, 13)), ((8, 109), (0, 15)), ((8, 112), (0, 16)), ((8, 115), (0, 81)), ((6, 104), (0, 76)), ((6, 107), (0, 80)), ((6, 110), (0, 79)), ((8, 118), (1, 113)), ((9, 149), (0, 96)), ((8, 96), (0, 85)), ((3, 27), (3, 116)), ((1, 24), (3, 116)), ((4, 15), (3, 116)), ((6, 52), (3, 114)), ((4, 23), (3, 115)), ((5, 36), (3, 115))]
def rz_mlx : List Nat := [32, 35, 40, 43, 46, 49, 78, 81, 100, 103, 138, 141, 144, 154, 157, 168, 171, 190, 193, 195, 243, 247, 251, 258, 261, 264, 269, 274, 282, 286, 290, 294, 295, 299, 303, 307, 311, 315, 316, 320, 324, 328, 332, 336, 340, 344, 348, 349, 353, 357, 361, 364, 365, 366, 370, 371, 375, 379, 380, 384, 388, 392, 393, 397, 398, 399, 403, 407, 411, 418, 422, 426, 430, 434, 438, 442, 446, 450, 454, 458, 459, 463, 467, 471, 475, 479, 483, 487, 491, 494, 498, 503, 507, 508, 509, 510, 511, 515, 516, 520, 524, 528, 529, 530, 533, 538, 542, 546, 550, 554, 558, 561, 562, 566, 567, 568, 572, 573, 577, 581, 585, 589, 593, 597, 601, 605, 606, 607, 611, 612, 613, 614, 615, 617, 618, 622, 623, 627, 628, 632, 636, 640, 644, 645, 649, 652, 655, 658, 661, 665, 669, 673, 677, 681, 685, 689, 694, 698, 701, 705, 709, 713, 717, 721, 725, 729, 733, 737, 741, 742, 743, 744, 766, 770, 255, 268, 273, 278, 415, 616]
def rz_mw (q : (Nat × Nat) × (Nat × Nat)) : Cond := match q.2.1 with
  | 3 => Cond.methodLinkNest (rz_R q.1.1) q.1.2 (rz_Y q.2.2) "RisingPiles"
  | 5 => Cond.methodLink (rz_R q.1.1) q.1.2 arraycopyName
  | 6 => Cond.methodLink (rz_R q.1.1) q.1.2 Lib.Math.min.name
  | 7 => Cond.methodLink (rz_R q.1.1) q.1.2 Lib.Math.max.name
  | 8 => Cond.methodLink (rz_R q.1.1) q.1.2 Lib.objectInit
  | _ => Cond.methodLink (rz_R q.1.1) q.1.2 (rz_Y q.2.2)
theorem rz_okL : (rz_ml.zip rz_mlx).all (fun q => decide (lw_tbl[q.2]? = some (rz_mw q.1)) && decide (q.1.2.2 < 127) && (decide (rz_kd q.1.2.2 = q.1.2.1) || decide (4 < q.1.2.1) || (decide (q.1.2.1 = 3) && decide (rz_kd q.1.2.2 = 1))) && decide (q.1.1.1 < 10)) = true := by decide +kernel
-- classes that new and anewarray name
def rz_cl : List ((Nat × Nat) × Nat) := [((9, 10), 8), ((8, 7), 6), ((6, 9), 3), ((6, 18), 1), ((6, 25), 4), ((8, 22), 0), ((0, 9), 6), ((8, 29), 7), ((8, 36), 2), ((8, 43), 5), ((5, 9), 3)]
def rz_clx : List Nat := [30, 38, 44, 76, 98, 136, 142, 152, 166, 188, 194]
theorem rz_okK : (rz_cl.zip rz_clx).all (fun q => decide (lw_tbl[q.2]? = some (Cond.classLink (rz_R q.1.1.1) q.1.1.2 (rz_R q.1.2))) && decide (q.1.2 < 9)) = true := by decide +kernel
def rz_kl : List ((Nat × Nat) × Int32) := [((8, 242), 65535), ((9, 7), 2147483647), ((9, 8), 2654435), ((9, 31), 65536), ((9, 37), 65535), ((2, 56), 65535)]
def rz_klx : List Nat := [281, 486, 490, 536, 537, 693]
theorem rz_okI : (rz_kl.zip rz_klx).all (fun q => decide (lw_tbl[q.2]? = some (Cond.constant (rz_R q.1.1.1) q.1.1.2 q.1.2))) = true := by decide +kernel
def rz_kL : List ((Nat × Nat) × Int64) := [((9, 15), 31), ((9, 94), 255), ((9, 111), 47511820907318), ((9, 113), 12157550001664048), ((9, 115), 516221317168), ((9, 117), 15411), ((9, 119), 2830385), ((9, 121), 11564), ((9, 123), 45), ((9, 125), 2830650), ((9, 127), 120), ((9, 129), 3945277), ((9, 131), 4337878169118126901), ((9, 133), 3113734694981941817), ((9, 135), 97), ((9, 137), 11565), ((9, 139), 185509490738), ((9, 141), 16942581639298353), ((9, 143), 12715268667878201), ((9, 145), 3114006231404656940), ((9, 147), 49668011605301), ((9, 152), 3255026298693631283), ((9, 154), 11058), ((9, 156), 43), ((9, 158), 2960429)]
def rz_kLx : List Nat := [502, 664, 747, 748, 749, 750, 751, 752, 753, 754, 755, 756, 757, 758, 759, 760, 761, 762, 763, 764, 765, 774, 775, 776, 777]
theorem rz_okG : (rz_kL.zip rz_kLx).all (fun q => decide (lw_tbl[q.2]? = some (Cond.constantLong (rz_R q.1.1.1) q.1.1.2 q.1.2))) = true := by decide +kernel
theorem rz_w1 : Cond.native arraycopyName ∈ lw_tbl := List.mem_of_getElem? (i := 263) (by decide +kernel)
theorem rz_w2 : Cond.static arraycopyName ∈ lw_tbl := List.mem_of_getElem? (i := 262) (by decide +kernel)
theorem rz_w3 : Cond.initialized "java/lang/System" ∈ lw_tbl := List.mem_of_getElem? (i := 29) (by decide +kernel)
theorem rz_w4 : Cond.initialized "java/lang/Math" ∈ lw_tbl := List.mem_of_getElem? (i := 28) (by decide +kernel)
theorem rz_w5 : Cond.static Lib.Math.min.name ∈ lw_tbl ∧ Cond.code Lib.Math.min.name Lib.Math.min.code 2 (some .int) ∈ lw_tbl := ⟨List.mem_of_getElem? (i := 259) (by decide +kernel), List.mem_of_getElem? (i := 260) (by decide +kernel)⟩
theorem rz_w6 : Cond.static Lib.Math.max.name ∈ lw_tbl ∧ Cond.code Lib.Math.max.name Lib.Math.max.code 2 (some .int) ∈ lw_tbl := ⟨List.mem_of_getElem? (i := 559) (by decide +kernel), List.mem_of_getElem? (i := 560) (by decide +kernel)⟩
theorem rz_w7 : Cond.instanceMethod Lib.objectInit ∈ lw_tbl ∧ Cond.code Lib.objectInit ⟨#[0xb1]⟩ 1 none ∈ lw_tbl := ⟨List.mem_of_getElem? (i := 36) (by decide +kernel), List.mem_of_getElem? (i := 37) (by decide +kernel)⟩
theorem rz_w9 : Cond.arrayClass .long ∈ lw_tbl := List.mem_of_getElem? (i := 778) (by decide +kernel)
theorem rz_w8 : Cond.arrayClass .int ∈ lw_tbl ∧ Cond.arrayClass .char ∈ lw_tbl ∧ Cond.arrayOver (.object "RisingPiles$State") ∈ lw_tbl := ⟨List.mem_of_getElem? (i := 75) (by decide +kernel), List.mem_of_getElem? (i := 165) (by decide +kernel), List.mem_of_getElem? (i := 143) (by decide +kernel)⟩
