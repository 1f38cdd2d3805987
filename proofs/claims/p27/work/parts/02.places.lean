/-! A machine of places: the cells of the system's own objects by the order in which they were made (place a stands for the address b0 + a), values with places for addresses.
rz_go n d k pc lv st hp R: method k, at pc, with locals lv and operand stack st over the cells hp, comes within n steps and d frames to its end, and R holds of what it answers and of the cells then. -/
abbrev rz_Cl : Type := (Nat × Nat × (Nat → Int32)) ⊕ ((Nat × (Nat → Option Nat)) ⊕ (Nat × List Value))
abbrev rz_Hp : Type := (Nat → rz_Cl) × Nat × Nat
/-- a field of an object, an array of ints (kind 0) or chars (kind 1), an array of references, an array's length, an object's class -/
def rz_fv (hp : rz_Hp) (a ci j : Nat) : Option Value := if a < hp.2.1 then (match hp.1 a with | .inr (.inr (c, fs)) => if c = ci then fs[j]? else none | _ => none) else none
def rz_av (hp : rz_Hp) (a : Nat) : Option (Nat × Nat × (Nat → Int32)) := if a < hp.2.1 then (match hp.1 a with | .inl x => some x | _ => none) else none
def rz_qv (hp : rz_Hp) (a : Nat) : Option (Nat × (Nat → Option Nat)) := if a < hp.2.1 then (match hp.1 a with | .inr (.inl x) => some x | _ => none) else none
def rz_ln (hp : rz_Hp) (a : Nat) : Option Nat := if a < hp.2.1 then (match hp.1 a with | .inl x => some x.2.1 | .inr (.inl x) => some x.1 | _ => none) else none
def rz_co (hp : rz_Hp) (a : Nat) : Option Nat := if a < hp.2.1 then (match hp.1 a with | .inr (.inr x) => some x.1 | _ => none) else none
def rz_set (hp : rz_Hp) (a : Nat) (c : rz_Cl) : rz_Hp := (fun j => if j = a then c else hp.1 j, hp.2)
def rz_pf (hp : rz_Hp) (a j : Nat) (v : Value) : rz_Hp := rz_set hp a (match hp.1 a with | .inr (.inr (c, fs)) => .inr (.inr (c, fs.set j v)) | x => x)
def rz_pa (hp : rz_Hp) (a : Nat) (f : Nat → Int32) : rz_Hp := rz_set hp a (match hp.1 a with | .inl (t, n, _) => .inl (t, n, f) | x => x)
def rz_pq (hp : rz_Hp) (a : Nat) (f : Nat → Option Nat) : rz_Hp := rz_set hp a (match hp.1 a with | .inr (.inl (n, _)) => .inr (.inl (n, f)) | x => x)
def rz_push (hp : rz_Hp) (c : rz_Cl) (n : Nat) : rz_Hp := (fun j => if j = hp.2.1 then c else hp.1 j, hp.2.1 + 1, hp.2.2 + n)
def rz_one : Value → Bool
  | .int _ => true
  | .ref _ => true
  | .null => true
  | .float _ => true
  | _ => false
/-- a float stands for the script of the law, whose contents the cells hold at a place beyond all others -/
def rz_val : Value → Bool
  | .long _ => true
  | v => rz_one v
def rz_sl : List Value → List (Option Value)
  | [] => []
  | .long x :: l => some (.long x) :: none :: rz_sl l
  | v :: l => some v :: rz_sl l
def rz_cs (l : List Value) : Nat := (rz_sl l).length
def rz_SP : Nat := 1000000
def rz_scr (hp : rz_Hp) : Option (Nat × (Nat → Int32)) := match hp.1 rz_SP with
  | .inl (2, n, f) => some (n, f)
  | _ => none
/-- no long ends at a local -/
def rz_nl (lv : List (Option Value)) : Nat → Bool
  | 0 => true
  | i + 1 => match lv[i]? with
    | some (some (.long _)) => false
    | _ => true
def rz_fit : FieldType → Value → Prop
  | .int, .int _ => True
  | .boolean, .int v => v = 0 ∨ v = 1
  | .object _, .ref _ => True
  | .object _, .null => True
  | .array _, .ref _ => True
  | .array _, .null => True
  | _, _ => False
def rz_en (k : Nat) (as : List Value) : List (Option Value) := rz_sl as ++ List.replicate (rz_ML k - (rz_sl as).length) none
def rz_dv (ci : Nat) : List Value := (List.range (rz_N ci)).map (fun j => defaultValue (rz_ty ci j))
/-- to a place of the code, by an offset -/
def rz_to (pc : Nat) (off : Int) (f : Nat → Prop) : Prop := 0 ≤ (pc : Int) + off ∧ f ((pc : Int) + off).toNat
section RZ1
variable (lv : List (Option Value)) (st : List Value)
def rz_ldi (i : Nat) (f : Value → Prop) : Prop := match lv[i]? with
  | some (some (.int x)) => f (.int x)
  | _ => False
def rz_lda (i : Nat) (f : Value → Prop) : Prop := match lv[i]? with
  | some (some (.ref x)) => f (.ref x)
  | some (some .null) => f .null
  | some (some (.float x)) => f (.float x)
  | _ => False
def rz_ldl (i : Nat) (f : Value → Prop) : Prop := match lv[i]? with
  | some (some (.long x)) => f (.long x)
  | _ => False
def rz_stl (i : Nat) (f : List (Option Value) → List Value → Prop) : Prop := match st with
  | .long x :: s2 => (i + 1 < lv.length ∧ rz_nl lv i = true) ∧ f ((lv.set i (some (.long x))).set (i + 1) none) s2
  | _ => False
def rz_sti (i : Nat) (f : List (Option Value) → List Value → Prop) : Prop := match st with
  | .int x :: s2 => i < lv.length ∧ f (lv.set i (some (.int x))) s2
  | _ => False
def rz_sta (i : Nat) (f : List (Option Value) → List Value → Prop) : Prop := match st with
  | .ref x :: s2 => i < lv.length ∧ f (lv.set i (some (.ref x))) s2
  | .null :: s2 => i < lv.length ∧ f (lv.set i (some .null)) s2
  | _ => False
def rz_i1 (f : Int32 → List Value → Prop) : Prop := match st with
  | .int x :: s2 => f x s2
  | _ => False
def rz_i2 (f : Int32 → Int32 → List Value → Prop) : Prop := match st with
  | .int y :: .int x :: s2 => f x y s2
  | _ => False
def rz_l1 (f : Int64 → List Value → Prop) : Prop := match st with
  | .long x :: s2 => f x s2
  | _ => False
def rz_l2 (f : Int64 → Int64 → List Value → Prop) : Prop := match st with
  | .long y :: .long x :: s2 => f x y s2
  | _ => False
def rz_li (f : Int64 → Int32 → List Value → Prop) : Prop := match st with
  | .int y :: .long x :: s2 => f x y s2
  | _ => False
def rz_r1 (f : Nat → List Value → Prop) : Prop := match st with
  | .ref a :: s2 => f a s2
  | _ => False
end RZ1
section RZ2
variable (k : Nat) (nat : Prop) (len pc : Nat) (lv : List (Option Value)) (st : List Value) (hp : rz_Hp) (K : Nat → List (Option Value) → List Value → rz_Hp → Prop) (Ca : Nat → List Value → rz_Hp → (Option Value → rz_Hp → Prop) → Prop) (R : Option Value → rz_Hp → Prop)
def rz_inv (index : Nat) : Prop := match rz_ml.lookup (rz_K k, index) with
  | some (0, k2) => (match st.drop (rz_np k2) with
    | .ref b :: rest => rz_co hp b = some (rz_K k2) ∧ rz_np k2 ≤ st.length ∧ st.all rz_val = true ∧ (rz_cs rest ≤ 8 ∧ rz_cs (.ref b :: (st.take (rz_np k2)).reverse) ≤ rz_ML k2 ∧ (rz_K k2 = 9 ∨ (Value.ref b :: (st.take (rz_np k2)).reverse).all rz_one = true)) ∧ nat ∧ Ca k2 (.ref b :: (st.take (rz_np k2)).reverse) hp (fun r h => K (pc + 3) lv (r.toList ++ rest) h)
    | _ => False)
  | _ => False
def rz_ins (index : Nat) : Prop := match rz_ml.lookup (rz_K k, index) with
  | some (2, k2) => (match st.drop (rz_np k2) with
    | .ref b :: rest => rz_np k2 ≤ st.length ∧ st.all rz_val = true ∧ (rz_cs rest ≤ 8 ∧ rz_cs (.ref b :: (st.take (rz_np k2)).reverse) ≤ rz_ML k2 ∧ (rz_K k2 = 9 ∨ (Value.ref b :: (st.take (rz_np k2)).reverse).all rz_one = true)) ∧ nat ∧ Ca k2 (.ref b :: (st.take (rz_np k2)).reverse) hp (fun r h => K (pc + 3) lv (r.toList ++ rest) h)
    | _ => False)
  | some (8, _) => (match st with
    | .ref _ :: rest => rest.all rz_val = true ∧ rz_cs rest ≤ 8 ∧ nat ∧ K (pc + 3) lv rest hp
    | _ => False)
  | _ => False
def rz_cpS (f : Nat → Nat → Nat → Int32 → Int32 → Int32 → List Value → Prop) : Prop := match st with
  | .int n :: .int dp :: .ref a :: .int sp :: .ref a0 :: rest => f a0 a 0 sp dp n rest
  | _ => False
def rz_inS (index : Nat) : Prop := match rz_ml.lookup (rz_K k, index) with
  | some (1, k2) => rz_np k2 ≤ st.length ∧ st.all rz_val = true ∧ (rz_cs (st.drop (rz_np k2)) ≤ 8 ∧ rz_cs (st.take (rz_np k2)).reverse ≤ rz_ML k2 ∧ (rz_K k2 = 9 ∨ (st.take (rz_np k2)).reverse.all rz_one = true)) ∧ nat ∧ Ca k2 (st.take (rz_np k2)).reverse hp (fun r h => K (pc + 3) lv (r.toList ++ st.drop (rz_np k2)) h)
  | some (3, k2) => rz_np k2 ≤ st.length ∧ st.all rz_val = true ∧ (rz_cs (st.drop (rz_np k2)) ≤ 8 ∧ rz_cs (st.take (rz_np k2)).reverse ≤ rz_ML k2 ∧ (rz_K k2 = 9 ∨ (st.take (rz_np k2)).reverse.all rz_one = true)) ∧ nat ∧ Ca k2 (st.take (rz_np k2)).reverse hp (fun r h => K (pc + 3) lv (r.toList ++ st.drop (rz_np k2)) h)
  | some (5, _) => rz_cpS st (fun a0 a _ sp dp n rest => rest.all rz_val = true ∧ rz_cs rest ≤ 8 ∧ nat ∧ ∃ n0 f n1 g, rz_av hp a0 = some (0, n0, f) ∧ rz_av hp a = some (0, n1, g) ∧ ¬ sp < 0 ∧ ¬ dp < 0 ∧ ¬ n < 0 ∧ sp.toNatClampNeg + n.toNatClampNeg ≤ n0 ∧ dp.toNatClampNeg + n.toNatClampNeg ≤ n1 ∧ K (pc + 3) lv rest (rz_pa hp a (va_cpy f g sp.toNatClampNeg dp.toNatClampNeg n.toNatClampNeg)))
  | some (6, _) => rz_i2 st (fun x y rest => rest.all rz_val = true ∧ rz_cs rest ≤ 8 ∧ nat ∧ K (pc + 3) lv (.int (if y < x then y else x) :: rest) hp)
  | some (7, _) => rz_i2 st (fun x y rest => rest.all rz_val = true ∧ rz_cs rest ≤ 8 ∧ nat ∧ K (pc + 3) lv (.int (if x < y then y else x) :: rest) hp)
  | _ => False
def rz_getf (index : Nat) : Prop := rz_r1 st (fun a s2 => match rz_fl.lookup (rz_K k, index) with
  | some (ci, j) => ∃ v, rz_fv hp a ci j = some v ∧ K (pc + 3) lv (v :: s2) hp
  | none => False)
def rz_putf (index : Nat) : Prop := match st with
  | v :: .ref a :: s2 => (match rz_fl.lookup (rz_K k, index) with
    | some (ci, j) => (∃ w, rz_fv hp a ci j = some w) ∧ rz_fit (rz_ty ci j) v ∧ ((rz_T ci j).2.2.2 = true → (rz_Y k).name = "<init>" ∧ ci = rz_K k) ∧ K (pc + 3) lv s2 (rz_pf hp a j v)
    | none => False)
  | _ => False
def rz_ald (t : Nat) : Prop := match st with
  | .int i :: .ref a :: s2 => ∃ n f, rz_av hp a = some (t, n, f) ∧ vp_in i n ∧ K (pc + 1) lv (.int (f i.toNatClampNeg) :: s2) hp
  | .int i :: .float _ :: s2 => t = 0 ∧ ∃ n f, rz_scr hp = some (n, f) ∧ vp_in i n ∧ K (pc + 1) lv (.int (f i.toNatClampNeg) :: s2) hp
  | _ => False
def rz_alen : Prop := match st with
  | .ref a :: s2 => ∃ n, rz_ln hp a = some n ∧ K (pc + 1) lv (.int (Int32.ofNat n) :: s2) hp
  | .float _ :: s2 => ∃ n f, rz_scr hp = some (n, f) ∧ K (pc + 1) lv (.int (Int32.ofNat n) :: s2) hp
  | _ => False
def rz_lald : Prop := match st with
  | .int i :: .ref a :: s2 => ∃ v, ¬ i < 0 ∧ rz_fv hp a 10 i.toNatClampNeg = some (.long v) ∧ K (pc + 1) lv (.long v :: s2) hp
  | _ => False
def rz_last : Prop := match st with
  | .long x :: .int i :: .ref a :: s2 => ¬ i < 0 ∧ (∃ w, rz_fv hp a 10 i.toNatClampNeg = some w) ∧ K (pc + 1) lv s2 (rz_pf hp a i.toNatClampNeg (.long x))
  | _ => False
def rz_ast (t : Nat) (nar : Int32 → Int32) : Prop := match st with
  | .int x :: .int i :: .ref a :: s2 => ∃ n f, rz_av hp a = some (t, n, f) ∧ vp_in i n ∧ K (pc + 1) lv s2 (rz_pa hp a (upd f i.toNatClampNeg (nar x)))
  | _ => False
def rz_aald : Prop := match st with
  | .int i :: .ref a :: s2 => ∃ n f, rz_qv hp a = some (n, f) ∧ vp_in i n ∧ K (pc + 1) lv (va_rf (f i.toNatClampNeg) :: s2) hp
  | _ => False
def rz_aast : Prop := match st with
  | .ref v :: .int i :: .ref a :: s2 => ∃ n f, rz_qv hp a = some (n, f) ∧ vp_in i n ∧ rz_co hp v = some 6 ∧ K (pc + 1) lv s2 (rz_pq hp a (va_up f i.toNatClampNeg (some v)))
  | _ => False
def rz_newa (f : Int32 → List Value → Prop) : Prop := rz_i1 st (fun n s2 => ¬ n < 0 ∧ n.toNatClampNeg ≤ 4096 ∧ f n s2)
def rz_iret : Prop := match st with
  | [.int v] => (match rz_RT k with
    | some .int => R (some (.int v)) hp
    | some .boolean => (v = 0 ∨ v = 1) ∧ R (some (.int v)) hp
    | _ => False)
  | _ => False
def rz_arT : Prop := match rz_RT k with
  | some (.object _) => True
  | _ => False
def rz_lret : Prop := match st with
  | [.long v] => rz_RT k = some .long ∧ R (some (.long v)) hp
  | _ => False
def rz_aret : Prop := match st with
  | [.ref a] => rz_arT k ∧ R (some (.ref a)) hp
  | [.null] => rz_arT k ∧ R (some .null) hp
  | _ => False
/-- one step -/
def rz_stp (i : Instr) : Prop := match i with
  | .aload_n j => len = 1 ∧ rz_lda lv j.val (fun v => K (pc + 1) lv (v :: st) hp)
  | .iload_n j => len = 1 ∧ rz_ldi lv j.val (fun v => K (pc + 1) lv (v :: st) hp)
  | .iload j => len = 2 ∧ rz_ldi lv j (fun v => K (pc + 2) lv (v :: st) hp)
  | .astore_n j => len = 1 ∧ (rz_K k ≠ 9 ∨ rz_nl lv j.val = true) ∧ rz_sta lv st j.val (fun lv' s2 => K (pc + 1) lv' s2 hp)
  | .istore_n j => len = 1 ∧ (rz_K k ≠ 9 ∨ rz_nl lv j.val = true) ∧ rz_sti lv st j.val (fun lv' s2 => K (pc + 1) lv' s2 hp)
  | .istore j => len = 2 ∧ (rz_K k ≠ 9 ∨ rz_nl lv j = true) ∧ rz_sti lv st j (fun lv' s2 => K (pc + 2) lv' s2 hp)
  | .iinc j c => len = 3 ∧ (match lv[j]? with
    | some (some (.int x)) => K (pc + 3) (lv.set j (some (.int (x + Int32.ofInt c)))) st hp
    | _ => False)
  | .iconst n => len = 1 ∧ K (pc + 1) lv (.int (Int32.ofInt n) :: st) hp
  | .bipush n => len = 2 ∧ K (pc + 2) lv (.int (Int8.ofInt n).toInt32 :: st) hp
  | .sipush n => len = 3 ∧ K (pc + 3) lv (.int (Int16.ofInt n).toInt32 :: st) hp
  | .ldc index => len = 2 ∧ (match rz_kl.lookup (rz_K k, index) with
    | some v => K (pc + 2) lv (.int v :: st) hp
    | none => False)
  | .aconst_null => len = 1 ∧ K (pc + 1) lv (.null :: st) hp
  | .iadd => len = 1 ∧ rz_i2 st (fun x y s2 => K (pc + 1) lv (.int (x + y) :: s2) hp)
  | .isub => len = 1 ∧ rz_i2 st (fun x y s2 => K (pc + 1) lv (.int (x - y) :: s2) hp)
  | .imul => len = 1 ∧ rz_i2 st (fun x y s2 => K (pc + 1) lv (.int (x * y) :: s2) hp)
  | .iand => len = 1 ∧ rz_i2 st (fun x y s2 => K (pc + 1) lv (.int (x &&& y) :: s2) hp)
  | .ixor => len = 1 ∧ rz_i2 st (fun x y s2 => K (pc + 1) lv (.int (x ^^^ y) :: s2) hp)
  | .ishr => len = 1 ∧ rz_i2 st (fun x y s2 => K (pc + 1) lv (.int (x >>> (y &&& 31)) :: s2) hp)
  | .idiv => len = 1 ∧ rz_i2 st (fun x y s2 => ¬ y = 0 ∧ K (pc + 1) lv (.int (x / y) :: s2) hp)
  | .i2c => len = 1 ∧ rz_i1 st (fun x s2 => K (pc + 1) lv (.int (x.toUInt32 % 65536).toInt32 :: s2) hp)
  | .dup => len = 1 ∧ (match st with
    | v :: s2 => rz_one v = true ∧ K (pc + 1) lv (v :: v :: s2) hp
    | _ => False)
  | .dup2 => len = 1 ∧ (match st with
    | v :: w :: s2 => rz_one v = true ∧ rz_one w = true ∧ K (pc + 1) lv (v :: w :: v :: w :: s2) hp
    | _ => False)
  | .pop => len = 1 ∧ (match st with
    | v :: s2 => rz_one v = true ∧ K (pc + 1) lv s2 hp
    | _ => False)
  | .getfield index => len = 3 ∧ rz_getf k pc lv st hp K index
  | .putfield index => len = 3 ∧ rz_putf k pc lv st hp K index
  | .iaload => len = 1 ∧ rz_ald pc lv st hp K 0
  | .caload => len = 1 ∧ rz_ald pc lv st hp K 1
  | .iastore => len = 1 ∧ rz_ast pc lv st hp K 0 (fun x => x)
  | .castore => len = 1 ∧ rz_ast pc lv st hp K 1 (vp_nar .char)
  | .aaload => len = 1 ∧ rz_aald pc lv st hp K
  | .aastore => len = 1 ∧ rz_aast pc lv st hp K
  | .arraylength => len = 1 ∧ rz_alen pc lv st hp K
  | .aload j => len = 2 ∧ rz_lda lv j (fun v => K (pc + 2) lv (v :: st) hp)
  | .astore j => len = 2 ∧ (rz_K k ≠ 9 ∨ rz_nl lv j = true) ∧ rz_sta lv st j (fun lv' s2 => K (pc + 2) lv' s2 hp)
  | .lload_n j => len = 1 ∧ rz_ldl lv j.val (fun v => K (pc + 1) lv (v :: st) hp)
  | .lstore_n j => len = 1 ∧ rz_K k = 9 ∧ rz_stl lv st j.val (fun lv' s2 => K (pc + 1) lv' s2 hp)
  | .ldc2_w index => len = 3 ∧ (match rz_kL.lookup (rz_K k, index) with
    | some v => K (pc + 3) lv (.long v :: st) hp
    | none => False)
  | .lconst n => len = 1 ∧ K (pc + 1) lv (.long (Int64.ofNat (n : Nat)) :: st) hp
  | .i2l => len = 1 ∧ rz_i1 st (fun x s2 => K (pc + 1) lv (.long x.toInt64 :: s2) hp)
  | .l2i => len = 1 ∧ rz_l1 st (fun x s2 => K (pc + 1) lv (.int x.toInt32 :: s2) hp)
  | .lmul => len = 1 ∧ rz_l2 st (fun x y s2 => K (pc + 1) lv (.long (x * y) :: s2) hp)
  | .ladd => len = 1 ∧ rz_l2 st (fun x y s2 => K (pc + 1) lv (.long (x + y) :: s2) hp)
  | .land => len = 1 ∧ rz_l2 st (fun x y s2 => K (pc + 1) lv (.long (x &&& y) :: s2) hp)
  | .lcmp => len = 1 ∧ rz_l2 st (fun x y s2 => K (pc + 1) lv (.int (lg_cmp x y) :: s2) hp)
  | .lshr => len = 1 ∧ rz_li st (fun x y s2 => K (pc + 1) lv (.long (x >>> (y.toInt64 &&& 63)) :: s2) hp)
  | .irem => len = 1 ∧ rz_i2 st (fun x y s2 => ¬ y = 0 ∧ K (pc + 1) lv (.int (x - x / y * y) :: s2) hp)
  | .laload => len = 1 ∧ rz_lald pc lv st hp K
  | .lastore => len = 1 ∧ rz_last pc lv st hp K
  | .lreturn => len = 1 ∧ rz_lret k st hp R
  | .new index => len = 3 ∧ (match rz_cl.lookup (rz_K k, index) with
    | some ci => K (pc + 3) lv (.ref hp.2.1 :: st) (rz_push hp (.inr (.inr (ci, rz_dv ci))) (rz_N ci))
    | none => False)
  | .newarray t => len = 2 ∧ (match t with
    | .int => rz_newa st (fun n s2 => K (pc + 2) lv (.ref hp.2.1 :: s2) (rz_push hp (.inl (0, n.toNatClampNeg, fun _ => 0)) n.toNatClampNeg))
    | .char => rz_newa st (fun n s2 => K (pc + 2) lv (.ref hp.2.1 :: s2) (rz_push hp (.inl (1, n.toNatClampNeg, fun _ => 0)) n.toNatClampNeg))
    | .long => rz_newa st (fun n s2 => K (pc + 2) lv (.ref hp.2.1 :: s2) (rz_push hp (.inr (.inr (10, List.replicate n.toNatClampNeg (.long 0)))) n.toNatClampNeg))
    | _ => False)
  | .anewarray index => len = 3 ∧ rz_cl.lookup (rz_K k, index) = some 6 ∧ rz_newa st (fun n s2 => K (pc + 3) lv (.ref hp.2.1 :: s2) (rz_push hp (.inr (.inl (n.toNatClampNeg, fun _ => none))) n.toNatClampNeg))
  | .goto off => len = 3 ∧ rz_to pc off (fun t => K t lv st hp)
  | .if_icmp c off => len = 3 ∧ rz_to pc off (fun t => rz_i2 st (fun x y s2 => match c with
    | .eq => if x = y then K t lv s2 hp else K (pc + 3) lv s2 hp
    | .ne => if x = y then K (pc + 3) lv s2 hp else K t lv s2 hp
    | .lt => if x < y then K t lv s2 hp else K (pc + 3) lv s2 hp
    | .ge => if y ≤ x then K t lv s2 hp else K (pc + 3) lv s2 hp
    | .gt => if y < x then K t lv s2 hp else K (pc + 3) lv s2 hp
    | .le => if x ≤ y then K t lv s2 hp else K (pc + 3) lv s2 hp))
  | .ifCond c off => len = 3 ∧ rz_to pc off (fun t => rz_i1 st (fun x s2 => match c with
    | .eq => if x = 0 then K t lv s2 hp else K (pc + 3) lv s2 hp
    | .ne => if x = 0 then K (pc + 3) lv s2 hp else K t lv s2 hp
    | .lt => if x < 0 then K t lv s2 hp else K (pc + 3) lv s2 hp
    | .ge => if 0 ≤ x then K t lv s2 hp else K (pc + 3) lv s2 hp
    | .gt => if 0 < x then K t lv s2 hp else K (pc + 3) lv s2 hp
    | .le => if x ≤ 0 then K t lv s2 hp else K (pc + 3) lv s2 hp))
  | .ifnull off => len = 3 ∧ (match st with
    | .null :: s2 => rz_to pc off (fun t => K t lv s2 hp)
    | .ref _ :: s2 => K (pc + 3) lv s2 hp
    | _ => False)
  | .ifnonnull off => len = 3 ∧ (match st with
    | .ref _ :: s2 => rz_to pc off (fun t => K t lv s2 hp)
    | .null :: s2 => K (pc + 3) lv s2 hp
    | _ => False)
  | .tableswitch dflt lo hi offs => rz_i1 st (fun x s2 => if x.toInt < lo ∨ hi < x.toInt then rz_to pc dflt (fun t => K t lv s2 hp) else match offs[(x.toInt - lo).toNat]? with
    | some off => rz_to pc off (fun t => K t lv s2 hp)
    | none => False)
  | .lookupswitch dflt ps => (ps.toList.zip (ps.toList.drop 1)).all (fun (a, next) => a.1 < next.1) = true ∧ rz_i1 st (fun x s2 => rz_to pc (Op.lookupswitch.offset ps.toList dflt x.toInt) (fun t => K t lv s2 hp))
  | .invokevirtual index => len = 3 ∧ rz_inv k nat pc lv st hp K Ca index
  | .invokespecial index => len = 3 ∧ rz_ins k nat pc lv st hp K Ca index
  | .invokestatic index => len = 3 ∧ rz_inS k nat pc lv st hp K Ca index
  | .ireturn => len = 1 ∧ rz_iret k st hp R
  | .areturn => len = 1 ∧ rz_aret k st hp R
  | .return_ => len = 1 ∧ st = [] ∧ rz_RT k = none ∧ R none hp
  | _ => False
end RZ2
def rz_go : Nat → Nat → Nat → Nat → List (Option Value) → List Value → rz_Hp → (Option Value → rz_Hp → Prop) → Prop
  | 0, _, _, _, _, _, _, _ => False
  | n + 1, d, k, pc, lv, st, hp, R => match decode (rz_B k) pc with
    | .ok (i, len) => rz_stp k (0 < d) len pc lv st hp (fun pc' lv' st' hp' => rz_go n d k pc' lv' st' hp' R) (fun k2 as h post => 0 < d ∧ k2 < 127 ∧ rz_go n (d - 1) k2 0 (rz_en k2 as) [] h post) R i
    | .error _ => False
def rz_ev (d k pc : Nat) (lv : List (Option Value)) (st : List Value) (hp : rz_Hp) (R : Option Value → rz_Hp → Prop) : Prop := ∃ n, rz_go n d k pc lv st hp R
theorem rz_fv_lt {hp : rz_Hp} {a ci j : Nat} {v : Value} (h : rz_fv hp a ci j = some v) : a < hp.2.1 := by
  unfold rz_fv at h
  split at h
  · assumption
  · cases h
theorem rz_av_lt {hp : rz_Hp} {a : Nat} {x : Nat × Nat × (Nat → Int32)} (h : rz_av hp a = some x) : a < hp.2.1 := by
  unfold rz_av at h
  split at h
  · assumption
  · cases h
theorem rz_qv_lt {hp : rz_Hp} {a : Nat} {x : Nat × (Nat → Option Nat)} (h : rz_qv hp a = some x) : a < hp.2.1 := by
  unfold rz_qv at h
  split at h
  · assumption
  · cases h
/-- the script stays as it is -/
def rz_kp (hp hp' : rz_Hp) : Prop := hp'.2.1 ≤ rz_SP → hp'.1 rz_SP = hp.1 rz_SP
theorem rz_kp.rf {hp : rz_Hp} : rz_kp hp hp := fun _ => rfl
theorem rz_kp.tr {a b c : rz_Hp} (h1 : rz_kp a b) (h2 : rz_kp b c) (hm : b.2.1 ≤ c.2.1) : rz_kp a c := fun h => (h2 h).trans (h1 (Nat.le_trans hm h))
theorem rz_kp.set {hp : rz_Hp} {a : Nat} {c : rz_Cl} (h : a < hp.2.1) : rz_kp hp (rz_set hp a c) := fun hm => if_neg (by have hm : hp.2.1 ≤ rz_SP := hm; omega)
theorem rz_kp.push {hp : rz_Hp} {c : rz_Cl} {n : Nat} : rz_kp hp (rz_push hp c n) := fun hm => if_neg (by have hm : hp.2.1 + 1 ≤ rz_SP := hm; omega)
theorem rz_ldi_w {lv : List (Option Value)} {i : Nat} {f : Value → Prop} (h : rz_ldi lv i f) : ∃ x : Int32, lv[i]? = some (some (.int x)) ∧ f (.int x) ∧ ∀ g : Value → Prop, g (.int x) → rz_ldi lv i g := by
  unfold rz_ldi at h
  split at h
  · next x e => exact ⟨x, e, h, fun g hg => by unfold rz_ldi; rw [e]; exact hg⟩
  · exact h.elim
theorem rz_lda_w {lv : List (Option Value)} {i : Nat} {f : Value → Prop} (h : rz_lda lv i f) : ∃ v : Value, (v = .null ∨ (∃ a, v = .ref a) ∨ ∃ x, v = .float x) ∧ lv[i]? = some (some v) ∧ f v ∧ ∀ g : Value → Prop, g v → rz_lda lv i g := by
  unfold rz_lda at h
  split at h
  · next x e => exact ⟨_, Or.inr (Or.inl ⟨x, rfl⟩), e, h, fun g hg => by unfold rz_lda; rw [e]; exact hg⟩
  · next e => exact ⟨_, Or.inl rfl, e, h, fun g hg => by unfold rz_lda; rw [e]; exact hg⟩
  · next x e => exact ⟨_, Or.inr (Or.inr ⟨x, rfl⟩), e, h, fun g hg => by unfold rz_lda; rw [e]; exact hg⟩
  · exact h.elim
theorem rz_sti_w {lv : List (Option Value)} {st : List Value} {i : Nat} {f : List (Option Value) → List Value → Prop} (h : rz_sti lv st i f) : ∃ (x : Int32) (s2 : List Value), st = .int x :: s2 ∧ i < lv.length ∧ f (lv.set i (some (.int x))) s2 ∧ ∀ g : List (Option Value) → List Value → Prop, g (lv.set i (some (.int x))) s2 → rz_sti lv st i g := by
  unfold rz_sti at h
  split at h
  · next x s2 => exact ⟨x, s2, rfl, h.1, h.2, fun g hg => ⟨h.1, hg⟩⟩
  · exact h.elim
theorem rz_sta_w {lv : List (Option Value)} {st : List Value} {i : Nat} {f : List (Option Value) → List Value → Prop} (h : rz_sta lv st i f) : ∃ (v : Value) (s2 : List Value), (v = .null ∨ ∃ a, v = .ref a) ∧ st = v :: s2 ∧ i < lv.length ∧ f (lv.set i (some v)) s2 ∧ ∀ g : List (Option Value) → List Value → Prop, g (lv.set i (some v)) s2 → rz_sta lv st i g := by
  unfold rz_sta at h
  split at h
  · next x s2 => exact ⟨_, s2, Or.inr ⟨x, rfl⟩, rfl, h.1, h.2, fun g hg => ⟨h.1, hg⟩⟩
  · next s2 => exact ⟨_, s2, Or.inl rfl, rfl, h.1, h.2, fun g hg => ⟨h.1, hg⟩⟩
  · exact h.elim
theorem rz_ldl_w {lv : List (Option Value)} {i : Nat} {f : Value → Prop} (h : rz_ldl lv i f) : ∃ x : Int64, lv[i]? = some (some (.long x)) ∧ f (.long x) ∧ ∀ g : Value → Prop, g (.long x) → rz_ldl lv i g := by
  unfold rz_ldl at h
  split at h
  · next x e => exact ⟨x, e, h, fun g hg => by unfold rz_ldl; rw [e]; exact hg⟩
  · exact h.elim
theorem rz_stl_w {lv : List (Option Value)} {st : List Value} {i : Nat} {f : List (Option Value) → List Value → Prop} (h : rz_stl lv st i f) : ∃ (x : Int64) (s2 : List Value), st = .long x :: s2 ∧ (i + 1 < lv.length ∧ rz_nl lv i = true) ∧ f ((lv.set i (some (.long x))).set (i + 1) none) s2 ∧ ∀ g : List (Option Value) → List Value → Prop, g ((lv.set i (some (.long x))).set (i + 1) none) s2 → rz_stl lv st i g := by
  unfold rz_stl at h
  split at h
  · next x s2 => exact ⟨x, s2, rfl, h.1, h.2, fun g hg => ⟨h.1, hg⟩⟩
  · exact h.elim
theorem rz_l1_w {st : List Value} {f : Int64 → List Value → Prop} (h : rz_l1 st f) : ∃ (x : Int64) (s2 : List Value), st = .long x :: s2 ∧ f x s2 ∧ ∀ g : Int64 → List Value → Prop, g x s2 → rz_l1 st g := by
  unfold rz_l1 at h
  split at h
  · next x s2 => exact ⟨x, s2, rfl, h, fun g hg => hg⟩
  · exact h.elim
theorem rz_l2_w {st : List Value} {f : Int64 → Int64 → List Value → Prop} (h : rz_l2 st f) : ∃ (x y : Int64) (s2 : List Value), st = .long y :: .long x :: s2 ∧ f x y s2 ∧ ∀ g : Int64 → Int64 → List Value → Prop, g x y s2 → rz_l2 st g := by
  unfold rz_l2 at h
  split at h
  · next y x s2 => exact ⟨x, y, s2, rfl, h, fun g hg => hg⟩
  · exact h.elim
theorem rz_li_w {st : List Value} {f : Int64 → Int32 → List Value → Prop} (h : rz_li st f) : ∃ (x : Int64) (y : Int32) (s2 : List Value), st = .int y :: .long x :: s2 ∧ f x y s2 ∧ ∀ g : Int64 → Int32 → List Value → Prop, g x y s2 → rz_li st g := by
  unfold rz_li at h
  split at h
  · next y x s2 => exact ⟨x, y, s2, rfl, h, fun g hg => hg⟩
  · exact h.elim
theorem rz_i1_w {st : List Value} {f : Int32 → List Value → Prop} (h : rz_i1 st f) : ∃ (x : Int32) (s2 : List Value), st = .int x :: s2 ∧ f x s2 ∧ ∀ g : Int32 → List Value → Prop, g x s2 → rz_i1 st g := by
  unfold rz_i1 at h
  split at h
  · next x s2 => exact ⟨x, s2, rfl, h, fun g hg => hg⟩
  · exact h.elim
theorem rz_i2_w {st : List Value} {f : Int32 → Int32 → List Value → Prop} (h : rz_i2 st f) : ∃ (x y : Int32) (s2 : List Value), st = .int y :: .int x :: s2 ∧ f x y s2 ∧ ∀ g : Int32 → Int32 → List Value → Prop, g x y s2 → rz_i2 st g := by
  unfold rz_i2 at h
  split at h
  · next y x s2 => exact ⟨x, y, s2, rfl, h, fun g hg => hg⟩
  · exact h.elim
theorem rz_r1_w {st : List Value} {f : Nat → List Value → Prop} (h : rz_r1 st f) : ∃ (a : Nat) (s2 : List Value), st = .ref a :: s2 ∧ f a s2 ∧ ∀ g : Nat → List Value → Prop, g a s2 → rz_r1 st g := by
  unfold rz_r1 at h
  split at h
  · next a s2 => exact ⟨a, s2, rfl, h, fun g hg => hg⟩
  · exact h.elim
theorem rz_to_w {pc : Nat} {off : Int} {f : Nat → Prop} (h : rz_to pc off f) : ∃ t : Nat, (pc : Int) + off = (t : Int) ∧ f t ∧ ∀ g : Nat → Prop, g t → rz_to pc off g :=
  ⟨((pc : Int) + off).toNat, (Int.toNat_of_nonneg h.1).symm, h.2, fun _ hg => ⟨h.1, hg⟩⟩
/-- a step goes on in one way alone: to a state, by a call, or to an end -/
theorem rz_way {k : Nat} {nat : Prop} {len pc : Nat} {lv : List (Option Value)} {st : List Value} {hp : rz_Hp} {K : Nat → List (Option Value) → List Value → rz_Hp → Prop} {Ca : Nat → List Value → rz_Hp → (Option Value → rz_Hp → Prop) → Prop} {R : Option Value → rz_Hp → Prop} {i : Instr} (h : rz_stp k nat len pc lv st hp K Ca R i) :
    (∃ pc' lv' st' hp', K pc' lv' st' hp' ∧ hp.2.1 ≤ hp'.2.1 ∧ (hp.2.2 ≤ hp'.2.2 ∧ rz_kp hp hp') ∧ ∀ (nat' : Prop) (K' : Nat → List (Option Value) → List Value → rz_Hp → Prop) (Ca' : Nat → List Value → rz_Hp → (Option Value → rz_Hp → Prop) → Prop) (R' : Option Value → rz_Hp → Prop), (nat → nat') → K' pc' lv' st' hp' → rz_stp k nat' len pc lv st hp K' Ca' R' i) ∨
    (∃ k2 as pc' rest, Ca k2 as hp (fun r h => K pc' lv (r.toList ++ rest) h) ∧ ∀ (nat' : Prop) (K' : Nat → List (Option Value) → List Value → rz_Hp → Prop) (Ca' : Nat → List Value → rz_Hp → (Option Value → rz_Hp → Prop) → Prop) (R' : Option Value → rz_Hp → Prop), (nat → nat') → Ca' k2 as hp (fun r h => K' pc' lv (r.toList ++ rest) h) → rz_stp k nat' len pc lv st hp K' Ca' R' i) ∨
    (∃ r, R r hp ∧ ∀ (nat' : Prop) (K' : Nat → List (Option Value) → List Value → rz_Hp → Prop) (Ca' : Nat → List Value → rz_Hp → (Option Value → rz_Hp → Prop) → Prop) (R' : Option Value → rz_Hp → Prop), (nat → nat') → R' r hp → rz_stp k nat' len pc lv st hp K' Ca' R' i) := by
  cases i with
  | aload_n j =>
    obtain ⟨hl, h⟩ := h
    obtain ⟨v, -, -, h, g⟩ := rz_lda_w h
    exact Or.inl ⟨_, _, _, _, h, Nat.le_refl _, ⟨Nat.le_refl _, rz_kp.rf⟩, fun nat' K' Ca' R' hn h' => ⟨hl, g _ h'⟩⟩
  | iload_n j =>
    obtain ⟨hl, h⟩ := h
    obtain ⟨v, -, h, g⟩ := rz_ldi_w h
    exact Or.inl ⟨_, _, _, _, h, Nat.le_refl _, ⟨Nat.le_refl _, rz_kp.rf⟩, fun nat' K' Ca' R' hn h' => ⟨hl, g _ h'⟩⟩
  | iload j =>
    obtain ⟨hl, h⟩ := h
    obtain ⟨v, -, h, g⟩ := rz_ldi_w h
    exact Or.inl ⟨_, _, _, _, h, Nat.le_refl _, ⟨Nat.le_refl _, rz_kp.rf⟩, fun nat' K' Ca' R' hn h' => ⟨hl, g _ h'⟩⟩
  | astore_n j =>
    obtain ⟨hl, hnl, h⟩ := h
    obtain ⟨v, s2, -, -, -, h, g⟩ := rz_sta_w h
    exact Or.inl ⟨_, _, _, _, h, Nat.le_refl _, ⟨Nat.le_refl _, rz_kp.rf⟩, fun nat' K' Ca' R' hn h' => ⟨hl, hnl, g _ h'⟩⟩
  | istore_n j =>
    obtain ⟨hl, hnl, h⟩ := h
    obtain ⟨v, s2, -, -, h, g⟩ := rz_sti_w h
    exact Or.inl ⟨_, _, _, _, h, Nat.le_refl _, ⟨Nat.le_refl _, rz_kp.rf⟩, fun nat' K' Ca' R' hn h' => ⟨hl, hnl, g _ h'⟩⟩
  | istore j =>
    obtain ⟨hl, hnl, h⟩ := h
    obtain ⟨v, s2, -, -, h, g⟩ := rz_sti_w h
    exact Or.inl ⟨_, _, _, _, h, Nat.le_refl _, ⟨Nat.le_refl _, rz_kp.rf⟩, fun nat' K' Ca' R' hn h' => ⟨hl, hnl, g _ h'⟩⟩
  | iinc j c =>
    obtain ⟨hl, h⟩ := h
    split at h
    · next x e => exact Or.inl ⟨_, _, _, _, h, Nat.le_refl _, ⟨Nat.le_refl _, rz_kp.rf⟩, fun nat' K' Ca' R' hn h' => ⟨hl, by rw [e]; exact h'⟩⟩
    · exact h.elim
  | iconst n =>
    obtain ⟨hl, h⟩ := h
    exact Or.inl ⟨_, _, _, _, h, Nat.le_refl _, ⟨Nat.le_refl _, rz_kp.rf⟩, fun nat' K' Ca' R' hn h' => ⟨hl, h'⟩⟩
  | bipush n =>
    obtain ⟨hl, h⟩ := h
    exact Or.inl ⟨_, _, _, _, h, Nat.le_refl _, ⟨Nat.le_refl _, rz_kp.rf⟩, fun nat' K' Ca' R' hn h' => ⟨hl, h'⟩⟩
  | sipush n =>
    obtain ⟨hl, h⟩ := h
    exact Or.inl ⟨_, _, _, _, h, Nat.le_refl _, ⟨Nat.le_refl _, rz_kp.rf⟩, fun nat' K' Ca' R' hn h' => ⟨hl, h'⟩⟩
  | aconst_null =>
    obtain ⟨hl, h⟩ := h
    exact Or.inl ⟨_, _, _, _, h, Nat.le_refl _, ⟨Nat.le_refl _, rz_kp.rf⟩, fun nat' K' Ca' R' hn h' => ⟨hl, h'⟩⟩
  | ldc index =>
    obtain ⟨hl, h⟩ := h
    split at h
    · next x e => exact Or.inl ⟨_, _, _, _, h, Nat.le_refl _, ⟨Nat.le_refl _, rz_kp.rf⟩, fun nat' K' Ca' R' hn h' => ⟨hl, by rw [e]; exact h'⟩⟩
    · exact h.elim
  | iadd =>
    obtain ⟨hl, h⟩ := h
    obtain ⟨x, y, s2, -, h, g⟩ := rz_i2_w h
    exact Or.inl ⟨_, _, _, _, h, Nat.le_refl _, ⟨Nat.le_refl _, rz_kp.rf⟩, fun nat' K' Ca' R' hn h' => ⟨hl, g _ h'⟩⟩
  | isub =>
    obtain ⟨hl, h⟩ := h
    obtain ⟨x, y, s2, -, h, g⟩ := rz_i2_w h
    exact Or.inl ⟨_, _, _, _, h, Nat.le_refl _, ⟨Nat.le_refl _, rz_kp.rf⟩, fun nat' K' Ca' R' hn h' => ⟨hl, g _ h'⟩⟩
  | imul =>
    obtain ⟨hl, h⟩ := h
    obtain ⟨x, y, s2, -, h, g⟩ := rz_i2_w h
    exact Or.inl ⟨_, _, _, _, h, Nat.le_refl _, ⟨Nat.le_refl _, rz_kp.rf⟩, fun nat' K' Ca' R' hn h' => ⟨hl, g _ h'⟩⟩
  | iand =>
    obtain ⟨hl, h⟩ := h
    obtain ⟨x, y, s2, -, h, g⟩ := rz_i2_w h
    exact Or.inl ⟨_, _, _, _, h, Nat.le_refl _, ⟨Nat.le_refl _, rz_kp.rf⟩, fun nat' K' Ca' R' hn h' => ⟨hl, g _ h'⟩⟩
  | ixor =>
    obtain ⟨hl, h⟩ := h
    obtain ⟨x, y, s2, -, h, g⟩ := rz_i2_w h
    exact Or.inl ⟨_, _, _, _, h, Nat.le_refl _, ⟨Nat.le_refl _, rz_kp.rf⟩, fun nat' K' Ca' R' hn h' => ⟨hl, g _ h'⟩⟩
  | ishr =>
    obtain ⟨hl, h⟩ := h
    obtain ⟨x, y, s2, -, h, g⟩ := rz_i2_w h
    exact Or.inl ⟨_, _, _, _, h, Nat.le_refl _, ⟨Nat.le_refl _, rz_kp.rf⟩, fun nat' K' Ca' R' hn h' => ⟨hl, g _ h'⟩⟩
  | idiv =>
    obtain ⟨hl, h⟩ := h
    obtain ⟨x, y, s2, -, ⟨h0, h⟩, g⟩ := rz_i2_w h
    exact Or.inl ⟨_, _, _, _, h, Nat.le_refl _, ⟨Nat.le_refl _, rz_kp.rf⟩, fun nat' K' Ca' R' hn h' => ⟨hl, g _ ⟨h0, h'⟩⟩⟩
  | i2c =>
    obtain ⟨hl, h⟩ := h
    obtain ⟨x, s2, -, h, g⟩ := rz_i1_w h
    exact Or.inl ⟨_, _, _, _, h, Nat.le_refl _, ⟨Nat.le_refl _, rz_kp.rf⟩, fun nat' K' Ca' R' hn h' => ⟨hl, g _ h'⟩⟩
  | dup =>
    obtain ⟨hl, h⟩ := h
    split at h
    · exact Or.inl ⟨_, _, _, _, h.2, Nat.le_refl _, ⟨Nat.le_refl _, rz_kp.rf⟩, fun nat' K' Ca' R' hn h' => ⟨hl, ⟨h.1, h'⟩⟩⟩
    · exact h.elim
  | dup2 =>
    obtain ⟨hl, h⟩ := h
    split at h
    · exact Or.inl ⟨_, _, _, _, h.2.2, Nat.le_refl _, ⟨Nat.le_refl _, rz_kp.rf⟩, fun nat' K' Ca' R' hn h' => ⟨hl, ⟨h.1, h.2.1, h'⟩⟩⟩
    · exact h.elim
  | pop =>
    obtain ⟨hl, h⟩ := h
    split at h
    · exact Or.inl ⟨_, _, _, _, h.2, Nat.le_refl _, ⟨Nat.le_refl _, rz_kp.rf⟩, fun nat' K' Ca' R' hn h' => ⟨hl, ⟨h.1, h'⟩⟩⟩
    · exact h.elim
  | getfield index =>
    obtain ⟨hl, h⟩ := h
    unfold rz_getf at h
    obtain ⟨a, s2, -, h, g⟩ := rz_r1_w h
    split at h
    · next ci j e =>
      obtain ⟨v, hv, h⟩ := h
      exact Or.inl ⟨_, _, _, _, h, Nat.le_refl _, ⟨Nat.le_refl _, rz_kp.rf⟩, fun nat' K' Ca' R' hn h' => ⟨hl, g _ (by rw [e]; exact ⟨v, hv, h'⟩)⟩⟩
    · exact h.elim
  | putfield index =>
    obtain ⟨hl, h⟩ := h
    unfold rz_putf at h
    split at h
    · split at h
      · next ci j e =>
        obtain ⟨hv, hf, hn, h⟩ := h
        exact Or.inl ⟨_, _, _, _, h, Nat.le_refl _, ⟨Nat.le_refl _, rz_kp.set (rz_fv_lt hv.choose_spec)⟩, fun nat' K' Ca' R' _ h' => ⟨hl, by unfold rz_putf; rw [e]; exact ⟨hv, hf, hn, h'⟩⟩⟩
      · exact h.elim
    · exact h.elim
  | iaload =>
    obtain ⟨hl, h⟩ := h
    unfold rz_ald at h
    split at h
    · obtain ⟨n, f, hv, hi, h⟩ := h
      exact Or.inl ⟨_, _, _, _, h, Nat.le_refl _, ⟨Nat.le_refl _, rz_kp.rf⟩, fun nat' K' Ca' R' hn h' => ⟨hl, n, f, hv, hi, h'⟩⟩
    · obtain ⟨h0, n, f, hv, hi, h⟩ := h
      exact Or.inl ⟨_, _, _, _, h, Nat.le_refl _, ⟨Nat.le_refl _, rz_kp.rf⟩, fun nat' K' Ca' R' hn h' => ⟨hl, h0, n, f, hv, hi, h'⟩⟩
    · exact h.elim
  | caload =>
    obtain ⟨hl, h⟩ := h
    unfold rz_ald at h
    split at h
    · obtain ⟨n, f, hv, hi, h⟩ := h
      exact Or.inl ⟨_, _, _, _, h, Nat.le_refl _, ⟨Nat.le_refl _, rz_kp.rf⟩, fun nat' K' Ca' R' hn h' => ⟨hl, n, f, hv, hi, h'⟩⟩
    · exact absurd h.1 (by decide)
    · exact h.elim
  | iastore =>
    obtain ⟨hl, h⟩ := h
    unfold rz_ast at h
    split at h
    · obtain ⟨n, f, hv, hi, h⟩ := h
      exact Or.inl ⟨_, _, _, _, h, Nat.le_refl _, ⟨Nat.le_refl _, rz_kp.set (rz_av_lt hv)⟩, fun nat' K' Ca' R' hn h' => ⟨hl, n, f, hv, hi, h'⟩⟩
    · exact h.elim
  | castore =>
    obtain ⟨hl, h⟩ := h
    unfold rz_ast at h
    split at h
    · obtain ⟨n, f, hv, hi, h⟩ := h
      exact Or.inl ⟨_, _, _, _, h, Nat.le_refl _, ⟨Nat.le_refl _, rz_kp.set (rz_av_lt hv)⟩, fun nat' K' Ca' R' hn h' => ⟨hl, n, f, hv, hi, h'⟩⟩
    · exact h.elim
  | aaload =>
    obtain ⟨hl, h⟩ := h
    unfold rz_aald at h
    split at h
    · obtain ⟨n, f, hv, hi, h⟩ := h
      exact Or.inl ⟨_, _, _, _, h, Nat.le_refl _, ⟨Nat.le_refl _, rz_kp.rf⟩, fun nat' K' Ca' R' hn h' => ⟨hl, n, f, hv, hi, h'⟩⟩
    · exact h.elim
  | aastore =>
    obtain ⟨hl, h⟩ := h
    unfold rz_aast at h
    split at h
    · obtain ⟨n, f, hv, hi, hc, h⟩ := h
      exact Or.inl ⟨_, _, _, _, h, Nat.le_refl _, ⟨Nat.le_refl _, rz_kp.set (rz_qv_lt hv)⟩, fun nat' K' Ca' R' hn h' => ⟨hl, n, f, hv, hi, hc, h'⟩⟩
    · exact h.elim
  | arraylength =>
    obtain ⟨hl, h⟩ := h
    unfold rz_alen at h
    split at h
    · obtain ⟨n, hn, h⟩ := h
      exact Or.inl ⟨_, _, _, _, h, Nat.le_refl _, ⟨Nat.le_refl _, rz_kp.rf⟩, fun nat' K' Ca' R' _ h' => ⟨hl, n, hn, h'⟩⟩
    · obtain ⟨n, f, hn, h⟩ := h
      exact Or.inl ⟨_, _, _, _, h, Nat.le_refl _, ⟨Nat.le_refl _, rz_kp.rf⟩, fun nat' K' Ca' R' _ h' => ⟨hl, n, f, hn, h'⟩⟩
    · exact h.elim
  | aload j =>
    obtain ⟨hl, h⟩ := h
    obtain ⟨v, -, -, h, g⟩ := rz_lda_w h
    exact Or.inl ⟨_, _, _, _, h, Nat.le_refl _, ⟨Nat.le_refl _, rz_kp.rf⟩, fun nat' K' Ca' R' hn h' => ⟨hl, g _ h'⟩⟩
  | astore j =>
    obtain ⟨hl, hnl, h⟩ := h
    obtain ⟨v, s2, -, -, -, h, g⟩ := rz_sta_w h
    exact Or.inl ⟨_, _, _, _, h, Nat.le_refl _, ⟨Nat.le_refl _, rz_kp.rf⟩, fun nat' K' Ca' R' hn h' => ⟨hl, hnl, g _ h'⟩⟩
  | lload_n j =>
    obtain ⟨hl, h⟩ := h
    obtain ⟨v, -, h, g⟩ := rz_ldl_w h
    exact Or.inl ⟨_, _, _, _, h, Nat.le_refl _, ⟨Nat.le_refl _, rz_kp.rf⟩, fun nat' K' Ca' R' hn h' => ⟨hl, g _ h'⟩⟩
  | lstore_n j =>
    obtain ⟨hl, hnl, h⟩ := h
    obtain ⟨v, s2, -, -, h, g⟩ := rz_stl_w h
    exact Or.inl ⟨_, _, _, _, h, Nat.le_refl _, ⟨Nat.le_refl _, rz_kp.rf⟩, fun nat' K' Ca' R' hn h' => ⟨hl, hnl, g _ h'⟩⟩
  | ldc2_w index =>
    obtain ⟨hl, h⟩ := h
    split at h
    · next x e => exact Or.inl ⟨_, _, _, _, h, Nat.le_refl _, ⟨Nat.le_refl _, rz_kp.rf⟩, fun nat' K' Ca' R' hn h' => ⟨hl, by rw [e]; exact h'⟩⟩
    · exact h.elim
  | lconst n =>
    obtain ⟨hl, h⟩ := h
    exact Or.inl ⟨_, _, _, _, h, Nat.le_refl _, ⟨Nat.le_refl _, rz_kp.rf⟩, fun nat' K' Ca' R' hn h' => ⟨hl, h'⟩⟩
  | i2l =>
    obtain ⟨hl, h⟩ := h
    obtain ⟨x, s2, -, h, g⟩ := rz_i1_w h
    exact Or.inl ⟨_, _, _, _, h, Nat.le_refl _, ⟨Nat.le_refl _, rz_kp.rf⟩, fun nat' K' Ca' R' hn h' => ⟨hl, g _ h'⟩⟩
  | l2i =>
    obtain ⟨hl, h⟩ := h
    obtain ⟨x, s2, -, h, g⟩ := rz_l1_w h
    exact Or.inl ⟨_, _, _, _, h, Nat.le_refl _, ⟨Nat.le_refl _, rz_kp.rf⟩, fun nat' K' Ca' R' hn h' => ⟨hl, g _ h'⟩⟩
  | lmul =>
    obtain ⟨hl, h⟩ := h
    obtain ⟨x, y, s2, -, h, g⟩ := rz_l2_w h
    exact Or.inl ⟨_, _, _, _, h, Nat.le_refl _, ⟨Nat.le_refl _, rz_kp.rf⟩, fun nat' K' Ca' R' hn h' => ⟨hl, g _ h'⟩⟩
  | ladd =>
    obtain ⟨hl, h⟩ := h
    obtain ⟨x, y, s2, -, h, g⟩ := rz_l2_w h
    exact Or.inl ⟨_, _, _, _, h, Nat.le_refl _, ⟨Nat.le_refl _, rz_kp.rf⟩, fun nat' K' Ca' R' hn h' => ⟨hl, g _ h'⟩⟩
  | land =>
    obtain ⟨hl, h⟩ := h
    obtain ⟨x, y, s2, -, h, g⟩ := rz_l2_w h
    exact Or.inl ⟨_, _, _, _, h, Nat.le_refl _, ⟨Nat.le_refl _, rz_kp.rf⟩, fun nat' K' Ca' R' hn h' => ⟨hl, g _ h'⟩⟩
  | lcmp =>
    obtain ⟨hl, h⟩ := h
    obtain ⟨x, y, s2, -, h, g⟩ := rz_l2_w h
    exact Or.inl ⟨_, _, _, _, h, Nat.le_refl _, ⟨Nat.le_refl _, rz_kp.rf⟩, fun nat' K' Ca' R' hn h' => ⟨hl, g _ h'⟩⟩
  | lshr =>
    obtain ⟨hl, h⟩ := h
    obtain ⟨x, y, s2, -, h, g⟩ := rz_li_w h
    exact Or.inl ⟨_, _, _, _, h, Nat.le_refl _, ⟨Nat.le_refl _, rz_kp.rf⟩, fun nat' K' Ca' R' hn h' => ⟨hl, g _ h'⟩⟩
  | irem =>
    obtain ⟨hl, h⟩ := h
    obtain ⟨x, y, s2, -, ⟨h0, h⟩, g⟩ := rz_i2_w h
    exact Or.inl ⟨_, _, _, _, h, Nat.le_refl _, ⟨Nat.le_refl _, rz_kp.rf⟩, fun nat' K' Ca' R' hn h' => ⟨hl, g _ ⟨h0, h'⟩⟩⟩
  | laload =>
    obtain ⟨hl, h⟩ := h
    unfold rz_lald at h
    split at h
    · obtain ⟨v, h0, hv, h⟩ := h
      exact Or.inl ⟨_, _, _, _, h, Nat.le_refl _, ⟨Nat.le_refl _, rz_kp.rf⟩, fun nat' K' Ca' R' hn h' => ⟨hl, v, h0, hv, h'⟩⟩
    · exact h.elim
  | lastore =>
    obtain ⟨hl, h⟩ := h
    unfold rz_last at h
    split at h
    · obtain ⟨h0, hv, h⟩ := h
      exact Or.inl ⟨_, _, _, _, h, Nat.le_refl _, ⟨Nat.le_refl _, rz_kp.set (rz_fv_lt hv.choose_spec)⟩, fun nat' K' Ca' R' hn h' => ⟨hl, h0, hv, h'⟩⟩
    · exact h.elim
  | lreturn =>
    obtain ⟨hl, h⟩ := h
    unfold rz_lret at h
    split at h
    · exact Or.inr (Or.inr ⟨_, h.2, fun nat' K' Ca' R' hn h' => ⟨hl, h.1, h'⟩⟩)
    · exact h.elim
  | new index =>
    obtain ⟨hl, h⟩ := h
    split at h
    · next ci e => exact Or.inl ⟨_, _, _, _, h, Nat.le_succ _, ⟨Nat.le_add_right _ _, rz_kp.push⟩, fun nat' K' Ca' R' hn h' => ⟨hl, by rw [e]; exact h'⟩⟩
    · exact h.elim
  | newarray t =>
    obtain ⟨hl, h⟩ := h
    split at h
    · obtain ⟨x, s2, -, ⟨h0, h1, h⟩, g⟩ := rz_i1_w h
      exact Or.inl ⟨_, _, _, _, h, Nat.le_succ _, ⟨Nat.le_add_right _ _, rz_kp.push⟩, fun nat' K' Ca' R' hn h' => ⟨hl, g _ ⟨h0, h1, h'⟩⟩⟩
    · obtain ⟨x, s2, -, ⟨h0, h1, h⟩, g⟩ := rz_i1_w h
      exact Or.inl ⟨_, _, _, _, h, Nat.le_succ _, ⟨Nat.le_add_right _ _, rz_kp.push⟩, fun nat' K' Ca' R' hn h' => ⟨hl, g _ ⟨h0, h1, h'⟩⟩⟩
    · obtain ⟨x, s2, -, ⟨h0, h1, h⟩, g⟩ := rz_i1_w h
      exact Or.inl ⟨_, _, _, _, h, Nat.le_succ _, ⟨Nat.le_add_right _ _, rz_kp.push⟩, fun nat' K' Ca' R' hn h' => ⟨hl, g _ ⟨h0, h1, h'⟩⟩⟩
    · exact h.elim
  | anewarray index =>
    obtain ⟨hl, hc, h⟩ := h
    obtain ⟨x, s2, -, ⟨h0, h1, h⟩, g⟩ := rz_i1_w h
    exact Or.inl ⟨_, _, _, _, h, Nat.le_succ _, ⟨Nat.le_add_right _ _, rz_kp.push⟩, fun nat' K' Ca' R' hn h' => ⟨hl, hc, g _ ⟨h0, h1, h'⟩⟩⟩
  | goto off =>
    obtain ⟨hl, h⟩ := h
    obtain ⟨t, -, h, g⟩ := rz_to_w h
    exact Or.inl ⟨_, _, _, _, h, Nat.le_refl _, ⟨Nat.le_refl _, rz_kp.rf⟩, fun nat' K' Ca' R' hn h' => ⟨hl, g _ h'⟩⟩
  | if_icmp c off =>
    obtain ⟨hl, h⟩ := h
    obtain ⟨t, -, h, g2⟩ := rz_to_w h
    obtain ⟨x, y, s2, -, h, g⟩ := rz_i2_w h
    cases c <;> (
      dsimp only at h
      split at h
      · next hc => exact Or.inl ⟨_, _, _, _, h, Nat.le_refl _, ⟨Nat.le_refl _, rz_kp.rf⟩, fun nat' K' Ca' R' hn h' => ⟨hl, g2 _ (g _ (by dsimp only; rw [if_pos hc]; exact h'))⟩⟩
      · next hc => exact Or.inl ⟨_, _, _, _, h, Nat.le_refl _, ⟨Nat.le_refl _, rz_kp.rf⟩, fun nat' K' Ca' R' hn h' => ⟨hl, g2 _ (g _ (by dsimp only; rw [if_neg hc]; exact h'))⟩⟩)
  | ifCond c off =>
    obtain ⟨hl, h⟩ := h
    obtain ⟨t, -, h, g2⟩ := rz_to_w h
    obtain ⟨x, s2, -, h, g⟩ := rz_i1_w h
    cases c <;> (
      dsimp only at h
      split at h
      · next hc => exact Or.inl ⟨_, _, _, _, h, Nat.le_refl _, ⟨Nat.le_refl _, rz_kp.rf⟩, fun nat' K' Ca' R' hn h' => ⟨hl, g2 _ (g _ (by dsimp only; rw [if_pos hc]; exact h'))⟩⟩
      · next hc => exact Or.inl ⟨_, _, _, _, h, Nat.le_refl _, ⟨Nat.le_refl _, rz_kp.rf⟩, fun nat' K' Ca' R' hn h' => ⟨hl, g2 _ (g _ (by dsimp only; rw [if_neg hc]; exact h'))⟩⟩)
  | ifnull off =>
    obtain ⟨hl, h⟩ := h
    split at h
    · obtain ⟨t, -, h, g2⟩ := rz_to_w h
      exact Or.inl ⟨_, _, _, _, h, Nat.le_refl _, ⟨Nat.le_refl _, rz_kp.rf⟩, fun nat' K' Ca' R' hn h' => ⟨hl, g2 _ h'⟩⟩
    · exact Or.inl ⟨_, _, _, _, h, Nat.le_refl _, ⟨Nat.le_refl _, rz_kp.rf⟩, fun nat' K' Ca' R' hn h' => ⟨hl, h'⟩⟩
    · exact h.elim
  | ifnonnull off =>
    obtain ⟨hl, h⟩ := h
    split at h
    · obtain ⟨t, -, h, g2⟩ := rz_to_w h
      exact Or.inl ⟨_, _, _, _, h, Nat.le_refl _, ⟨Nat.le_refl _, rz_kp.rf⟩, fun nat' K' Ca' R' hn h' => ⟨hl, g2 _ h'⟩⟩
    · exact Or.inl ⟨_, _, _, _, h, Nat.le_refl _, ⟨Nat.le_refl _, rz_kp.rf⟩, fun nat' K' Ca' R' hn h' => ⟨hl, h'⟩⟩
    · exact h.elim
  | tableswitch dflt lo hi offs =>
    obtain ⟨x, s2, -, h, g⟩ := rz_i1_w h
    split at h
    · next hc =>
      obtain ⟨t, -, h, g2⟩ := rz_to_w h
      exact Or.inl ⟨_, _, _, _, h, Nat.le_refl _, ⟨Nat.le_refl _, rz_kp.rf⟩, fun nat' K' Ca' R' hn h' => g _ (by rw [if_pos hc]; exact g2 _ h')⟩
    · next hc =>
      split at h
      · next off e =>
        obtain ⟨t, -, h, g2⟩ := rz_to_w h
        exact Or.inl ⟨_, _, _, _, h, Nat.le_refl _, ⟨Nat.le_refl _, rz_kp.rf⟩, fun nat' K' Ca' R' hn h' => g _ (by rw [if_neg hc, e]; exact g2 _ h')⟩
      · exact h.elim
  | lookupswitch dflt ps =>
    obtain ⟨hl, h⟩ := h
    obtain ⟨x, s2, -, h, g⟩ := rz_i1_w h
    obtain ⟨t, -, h, g2⟩ := rz_to_w h
    exact Or.inl ⟨_, _, _, _, h, Nat.le_refl _, ⟨Nat.le_refl _, rz_kp.rf⟩, fun nat' K' Ca' R' hn h' => ⟨hl, g _ (g2 _ h')⟩⟩
  | invokevirtual index =>
    obtain ⟨hl, h⟩ := h
    unfold rz_inv at h
    split at h
    · next k2 e =>
      split at h
      · next b rest e2 =>
        obtain ⟨h1, h2, h3, h4, h5, h⟩ := h
        exact Or.inr (Or.inl ⟨_, _, _, _, h, fun nat' K' Ca' R' hn h' => ⟨hl, by simp only [rz_inv, e, e2]; exact ⟨h1, h2, h3, h4, hn h5, h'⟩⟩⟩)
      · exact h.elim
    · exact h.elim
  | invokespecial index =>
    obtain ⟨hl, h⟩ := h
    unfold rz_ins at h
    split at h
    · next k2 e =>
      split at h
      · next b rest e2 =>
        obtain ⟨h2, h3, h4, h5, h⟩ := h
        exact Or.inr (Or.inl ⟨_, _, _, _, h, fun nat' K' Ca' R' hn h' => ⟨hl, by simp only [rz_ins, e, e2]; exact ⟨h2, h3, h4, hn h5, h'⟩⟩⟩)
      · exact h.elim
    · next k2 e =>
      split at h
      · next b rest =>
        obtain ⟨h3, h4, h5, h⟩ := h
        exact Or.inl ⟨_, _, _, _, h, Nat.le_refl _, ⟨Nat.le_refl _, rz_kp.rf⟩, fun nat' K' Ca' R' hn h' => ⟨hl, by unfold rz_ins; rw [e]; exact ⟨h3, h4, hn h5, h'⟩⟩⟩
      · exact h.elim
    · exact h.elim
  | invokestatic index =>
    obtain ⟨hl, h⟩ := h
    unfold rz_inS at h
    split at h
    · next k2 e =>
      obtain ⟨h2, h3, h4, h5, h⟩ := h
      exact Or.inr (Or.inl ⟨_, _, _, _, h, fun nat' K' Ca' R' hn h' => ⟨hl, by unfold rz_inS; rw [e]; exact ⟨h2, h3, h4, hn h5, h'⟩⟩⟩)
    · next k2 e =>
      obtain ⟨h2, h3, h4, h5, h⟩ := h
      exact Or.inr (Or.inl ⟨_, _, _, _, h, fun nat' K' Ca' R' hn h' => ⟨hl, by unfold rz_inS; rw [e]; exact ⟨h2, h3, h4, hn h5, h'⟩⟩⟩)
    · next k2 e =>
      unfold rz_cpS at h
      split at h
      · obtain ⟨h1, h2, h3, n0, f, n1, g, h4, h5, h6, h7, h8, h9, h10, h⟩ := h
        exact Or.inl ⟨_, _, _, _, h, Nat.le_refl _, ⟨Nat.le_refl _, rz_kp.set (rz_av_lt h5)⟩, fun nat' K' Ca' R' hn h' => ⟨hl, by unfold rz_inS; rw [e]; exact ⟨h1, h2, hn h3, n0, f, n1, g, h4, h5, h6, h7, h8, h9, h10, h'⟩⟩⟩
      · exact h.elim
    · next k2 e =>
      obtain ⟨x, y, s2, -, ⟨h1, h2, h3, h⟩, g⟩ := rz_i2_w h
      exact Or.inl ⟨_, _, _, _, h, Nat.le_refl _, ⟨Nat.le_refl _, rz_kp.rf⟩, fun nat' K' Ca' R' hn h' => ⟨hl, by unfold rz_inS; rw [e]; exact g _ ⟨h1, h2, hn h3, h'⟩⟩⟩
    · next k2 e =>
      obtain ⟨x, y, s2, -, ⟨h1, h2, h3, h⟩, g⟩ := rz_i2_w h
      exact Or.inl ⟨_, _, _, _, h, Nat.le_refl _, ⟨Nat.le_refl _, rz_kp.rf⟩, fun nat' K' Ca' R' hn h' => ⟨hl, by unfold rz_inS; rw [e]; exact g _ ⟨h1, h2, hn h3, h'⟩⟩⟩
    · exact h.elim
  | ireturn =>
    obtain ⟨hl, h⟩ := h
    unfold rz_iret at h
    split at h
    · split at h
      · next e => exact Or.inr (Or.inr ⟨_, h, fun nat' K' Ca' R' hn h' => ⟨hl, by unfold rz_iret; dsimp only; rw [e]; exact h'⟩⟩)
      · next e => exact Or.inr (Or.inr ⟨_, h.2, fun nat' K' Ca' R' hn h' => ⟨hl, by unfold rz_iret; dsimp only; rw [e]; exact ⟨h.1, h'⟩⟩⟩)
      · exact h.elim
    · exact h.elim
  | areturn =>
    obtain ⟨hl, h⟩ := h
    unfold rz_aret at h
    split at h
    · exact Or.inr (Or.inr ⟨_, h.2, fun nat' K' Ca' R' hn h' => ⟨hl, h.1, h'⟩⟩)
    · exact Or.inr (Or.inr ⟨_, h.2, fun nat' K' Ca' R' hn h' => ⟨hl, h.1, h'⟩⟩)
    · exact h.elim
  | return_ =>
    obtain ⟨hl, h1, h2, h⟩ := h
    exact Or.inr (Or.inr ⟨_, h, fun nat' K' Ca' R' hn h' => ⟨hl, h1, h2, h'⟩⟩)
  | _ => exact False.elim h
/-- what comes to an end with R comes to one end, of which R holds; cells are made, none goes -/
theorem rz_go_one : ∀ (n d k pc : Nat) (lv : List (Option Value)) (st : List Value) (hp : rz_Hp) (R : Option Value → rz_Hp → Prop), rz_go n d k pc lv st hp R → ∃ r hp', R r hp' ∧ hp.2.1 ≤ hp'.2.1 ∧ hp.2.2 ≤ hp'.2.2 ∧ ∀ R' : Option Value → rz_Hp → Prop, R' r hp' → rz_go n d k pc lv st hp R' := by
  intro n
  induction n with
  | zero => intro d k pc lv st hp R h; exact h.elim
  | succ n ih =>
    intro d k pc lv st hp R h
    unfold rz_go at h
    split at h
    · next i len e =>
      rcases rz_way h with ⟨pc', lv', st', hp', h1, h2, h3, h4⟩ | ⟨k2, as, pc', rest, ⟨hd, hk, h1⟩, h4⟩ | ⟨r, h1, h4⟩
      · obtain ⟨r, hp2, g1, g2, g3, g4⟩ := ih _ _ _ _ _ _ _ h1
        exact ⟨r, hp2, g1, Nat.le_trans h2 g2, Nat.le_trans h3.1 g3, fun R' hR => by unfold rz_go; rw [e]; exact h4 _ _ _ _ id (g4 R' hR)⟩
      · obtain ⟨r1, hp1, g1, g2, g3, g4⟩ := ih _ _ _ _ _ _ _ h1
        obtain ⟨r, hp2, f1, f2, f3, f4⟩ := ih _ _ _ _ _ _ _ g1
        exact ⟨r, hp2, f1, Nat.le_trans g2 f2, Nat.le_trans g3 f3, fun R' hR => by unfold rz_go; rw [e]; exact h4 _ _ _ _ id ⟨hd, hk, g4 _ (f4 R' hR)⟩⟩
      · exact ⟨r, hp, h1, Nat.le_refl _, Nat.le_refl _, fun R' hR => by unfold rz_go; rw [e]; exact h4 _ _ _ _ id hR⟩
    · exact h.elim
theorem rz_go_mono {n d k pc : Nat} {lv : List (Option Value)} {st : List Value} {hp : rz_Hp} {R R' : Option Value → rz_Hp → Prop} (h : rz_go n d k pc lv st hp R) (hR : ∀ r h', R r h' → R' r h') : rz_go n d k pc lv st hp R' := by
  obtain ⟨r, hp', h1, -, -, h4⟩ := rz_go_one n d k pc lv st hp R h
  exact h4 R' (hR _ _ h1)
theorem rz_go_kp : ∀ (n d k pc : Nat) (lv : List (Option Value)) (st : List Value) (hp : rz_Hp) (R : Option Value → rz_Hp → Prop), rz_go n d k pc lv st hp R → rz_go n d k pc lv st hp (fun r h' => R r h' ∧ rz_kp hp h' ∧ hp.2.1 ≤ h'.2.1) := by
  intro n
  induction n with
  | zero => intro d k pc lv st hp R h; exact h.elim
  | succ n ih =>
    intro d k pc lv st hp R h
    unfold rz_go at h
    split at h
    · next i len e =>
      rcases rz_way h with ⟨pc', lv', st', hp', h1, h2, h3, h4⟩ | ⟨k2, as, pc', rest, ⟨hd, hk, h1⟩, h4⟩ | ⟨r, h1, h4⟩
      · unfold rz_go; rw [e]; exact h4 _ _ _ _ id (rz_go_mono (ih _ _ _ _ _ _ _ h1) (fun r h' q => ⟨q.1, h3.2.tr q.2.1 q.2.2, Nat.le_trans h2 q.2.2⟩))
      · unfold rz_go; rw [e]; exact h4 _ _ _ _ id ⟨hd, hk, rz_go_mono (ih _ _ _ _ _ _ _ h1) (fun r h' q => rz_go_mono (ih _ _ _ _ _ _ _ q.1) (fun r2 h2 q2 => ⟨q2.1, q.2.1.tr q2.2.1 q2.2.2, Nat.le_trans q.2.2 q2.2.2⟩))⟩
      · unfold rz_go; rw [e]; exact h4 _ _ _ _ id ⟨h1, rz_kp.rf, Nat.le_refl _⟩
    · exact h.elim
theorem rz_go_succ : ∀ (n d k pc : Nat) (lv : List (Option Value)) (st : List Value) (hp : rz_Hp) (R : Option Value → rz_Hp → Prop), rz_go n d k pc lv st hp R → rz_go (n + 1) d k pc lv st hp R := by
  intro n
  induction n with
  | zero => intro d k pc lv st hp R h; exact h.elim
  | succ n ih =>
    intro d k pc lv st hp R h
    unfold rz_go at h
    split at h
    · next i len e =>
      rcases rz_way h with ⟨pc', lv', st', hp', h1, h2, h3, h4⟩ | ⟨k2, as, pc', rest, ⟨hd, hk, h1⟩, h4⟩ | ⟨r, h1, h4⟩
      · unfold rz_go; rw [e]; exact h4 _ _ _ _ id (ih _ _ _ _ _ _ _ h1)
      · unfold rz_go; rw [e]; exact h4 _ _ _ _ id ⟨hd, hk, rz_go_mono (ih _ _ _ _ _ _ _ h1) (fun r h' hh => ih _ _ _ _ _ _ _ hh)⟩
      · unfold rz_go; rw [e]; exact h4 _ _ _ _ id h1
    · exact h.elim
theorem rz_go_le {n n2 d k pc : Nat} {lv : List (Option Value)} {st : List Value} {hp : rz_Hp} {R : Option Value → rz_Hp → Prop} (hn : n ≤ n2) (h : rz_go n d k pc lv st hp R) : rz_go n2 d k pc lv st hp R := by
  induction hn with
  | refl => exact h
  | step _ ih => exact rz_go_succ _ _ _ _ _ _ _ _ ih
/-- more frames do no harm -/
theorem rz_go_deep : ∀ (n d d2 k pc : Nat) (lv : List (Option Value)) (st : List Value) (hp : rz_Hp) (R : Option Value → rz_Hp → Prop), d ≤ d2 → rz_go n d k pc lv st hp R → rz_go n d2 k pc lv st hp R := by
  intro n
  induction n with
  | zero => intro d d2 k pc lv st hp R hd h; exact h.elim
  | succ n ih =>
    intro d d2 k pc lv st hp R hd2 h
    unfold rz_go at h
    split at h
    · next i len e =>
      rcases rz_way h with ⟨pc', lv', st', hp', h1, h2, h3, h4⟩ | ⟨k2, as, pc', rest, ⟨hd, hk, h1⟩, h4⟩ | ⟨r, h1, h4⟩
      · unfold rz_go; rw [e]; exact h4 _ _ _ _ (fun q => Nat.lt_of_lt_of_le q hd2) (ih _ _ _ _ _ _ _ _ hd2 h1)
      · unfold rz_go; rw [e]; exact h4 _ _ _ _ (fun q => Nat.lt_of_lt_of_le q hd2) ⟨Nat.lt_of_lt_of_le hd hd2, hk, rz_go_mono (ih _ _ _ _ _ _ _ _ (Nat.sub_le_sub_right hd2 1) h1) (fun r h' hh => ih _ _ _ _ _ _ _ _ hd2 hh)⟩
      · unfold rz_go; rw [e]; exact h4 _ _ _ _ (fun q => Nat.lt_of_lt_of_le q hd2) h1
    · exact h.elim
theorem rz_ev_deep {d d2 k pc : Nat} {lv : List (Option Value)} {st : List Value} {hp : rz_Hp} {R : Option Value → rz_Hp → Prop} (hd : d ≤ d2) (h : rz_ev d k pc lv st hp R) : rz_ev d2 k pc lv st hp R := by
  obtain ⟨n, h⟩ := h
  exact ⟨n, rz_go_deep _ _ _ _ _ _ _ _ _ hd h⟩
theorem rz_ev_mono {d k pc : Nat} {lv : List (Option Value)} {st : List Value} {hp : rz_Hp} {R R' : Option Value → rz_Hp → Prop} (h : rz_ev d k pc lv st hp R) (hR : ∀ r h', R r h' → R' r h') : rz_ev d k pc lv st hp R' := by
  obtain ⟨n, h⟩ := h
  exact ⟨n, rz_go_mono h hR⟩
/-- a step of rz_ev -/
theorem rz_ev_iff {d k pc : Nat} {lv : List (Option Value)} {st : List Value} {hp : rz_Hp} {R : Option Value → rz_Hp → Prop} {i : Instr} {len : Nat} (e : decode (rz_B k) pc = .ok (i, len)) : rz_ev d k pc lv st hp R ↔ rz_stp k (0 < d) len pc lv st hp (fun pc' lv' st' hp' => rz_ev d k pc' lv' st' hp' R) (fun k2 as h post => 0 < d ∧ k2 < 127 ∧ rz_ev (d - 1) k2 0 (rz_en k2 as) [] h post) R i := by
  constructor
  · rintro ⟨n, h⟩
    cases n with
    | zero => exact h.elim
    | succ n =>
      unfold rz_go at h
      rw [e] at h
      rcases rz_way h with ⟨pc', lv', st', hp', h1, h2, h3, h4⟩ | ⟨k2, as, pc', rest, ⟨hd, hk, h1⟩, h4⟩ | ⟨r, h1, h4⟩
      · exact h4 _ _ _ _ id ⟨n, h1⟩
      · exact h4 _ _ _ _ id ⟨hd, hk, n, rz_go_mono h1 (fun r h' hh => ⟨n, hh⟩)⟩
      · exact h4 _ _ _ _ id h1
  · intro h
    rcases rz_way h with ⟨pc', lv', st', hp', ⟨n, h1⟩, h2, h3, h4⟩ | ⟨k2, as, pc', rest, ⟨hd, hk, n, h1⟩, h4⟩ | ⟨r, h1, h4⟩
    · exact ⟨n + 1, by unfold rz_go; rw [e]; exact h4 _ _ _ _ id h1⟩
    · obtain ⟨r, hp', ⟨n2, g1⟩, -, -, g4⟩ := rz_go_one _ _ _ _ _ _ _ _ h1
      refine ⟨max n n2 + 1, ?_⟩
      unfold rz_go
      rw [e]
      exact h4 _ _ _ _ id ⟨hd, hk, rz_go_le (Nat.le_max_left _ _) (g4 _ (rz_go_le (Nat.le_max_right _ _) g1))⟩
    · exact ⟨1, by unfold rz_go; rw [e]; exact h4 _ _ _ _ id h1⟩
theorem rz_ev_kp {d k pc : Nat} {lv : List (Option Value)} {st : List Value} {hp : rz_Hp} {R : Option Value → rz_Hp → Prop} (h : rz_ev d k pc lv st hp R) : rz_ev d k pc lv st hp (fun r h' => R r h' ∧ rz_kp hp h' ∧ hp.2.1 ≤ h'.2.1) := by
  obtain ⟨n, h⟩ := h
  exact ⟨n, rz_go_kp _ _ _ _ _ _ _ _ h⟩
