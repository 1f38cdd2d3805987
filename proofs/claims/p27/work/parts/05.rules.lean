/-! One instruction over places: a row a kind. -/
section RZE
variable {d k pc : Nat} {lv : List (Option Value)} {st : List Value} {hp : rz_Hp} {R : Option Value → rz_Hp → Prop}
theorem rz_e_aload_n {j : Fin 4} {a : Nat} (h : decode (rz_B k) pc = .ok (.aload_n j, 1)) (hv : lv[j.val]? = some (some (.ref a))) : rz_ev d k pc lv st hp R ↔ rz_ev d k (pc + 1) lv (.ref a :: st) hp R := by
  rw [rz_ev_iff h]; show 1 = 1 ∧ rz_lda lv j.val _ ↔ _; unfold rz_lda; rw [hv]; exact ⟨fun h => h.2, fun h => ⟨rfl, h⟩⟩
theorem rz_e_aload_nN {j : Fin 4} (h : decode (rz_B k) pc = .ok (.aload_n j, 1)) (hv : lv[j.val]? = some (some .null)) : rz_ev d k pc lv st hp R ↔ rz_ev d k (pc + 1) lv (.null :: st) hp R := by
  rw [rz_ev_iff h]; show 1 = 1 ∧ rz_lda lv j.val _ ↔ _; unfold rz_lda; rw [hv]; exact ⟨fun h => h.2, fun h => ⟨rfl, h⟩⟩
theorem rz_e_iload_n {j : Fin 4} {x : Int32} (h : decode (rz_B k) pc = .ok (.iload_n j, 1)) (hv : lv[j.val]? = some (some (.int x))) : rz_ev d k pc lv st hp R ↔ rz_ev d k (pc + 1) lv (.int x :: st) hp R := by
  rw [rz_ev_iff h]; show 1 = 1 ∧ rz_ldi lv j.val _ ↔ _; unfold rz_ldi; rw [hv]; exact ⟨fun h => h.2, fun h => ⟨rfl, h⟩⟩
theorem rz_e_iload {j : Nat} {x : Int32} (h : decode (rz_B k) pc = .ok (.iload j, 2)) (hv : lv[j]? = some (some (.int x))) : rz_ev d k pc lv st hp R ↔ rz_ev d k (pc + 2) lv (.int x :: st) hp R := by
  rw [rz_ev_iff h]; show 2 = 2 ∧ rz_ldi lv j _ ↔ _; unfold rz_ldi; rw [hv]; exact ⟨fun h => h.2, fun h => ⟨rfl, h⟩⟩
theorem rz_e_astore_n {j : Fin 4} {a : Nat} (h : decode (rz_B k) pc = .ok (.astore_n j, 1)) (hj : j.val < lv.length) (hn : rz_K k ≠ 9 ∨ rz_nl lv j.val = true) : rz_ev d k pc lv (.ref a :: st) hp R ↔ rz_ev d k (pc + 1) (lv.set j.val (some (.ref a))) st hp R := by
  rw [rz_ev_iff h]; exact ⟨fun h => h.2.2.2, fun h => ⟨rfl, hn, hj, h⟩⟩
theorem rz_e_astore_nN {j : Fin 4} (h : decode (rz_B k) pc = .ok (.astore_n j, 1)) (hj : j.val < lv.length) (hn : rz_K k ≠ 9 ∨ rz_nl lv j.val = true) : rz_ev d k pc lv (.null :: st) hp R ↔ rz_ev d k (pc + 1) (lv.set j.val (some .null)) st hp R := by
  rw [rz_ev_iff h]; exact ⟨fun h => h.2.2.2, fun h => ⟨rfl, hn, hj, h⟩⟩
theorem rz_e_istore_n {j : Fin 4} {x : Int32} (h : decode (rz_B k) pc = .ok (.istore_n j, 1)) (hj : j.val < lv.length) (hn : rz_K k ≠ 9 ∨ rz_nl lv j.val = true) : rz_ev d k pc lv (.int x :: st) hp R ↔ rz_ev d k (pc + 1) (lv.set j.val (some (.int x))) st hp R := by
  rw [rz_ev_iff h]; exact ⟨fun h => h.2.2.2, fun h => ⟨rfl, hn, hj, h⟩⟩
theorem rz_e_istore {j : Nat} {x : Int32} (h : decode (rz_B k) pc = .ok (.istore j, 2)) (hj : j < lv.length) (hn : rz_K k ≠ 9 ∨ rz_nl lv j = true) : rz_ev d k pc lv (.int x :: st) hp R ↔ rz_ev d k (pc + 2) (lv.set j (some (.int x))) st hp R := by
  rw [rz_ev_iff h]; exact ⟨fun h => h.2.2.2, fun h => ⟨rfl, hn, hj, h⟩⟩
theorem rz_e_iinc {j : Nat} {c : Int} {x v : Int32} (h : decode (rz_B k) pc = .ok (.iinc j c, 3)) (hv : lv[j]? = some (some (.int x))) (hc : Int32.ofInt c = v) : rz_ev d k pc lv st hp R ↔ rz_ev d k (pc + 3) (lv.set j (some (.int (x + v)))) st hp R := by
  subst hc
  rw [rz_ev_iff h]; unfold rz_stp; dsimp only; rw [hv]; exact ⟨fun h => h.2, fun h => ⟨rfl, h⟩⟩
theorem rz_e_iconst {n : Int} {v : Int32} (h : decode (rz_B k) pc = .ok (.iconst n, 1)) (hc : Int32.ofInt n = v) : rz_ev d k pc lv st hp R ↔ rz_ev d k (pc + 1) lv (.int v :: st) hp R := by
  subst hc
  rw [rz_ev_iff h]; exact ⟨fun h => h.2, fun h => ⟨rfl, h⟩⟩
theorem rz_e_bipush {n : Int} {v : Int32} (h : decode (rz_B k) pc = .ok (.bipush n, 2)) (hc : (Int8.ofInt n).toInt32 = v) : rz_ev d k pc lv st hp R ↔ rz_ev d k (pc + 2) lv (.int v :: st) hp R := by
  subst hc
  rw [rz_ev_iff h]; exact ⟨fun h => h.2, fun h => ⟨rfl, h⟩⟩
theorem rz_e_sipush {n : Int} {v : Int32} (h : decode (rz_B k) pc = .ok (.sipush n, 3)) (hc : (Int16.ofInt n).toInt32 = v) : rz_ev d k pc lv st hp R ↔ rz_ev d k (pc + 3) lv (.int v :: st) hp R := by
  subst hc
  rw [rz_ev_iff h]; exact ⟨fun h => h.2, fun h => ⟨rfl, h⟩⟩
theorem rz_e_ldc {n : Nat} {v : Int32} (h : decode (rz_B k) pc = .ok (.ldc n, 2)) (hc : rz_kl.lookup (rz_K k, n) = some v) : rz_ev d k pc lv st hp R ↔ rz_ev d k (pc + 2) lv (.int v :: st) hp R := by
  rw [rz_ev_iff h]; unfold rz_stp; dsimp only; rw [hc]; exact ⟨fun h => h.2, fun h => ⟨rfl, h⟩⟩
theorem rz_e_null (h : decode (rz_B k) pc = .ok (.aconst_null, 1)) : rz_ev d k pc lv st hp R ↔ rz_ev d k (pc + 1) lv (.null :: st) hp R := by
  rw [rz_ev_iff h]; exact ⟨fun h => h.2, fun h => ⟨rfl, h⟩⟩
theorem rz_e_iadd {x y : Int32} (h : decode (rz_B k) pc = .ok (.iadd, 1)) : rz_ev d k pc lv (.int y :: .int x :: st) hp R ↔ rz_ev d k (pc + 1) lv (.int (x + y) :: st) hp R := by
  rw [rz_ev_iff h]; exact ⟨fun h => h.2, fun h => ⟨rfl, h⟩⟩
theorem rz_e_isub {x y : Int32} (h : decode (rz_B k) pc = .ok (.isub, 1)) : rz_ev d k pc lv (.int y :: .int x :: st) hp R ↔ rz_ev d k (pc + 1) lv (.int (x - y) :: st) hp R := by
  rw [rz_ev_iff h]; exact ⟨fun h => h.2, fun h => ⟨rfl, h⟩⟩
theorem rz_e_imul {x y : Int32} (h : decode (rz_B k) pc = .ok (.imul, 1)) : rz_ev d k pc lv (.int y :: .int x :: st) hp R ↔ rz_ev d k (pc + 1) lv (.int (x * y) :: st) hp R := by
  rw [rz_ev_iff h]; exact ⟨fun h => h.2, fun h => ⟨rfl, h⟩⟩
theorem rz_e_iand {x y : Int32} (h : decode (rz_B k) pc = .ok (.iand, 1)) : rz_ev d k pc lv (.int y :: .int x :: st) hp R ↔ rz_ev d k (pc + 1) lv (.int (x &&& y) :: st) hp R := by
  rw [rz_ev_iff h]; exact ⟨fun h => h.2, fun h => ⟨rfl, h⟩⟩
theorem rz_e_ixor {x y : Int32} (h : decode (rz_B k) pc = .ok (.ixor, 1)) : rz_ev d k pc lv (.int y :: .int x :: st) hp R ↔ rz_ev d k (pc + 1) lv (.int (x ^^^ y) :: st) hp R := by
  rw [rz_ev_iff h]; exact ⟨fun h => h.2, fun h => ⟨rfl, h⟩⟩
theorem rz_e_ishr {x y : Int32} (h : decode (rz_B k) pc = .ok (.ishr, 1)) : rz_ev d k pc lv (.int y :: .int x :: st) hp R ↔ rz_ev d k (pc + 1) lv (.int (x >>> (y &&& 31)) :: st) hp R := by
  rw [rz_ev_iff h]; exact ⟨fun h => h.2, fun h => ⟨rfl, h⟩⟩
theorem rz_e_idiv {x y : Int32} (h : decode (rz_B k) pc = .ok (.idiv, 1)) : rz_ev d k pc lv (.int y :: .int x :: st) hp R ↔ ¬ y = 0 ∧ rz_ev d k (pc + 1) lv (.int (x / y) :: st) hp R := by
  rw [rz_ev_iff h]; exact ⟨fun h => h.2, fun h => ⟨rfl, h⟩⟩
theorem rz_e_i2c {x : Int32} (h : decode (rz_B k) pc = .ok (.i2c, 1)) : rz_ev d k pc lv (.int x :: st) hp R ↔ rz_ev d k (pc + 1) lv (.int (x.toUInt32 % 65536).toInt32 :: st) hp R := by
  rw [rz_ev_iff h]; exact ⟨fun h => h.2, fun h => ⟨rfl, h⟩⟩
theorem rz_e_dupI {x : Int32} (h : decode (rz_B k) pc = .ok (.dup, 1)) : rz_ev d k pc lv (.int x :: st) hp R ↔ rz_ev d k (pc + 1) lv (.int x :: .int x :: st) hp R := by
  rw [rz_ev_iff h]; exact ⟨fun h => h.2.2, fun h => ⟨rfl, rfl, h⟩⟩
theorem rz_e_dupA {x : Nat} (h : decode (rz_B k) pc = .ok (.dup, 1)) : rz_ev d k pc lv (.ref x :: st) hp R ↔ rz_ev d k (pc + 1) lv (.ref x :: .ref x :: st) hp R := by
  rw [rz_ev_iff h]; exact ⟨fun h => h.2.2, fun h => ⟨rfl, rfl, h⟩⟩
theorem rz_e_dup2 {x : Int32} {a : Nat} (h : decode (rz_B k) pc = .ok (.dup2, 1)) : rz_ev d k pc lv (.int x :: .ref a :: st) hp R ↔ rz_ev d k (pc + 1) lv (.int x :: .ref a :: .int x :: .ref a :: st) hp R := by
  rw [rz_ev_iff h]; exact ⟨fun h => h.2.2.2, fun h => ⟨rfl, rfl, rfl, h⟩⟩
theorem rz_e_pop {x : Int32} (h : decode (rz_B k) pc = .ok (.pop, 1)) : rz_ev d k pc lv (.int x :: st) hp R ↔ rz_ev d k (pc + 1) lv st hp R := by
  rw [rz_ev_iff h]; exact ⟨fun h => h.2.2, fun h => ⟨rfl, rfl, h⟩⟩
theorem rz_e_getfield {a index ci j : Nat} (h : decode (rz_B k) pc = .ok (.getfield index, 3)) (hl : rz_fl.lookup (rz_K k, index) = some (ci, j)) : rz_ev d k pc lv (.ref a :: st) hp R ↔ ∃ v, rz_fv hp a ci j = some v ∧ rz_ev d k (pc + 3) lv (v :: st) hp R := by
  rw [rz_ev_iff h]; show 3 = 3 ∧ rz_getf _ _ _ _ _ _ _ ↔ _; unfold rz_getf rz_r1; dsimp only; rw [hl]; exact ⟨fun h => h.2, fun h => ⟨rfl, h⟩⟩
theorem rz_e_putfield {a index ci j : Nat} {v : Value} (h : decode (rz_B k) pc = .ok (.putfield index, 3)) (hl : rz_fl.lookup (rz_K k, index) = some (ci, j)) (hf : rz_fit (rz_ty ci j) v) (hn : (rz_T ci j).2.2.2 = true → (rz_Y k).name = "<init>" ∧ ci = rz_K k) : rz_ev d k pc lv (v :: .ref a :: st) hp R ↔ (∃ w, rz_fv hp a ci j = some w) ∧ rz_ev d k (pc + 3) lv st (rz_pf hp a j v) R := by
  rw [rz_ev_iff h]; show 3 = 3 ∧ rz_putf _ _ _ _ _ _ _ ↔ _; unfold rz_putf; dsimp only; rw [hl]; exact ⟨fun h => ⟨h.2.1, h.2.2.2.2⟩, fun h => ⟨rfl, h.1, hf, hn, h.2⟩⟩
theorem rz_e_iaload {a : Nat} {i : Int32} (h : decode (rz_B k) pc = .ok (.iaload, 1)) : rz_ev d k pc lv (.int i :: .ref a :: st) hp R ↔ ∃ n f, rz_av hp a = some (0, n, f) ∧ vp_in i n ∧ rz_ev d k (pc + 1) lv (.int (f i.toNatClampNeg) :: st) hp R := by
  rw [rz_ev_iff h]; exact ⟨fun h => h.2, fun h => ⟨rfl, h⟩⟩
theorem rz_e_caload {a : Nat} {i : Int32} (h : decode (rz_B k) pc = .ok (.caload, 1)) : rz_ev d k pc lv (.int i :: .ref a :: st) hp R ↔ ∃ n f, rz_av hp a = some (1, n, f) ∧ vp_in i n ∧ rz_ev d k (pc + 1) lv (.int (f i.toNatClampNeg) :: st) hp R := by
  rw [rz_ev_iff h]; exact ⟨fun h => h.2, fun h => ⟨rfl, h⟩⟩
theorem rz_e_iastore {a : Nat} {i x : Int32} (h : decode (rz_B k) pc = .ok (.iastore, 1)) : rz_ev d k pc lv (.int x :: .int i :: .ref a :: st) hp R ↔ ∃ n f, rz_av hp a = some (0, n, f) ∧ vp_in i n ∧ rz_ev d k (pc + 1) lv st (rz_pa hp a (upd f i.toNatClampNeg x)) R := by
  rw [rz_ev_iff h]; exact ⟨fun h => h.2, fun h => ⟨rfl, h⟩⟩
theorem rz_e_castore {a : Nat} {i x : Int32} (h : decode (rz_B k) pc = .ok (.castore, 1)) : rz_ev d k pc lv (.int x :: .int i :: .ref a :: st) hp R ↔ ∃ n f, rz_av hp a = some (1, n, f) ∧ vp_in i n ∧ rz_ev d k (pc + 1) lv st (rz_pa hp a (upd f i.toNatClampNeg (vp_nar .char x))) R := by
  rw [rz_ev_iff h]; exact ⟨fun h => h.2, fun h => ⟨rfl, h⟩⟩
theorem rz_e_aaload {a : Nat} {i : Int32} (h : decode (rz_B k) pc = .ok (.aaload, 1)) : rz_ev d k pc lv (.int i :: .ref a :: st) hp R ↔ ∃ n f, rz_qv hp a = some (n, f) ∧ vp_in i n ∧ rz_ev d k (pc + 1) lv (va_rf (f i.toNatClampNeg) :: st) hp R := by
  rw [rz_ev_iff h]; exact ⟨fun h => h.2, fun h => ⟨rfl, h⟩⟩
theorem rz_e_aastore {a v : Nat} {i : Int32} (h : decode (rz_B k) pc = .ok (.aastore, 1)) : rz_ev d k pc lv (.ref v :: .int i :: .ref a :: st) hp R ↔ ∃ n f, rz_qv hp a = some (n, f) ∧ vp_in i n ∧ rz_co hp v = some 6 ∧ rz_ev d k (pc + 1) lv st (rz_pq hp a (va_up f i.toNatClampNeg (some v))) R := by
  rw [rz_ev_iff h]; exact ⟨fun h => h.2, fun h => ⟨rfl, h⟩⟩
theorem rz_e_arraylength {a : Nat} (h : decode (rz_B k) pc = .ok (.arraylength, 1)) : rz_ev d k pc lv (.ref a :: st) hp R ↔ ∃ n, rz_ln hp a = some n ∧ rz_ev d k (pc + 1) lv (.int (nI n) :: st) hp R := by
  rw [rz_ev_iff h]; exact ⟨fun h => h.2, fun h => ⟨rfl, h⟩⟩
theorem rz_e_new {index ci : Nat} (h : decode (rz_B k) pc = .ok (.new index, 3)) (hl : rz_cl.lookup (rz_K k, index) = some ci) : rz_ev d k pc lv st hp R ↔ rz_ev d k (pc + 3) lv (.ref hp.2.1 :: st) (rz_push hp (.inr (.inr (ci, rz_dv ci))) (rz_N ci)) R := by
  rw [rz_ev_iff h]; unfold rz_stp; dsimp only; rw [hl]; exact ⟨fun h => h.2, fun h => ⟨rfl, h⟩⟩
theorem rz_e_newI {n : Int32} (h : decode (rz_B k) pc = .ok (.newarray .int, 2)) : rz_ev d k pc lv (.int n :: st) hp R ↔ ¬ n < 0 ∧ n.toNatClampNeg ≤ 4096 ∧ rz_ev d k (pc + 2) lv (.ref hp.2.1 :: st) (rz_push hp (.inl (0, n.toNatClampNeg, fun _ => 0)) n.toNatClampNeg) R := by
  rw [rz_ev_iff h]; exact ⟨fun h => h.2, fun h => ⟨rfl, h⟩⟩
theorem rz_e_newC {n : Int32} (h : decode (rz_B k) pc = .ok (.newarray .char, 2)) : rz_ev d k pc lv (.int n :: st) hp R ↔ ¬ n < 0 ∧ n.toNatClampNeg ≤ 4096 ∧ rz_ev d k (pc + 2) lv (.ref hp.2.1 :: st) (rz_push hp (.inl (1, n.toNatClampNeg, fun _ => 0)) n.toNatClampNeg) R := by
  rw [rz_ev_iff h]; exact ⟨fun h => h.2, fun h => ⟨rfl, h⟩⟩
theorem rz_e_anewarray {index : Nat} {n : Int32} (h : decode (rz_B k) pc = .ok (.anewarray index, 3)) (hl : rz_cl.lookup (rz_K k, index) = some 6) : rz_ev d k pc lv (.int n :: st) hp R ↔ ¬ n < 0 ∧ n.toNatClampNeg ≤ 4096 ∧ rz_ev d k (pc + 3) lv (.ref hp.2.1 :: st) (rz_push hp (.inr (.inl (n.toNatClampNeg, fun _ => none))) n.toNatClampNeg) R := by
  rw [rz_ev_iff h]; exact ⟨fun h => h.2.2, fun h => ⟨rfl, hl, h⟩⟩
theorem rz_to_iff {off : Int} {t : Nat} {f : Nat → Prop} (ht : (pc : Int) + off = (t : Int)) : rz_to pc off f ↔ f t := by
  unfold rz_to
  rw [ht]
  exact ⟨fun h => h.2, fun h => ⟨Int.natCast_nonneg t, h⟩⟩
theorem rz_e_goto {off : Int} {t : Nat} (h : decode (rz_B k) pc = .ok (.goto off, 3)) (ht : (pc : Int) + off = (t : Int)) : rz_ev d k pc lv st hp R ↔ rz_ev d k t lv st hp R := by
  rw [rz_ev_iff h]; show 3 = 3 ∧ rz_to _ _ _ ↔ _; rw [rz_to_iff ht]; exact ⟨fun h => h.2, fun h => ⟨rfl, h⟩⟩
theorem rz_e_ceq {off : Int} {t : Nat} {x y : Int32} (h : decode (rz_B k) pc = .ok (.if_icmp .eq off, 3)) (ht : (pc : Int) + off = (t : Int)) : rz_ev d k pc lv (.int y :: .int x :: st) hp R ↔ if x = y then rz_ev d k t lv st hp R else rz_ev d k (pc + 3) lv st hp R := by
  rw [rz_ev_iff h]; show 3 = 3 ∧ rz_to _ _ _ ↔ _; rw [rz_to_iff ht]; exact ⟨fun h => h.2, fun h => ⟨rfl, h⟩⟩
theorem rz_e_cne {off : Int} {t : Nat} {x y : Int32} (h : decode (rz_B k) pc = .ok (.if_icmp .ne off, 3)) (ht : (pc : Int) + off = (t : Int)) : rz_ev d k pc lv (.int y :: .int x :: st) hp R ↔ if x = y then rz_ev d k (pc + 3) lv st hp R else rz_ev d k t lv st hp R := by
  rw [rz_ev_iff h]; show 3 = 3 ∧ rz_to _ _ _ ↔ _; rw [rz_to_iff ht]; exact ⟨fun h => h.2, fun h => ⟨rfl, h⟩⟩
theorem rz_e_clt {off : Int} {t : Nat} {x y : Int32} (h : decode (rz_B k) pc = .ok (.if_icmp .lt off, 3)) (ht : (pc : Int) + off = (t : Int)) : rz_ev d k pc lv (.int y :: .int x :: st) hp R ↔ if x < y then rz_ev d k t lv st hp R else rz_ev d k (pc + 3) lv st hp R := by
  rw [rz_ev_iff h]; show 3 = 3 ∧ rz_to _ _ _ ↔ _; rw [rz_to_iff ht]; exact ⟨fun h => h.2, fun h => ⟨rfl, h⟩⟩
theorem rz_e_cge {off : Int} {t : Nat} {x y : Int32} (h : decode (rz_B k) pc = .ok (.if_icmp .ge off, 3)) (ht : (pc : Int) + off = (t : Int)) : rz_ev d k pc lv (.int y :: .int x :: st) hp R ↔ if y ≤ x then rz_ev d k t lv st hp R else rz_ev d k (pc + 3) lv st hp R := by
  rw [rz_ev_iff h]; show 3 = 3 ∧ rz_to _ _ _ ↔ _; rw [rz_to_iff ht]; exact ⟨fun h => h.2, fun h => ⟨rfl, h⟩⟩
theorem rz_e_cgt {off : Int} {t : Nat} {x y : Int32} (h : decode (rz_B k) pc = .ok (.if_icmp .gt off, 3)) (ht : (pc : Int) + off = (t : Int)) : rz_ev d k pc lv (.int y :: .int x :: st) hp R ↔ if y < x then rz_ev d k t lv st hp R else rz_ev d k (pc + 3) lv st hp R := by
  rw [rz_ev_iff h]; show 3 = 3 ∧ rz_to _ _ _ ↔ _; rw [rz_to_iff ht]; exact ⟨fun h => h.2, fun h => ⟨rfl, h⟩⟩
theorem rz_e_cle {off : Int} {t : Nat} {x y : Int32} (h : decode (rz_B k) pc = .ok (.if_icmp .le off, 3)) (ht : (pc : Int) + off = (t : Int)) : rz_ev d k pc lv (.int y :: .int x :: st) hp R ↔ if x ≤ y then rz_ev d k t lv st hp R else rz_ev d k (pc + 3) lv st hp R := by
  rw [rz_ev_iff h]; show 3 = 3 ∧ rz_to _ _ _ ↔ _; rw [rz_to_iff ht]; exact ⟨fun h => h.2, fun h => ⟨rfl, h⟩⟩
theorem rz_e_ieq {off : Int} {t : Nat} {x : Int32} (h : decode (rz_B k) pc = .ok (.ifCond .eq off, 3)) (ht : (pc : Int) + off = (t : Int)) : rz_ev d k pc lv (.int x :: st) hp R ↔ if x = 0 then rz_ev d k t lv st hp R else rz_ev d k (pc + 3) lv st hp R := by
  rw [rz_ev_iff h]; show 3 = 3 ∧ rz_to _ _ _ ↔ _; rw [rz_to_iff ht]; exact ⟨fun h => h.2, fun h => ⟨rfl, h⟩⟩
theorem rz_e_ine {off : Int} {t : Nat} {x : Int32} (h : decode (rz_B k) pc = .ok (.ifCond .ne off, 3)) (ht : (pc : Int) + off = (t : Int)) : rz_ev d k pc lv (.int x :: st) hp R ↔ if x = 0 then rz_ev d k (pc + 3) lv st hp R else rz_ev d k t lv st hp R := by
  rw [rz_ev_iff h]; show 3 = 3 ∧ rz_to _ _ _ ↔ _; rw [rz_to_iff ht]; exact ⟨fun h => h.2, fun h => ⟨rfl, h⟩⟩
theorem rz_e_ilt {off : Int} {t : Nat} {x : Int32} (h : decode (rz_B k) pc = .ok (.ifCond .lt off, 3)) (ht : (pc : Int) + off = (t : Int)) : rz_ev d k pc lv (.int x :: st) hp R ↔ if x < 0 then rz_ev d k t lv st hp R else rz_ev d k (pc + 3) lv st hp R := by
  rw [rz_ev_iff h]; show 3 = 3 ∧ rz_to _ _ _ ↔ _; rw [rz_to_iff ht]; exact ⟨fun h => h.2, fun h => ⟨rfl, h⟩⟩
theorem rz_e_ige {off : Int} {t : Nat} {x : Int32} (h : decode (rz_B k) pc = .ok (.ifCond .ge off, 3)) (ht : (pc : Int) + off = (t : Int)) : rz_ev d k pc lv (.int x :: st) hp R ↔ if 0 ≤ x then rz_ev d k t lv st hp R else rz_ev d k (pc + 3) lv st hp R := by
  rw [rz_ev_iff h]; show 3 = 3 ∧ rz_to _ _ _ ↔ _; rw [rz_to_iff ht]; exact ⟨fun h => h.2, fun h => ⟨rfl, h⟩⟩
theorem rz_e_igt {off : Int} {t : Nat} {x : Int32} (h : decode (rz_B k) pc = .ok (.ifCond .gt off, 3)) (ht : (pc : Int) + off = (t : Int)) : rz_ev d k pc lv (.int x :: st) hp R ↔ if 0 < x then rz_ev d k t lv st hp R else rz_ev d k (pc + 3) lv st hp R := by
  rw [rz_ev_iff h]; show 3 = 3 ∧ rz_to _ _ _ ↔ _; rw [rz_to_iff ht]; exact ⟨fun h => h.2, fun h => ⟨rfl, h⟩⟩
theorem rz_e_ile {off : Int} {t : Nat} {x : Int32} (h : decode (rz_B k) pc = .ok (.ifCond .le off, 3)) (ht : (pc : Int) + off = (t : Int)) : rz_ev d k pc lv (.int x :: st) hp R ↔ if x ≤ 0 then rz_ev d k t lv st hp R else rz_ev d k (pc + 3) lv st hp R := by
  rw [rz_ev_iff h]; show 3 = 3 ∧ rz_to _ _ _ ↔ _; rw [rz_to_iff ht]; exact ⟨fun h => h.2, fun h => ⟨rfl, h⟩⟩
theorem rz_e_ifnull {off : Int} {t : Nat} {v : Value} (h : decode (rz_B k) pc = .ok (.ifnull off, 3)) (ht : (pc : Int) + off = (t : Int)) (hv : v = .null ∨ ∃ a, v = .ref a) : rz_ev d k pc lv (v :: st) hp R ↔ if v = .null then rz_ev d k t lv st hp R else rz_ev d k (pc + 3) lv st hp R := by
  rw [rz_ev_iff h]
  rcases hv with rfl | ⟨a, rfl⟩
  · show 3 = 3 ∧ rz_to _ _ _ ↔ _; rw [rz_to_iff ht, if_pos rfl]; exact ⟨fun h => h.2, fun h => ⟨rfl, h⟩⟩
  · rw [if_neg (by simp)]; exact ⟨fun h => h.2, fun h => ⟨rfl, h⟩⟩
theorem rz_e_ifnonnull {off : Int} {t : Nat} {v : Value} (h : decode (rz_B k) pc = .ok (.ifnonnull off, 3)) (ht : (pc : Int) + off = (t : Int)) (hv : v = .null ∨ ∃ a, v = .ref a) : rz_ev d k pc lv (v :: st) hp R ↔ if v = .null then rz_ev d k (pc + 3) lv st hp R else rz_ev d k t lv st hp R := by
  rw [rz_ev_iff h]
  rcases hv with rfl | ⟨a, rfl⟩
  · rw [if_pos rfl]; exact ⟨fun h => h.2, fun h => ⟨rfl, h⟩⟩
  · show 3 = 3 ∧ rz_to _ _ _ ↔ _; rw [rz_to_iff ht, if_neg (by simp)]; exact ⟨fun h => h.2, fun h => ⟨rfl, h⟩⟩
theorem rz_e_table {dflt lo hi : Int} {offs : Array Int} {len : Nat} {x : Int32} (h : decode (rz_B k) pc = .ok (.tableswitch dflt lo hi offs, len)) : rz_ev d k pc lv (.int x :: st) hp R ↔ if x.toInt < lo ∨ hi < x.toInt then rz_to pc dflt (fun t => rz_ev d k t lv st hp R) else match offs[(x.toInt - lo).toNat]? with
    | some off => rz_to pc off (fun t => rz_ev d k t lv st hp R)
    | none => False := by
  rw [rz_ev_iff h]; exact Iff.rfl
theorem rz_e_lookup {dflt : Int} {ps : Array (Int × Int)} {len : Nat} {x : Int32} (h : decode (rz_B k) pc = .ok (.lookupswitch dflt ps, len)) (hs : (ps.toList.zip (ps.toList.drop 1)).all (fun (a, next) => a.1 < next.1) = true) : rz_ev d k pc lv (.int x :: st) hp R ↔ rz_to pc (Op.lookupswitch.offset ps.toList dflt x.toInt) (fun t => rz_ev d k t lv st hp R) := by
  rw [rz_ev_iff h]; exact ⟨fun h => h.2, fun h => ⟨hs, h⟩⟩
theorem rz_e_virtual {index k2 b : Nat} {rest : List Value} (h : decode (rz_B k) pc = .ok (.invokevirtual index, 3)) (hl : rz_ml.lookup (rz_K k, index) = some (0, k2)) (hk : k2 < 127) (hd : st.drop (rz_np k2) = .ref b :: rest) (hn : rz_np k2 ≤ st.length) (ha : st.all rz_val = true) (hr : rz_cs rest ≤ 8) (hA : rz_cs (.ref b :: (st.take (rz_np k2)).reverse) ≤ rz_ML k2) (hO : rz_K k2 = 9 ∨ (Value.ref b :: (st.take (rz_np k2)).reverse).all rz_one = true) {c : Nat} (hc : rz_K k2 = c) {as : List (Option Value)} (hE : rz_en k2 (.ref b :: (st.take (rz_np k2)).reverse) = as) : rz_ev (d + 1) k pc lv st hp R ↔ rz_co hp b = some c ∧ rz_ev d k2 0 as [] hp (fun r h => rz_ev (d + 1) k (pc + 3) lv (r.toList ++ rest) h R) := by
  subst hc; subst hE
  rw [rz_ev_iff h]; show 3 = 3 ∧ rz_inv _ _ _ _ _ _ _ _ _ ↔ _; simp only [rz_inv, hl, hd]
  exact ⟨fun h => ⟨h.2.1, h.2.2.2.2.2.2.2.2⟩, fun h => ⟨trivial, h.1, hn, ha, ⟨hr, hA, hO⟩, Nat.succ_pos _, Nat.succ_pos _, hk, h.2⟩⟩
theorem rz_e_special {index k2 b : Nat} {rest : List Value} (h : decode (rz_B k) pc = .ok (.invokespecial index, 3)) (hl : rz_ml.lookup (rz_K k, index) = some (2, k2)) (hk : k2 < 127) (hd : st.drop (rz_np k2) = .ref b :: rest) (hn : rz_np k2 ≤ st.length) (ha : st.all rz_val = true) (hr : rz_cs rest ≤ 8) (hA : rz_cs (.ref b :: (st.take (rz_np k2)).reverse) ≤ rz_ML k2) (hO : rz_K k2 = 9 ∨ (Value.ref b :: (st.take (rz_np k2)).reverse).all rz_one = true) {as : List (Option Value)} (hE : rz_en k2 (.ref b :: (st.take (rz_np k2)).reverse) = as) : rz_ev (d + 1) k pc lv st hp R ↔ rz_ev d k2 0 as [] hp (fun r h => rz_ev (d + 1) k (pc + 3) lv (r.toList ++ rest) h R) := by
  subst hE
  rw [rz_ev_iff h]; show 3 = 3 ∧ rz_ins _ _ _ _ _ _ _ _ _ ↔ _; simp only [rz_ins, hl, hd]
  exact ⟨fun h => h.2.2.2.2.2.2.2, fun h => ⟨trivial, hn, ha, ⟨hr, hA, hO⟩, Nat.succ_pos _, Nat.succ_pos _, hk, h⟩⟩
theorem rz_e_object {index b k2 : Nat} {rest : List Value} (h : decode (rz_B k) pc = .ok (.invokespecial index, 3)) (hl : rz_ml.lookup (rz_K k, index) = some (8, k2)) (ha : rest.all rz_val = true) (hr : rz_cs rest ≤ 8) : rz_ev (d + 1) k pc lv (.ref b :: rest) hp R ↔ rz_ev (d + 1) k (pc + 3) lv rest hp R := by
  rw [rz_ev_iff h]; show 3 = 3 ∧ rz_ins _ _ _ _ _ _ _ _ _ ↔ _; unfold rz_ins; rw [hl]
  exact ⟨fun h => h.2.2.2.2, fun h => ⟨rfl, ha, hr, Nat.succ_pos _, h⟩⟩
theorem rz_e_static {index k2 : Nat} {rest : List Value} (h : decode (rz_B k) pc = .ok (.invokestatic index, 3)) (hl : rz_ml.lookup (rz_K k, index) = some (1, k2) ∨ rz_ml.lookup (rz_K k, index) = some (3, k2)) (hk : k2 < 127) (hd : st.drop (rz_np k2) = rest) (hn : rz_np k2 ≤ st.length) (ha : st.all rz_val = true) (hr : rz_cs rest ≤ 8) (hA : rz_cs (st.take (rz_np k2)).reverse ≤ rz_ML k2) (hO : rz_K k2 = 9 ∨ (st.take (rz_np k2)).reverse.all rz_one = true) {as : List (Option Value)} (hE : rz_en k2 (st.take (rz_np k2)).reverse = as) : rz_ev (d + 1) k pc lv st hp R ↔ rz_ev d k2 0 as [] hp (fun r h => rz_ev (d + 1) k (pc + 3) lv (r.toList ++ rest) h R) := by
  subst hE; subst hd
  rw [rz_ev_iff h]; show 3 = 3 ∧ rz_inS _ _ _ _ _ _ _ _ _ ↔ _; unfold rz_inS
  rcases hl with hl | hl <;> rw [hl] <;> exact ⟨fun h => h.2.2.2.2.2.2.2, fun h => ⟨rfl, hn, ha, ⟨hr, hA, hO⟩, Nat.succ_pos _, Nat.succ_pos _, hk, h⟩⟩
theorem rz_e_copy {index k2 a0 a : Nat} {sp dp n : Int32} {rest : List Value} (h : decode (rz_B k) pc = .ok (.invokestatic index, 3)) (hl : rz_ml.lookup (rz_K k, index) = some (5, k2)) (ha : rest.all rz_val = true) (hr : rz_cs rest ≤ 8) : rz_ev (d + 1) k pc lv (.int n :: .int dp :: .ref a :: .int sp :: .ref a0 :: rest) hp R ↔ ∃ n0 f n1 g, rz_av hp a0 = some (0, n0, f) ∧ rz_av hp a = some (0, n1, g) ∧ ¬ sp < 0 ∧ ¬ dp < 0 ∧ ¬ n < 0 ∧ sp.toNatClampNeg + n.toNatClampNeg ≤ n0 ∧ dp.toNatClampNeg + n.toNatClampNeg ≤ n1 ∧ rz_ev (d + 1) k (pc + 3) lv rest (rz_pa hp a (va_cpy f g sp.toNatClampNeg dp.toNatClampNeg n.toNatClampNeg)) R := by
  rw [rz_ev_iff h]; show 3 = 3 ∧ rz_inS _ _ _ _ _ _ _ _ _ ↔ _; unfold rz_inS; rw [hl]
  exact ⟨fun h => h.2.2.2.2, fun h => ⟨rfl, ha, hr, Nat.succ_pos _, h⟩⟩
theorem rz_e_min {index k2 : Nat} {x y : Int32} {rest : List Value} (h : decode (rz_B k) pc = .ok (.invokestatic index, 3)) (hl : rz_ml.lookup (rz_K k, index) = some (6, k2)) (ha : rest.all rz_val = true) (hr : rz_cs rest ≤ 8) : rz_ev (d + 1) k pc lv (.int y :: .int x :: rest) hp R ↔ rz_ev (d + 1) k (pc + 3) lv (.int (if y < x then y else x) :: rest) hp R := by
  rw [rz_ev_iff h]; show 3 = 3 ∧ rz_inS _ _ _ _ _ _ _ _ _ ↔ _; unfold rz_inS; rw [hl]
  exact ⟨fun h => h.2.2.2.2, fun h => ⟨rfl, ha, hr, Nat.succ_pos _, h⟩⟩
theorem rz_e_max {index k2 : Nat} {x y : Int32} {rest : List Value} (h : decode (rz_B k) pc = .ok (.invokestatic index, 3)) (hl : rz_ml.lookup (rz_K k, index) = some (7, k2)) (ha : rest.all rz_val = true) (hr : rz_cs rest ≤ 8) : rz_ev (d + 1) k pc lv (.int y :: .int x :: rest) hp R ↔ rz_ev (d + 1) k (pc + 3) lv (.int (if x < y then y else x) :: rest) hp R := by
  rw [rz_ev_iff h]; show 3 = 3 ∧ rz_inS _ _ _ _ _ _ _ _ _ ↔ _; unfold rz_inS; rw [hl]
  exact ⟨fun h => h.2.2.2.2, fun h => ⟨rfl, ha, hr, Nat.succ_pos _, h⟩⟩
theorem rz_e_iret {v : Int32} (h : decode (rz_B k) pc = .ok (.ireturn, 1)) (hr : rz_RT k = some .int) : rz_ev d k pc lv [.int v] hp R ↔ R (some (.int v)) hp := by
  rw [rz_ev_iff h]; show 1 = 1 ∧ rz_iret _ _ _ _ ↔ _; unfold rz_iret; dsimp only; rw [hr]; exact ⟨fun h => h.2, fun h => ⟨rfl, h⟩⟩
theorem rz_e_zret {v : Int32} (h : decode (rz_B k) pc = .ok (.ireturn, 1)) (hr : rz_RT k = some .boolean) : rz_ev d k pc lv [.int v] hp R ↔ (v = 0 ∨ v = 1) ∧ R (some (.int v)) hp := by
  rw [rz_ev_iff h]; show 1 = 1 ∧ rz_iret _ _ _ _ ↔ _; unfold rz_iret; dsimp only; rw [hr]; exact ⟨fun h => h.2, fun h => ⟨rfl, h⟩⟩
theorem rz_e_aret {v : Value} (h : decode (rz_B k) pc = .ok (.areturn, 1)) (hr : rz_arT k) (hv : v = .null ∨ ∃ a, v = .ref a) : rz_ev d k pc lv [v] hp R ↔ R (some v) hp := by
  rw [rz_ev_iff h]; show 1 = 1 ∧ rz_aret _ _ _ _ ↔ _
  rcases hv with rfl | ⟨a, rfl⟩ <;> exact ⟨fun h => h.2.2, fun h => ⟨rfl, hr, h⟩⟩
theorem rz_e_vret (h : decode (rz_B k) pc = .ok (.return_, 1)) (hr : rz_RT k = none) : rz_ev d k pc lv [] hp R ↔ R none hp := by
  rw [rz_ev_iff h]; exact ⟨fun h => h.2.2.2, fun h => ⟨rfl, rfl, hr, h⟩⟩
theorem rz_e_aload {j : Nat} {a : Nat} (h : decode (rz_B k) pc = .ok (.aload j, 2)) (hv : lv[j]? = some (some (.ref a))) : rz_ev d k pc lv st hp R ↔ rz_ev d k (pc + 2) lv (.ref a :: st) hp R := by
  rw [rz_ev_iff h]; show 2 = 2 ∧ rz_lda lv j _ ↔ _; unfold rz_lda; rw [hv]; exact ⟨fun h => h.2, fun h => ⟨rfl, h⟩⟩
theorem rz_e_aload_nF {j : Fin 4} {a : UInt32} (h : decode (rz_B k) pc = .ok (.aload_n j, 1)) (hv : lv[j.val]? = some (some (.float a))) : rz_ev d k pc lv st hp R ↔ rz_ev d k (pc + 1) lv (.float a :: st) hp R := by
  rw [rz_ev_iff h]; show 1 = 1 ∧ rz_lda lv j.val _ ↔ _; unfold rz_lda; rw [hv]; exact ⟨fun h => h.2, fun h => ⟨rfl, h⟩⟩
theorem rz_e_astore {j : Nat} {a : Nat} (h : decode (rz_B k) pc = .ok (.astore j, 2)) (hj : j < lv.length) (hn : rz_K k ≠ 9 ∨ rz_nl lv j = true) : rz_ev d k pc lv (.ref a :: st) hp R ↔ rz_ev d k (pc + 2) (lv.set j (some (.ref a))) st hp R := by
  rw [rz_ev_iff h]; exact ⟨fun h => h.2.2.2, fun h => ⟨rfl, hn, hj, h⟩⟩
theorem rz_e_lload_n {j : Fin 4} {x : Int64} (h : decode (rz_B k) pc = .ok (.lload_n j, 1)) (hv : lv[j.val]? = some (some (.long x))) : rz_ev d k pc lv st hp R ↔ rz_ev d k (pc + 1) lv (.long x :: st) hp R := by
  rw [rz_ev_iff h]; show 1 = 1 ∧ rz_ldl lv j.val _ ↔ _; unfold rz_ldl; rw [hv]; exact ⟨fun h => h.2, fun h => ⟨rfl, h⟩⟩
theorem rz_e_lstore_n {j : Fin 4} {x : Int64} (h : decode (rz_B k) pc = .ok (.lstore_n j, 1)) (hj : j.val + 1 < lv.length) (h9 : rz_K k = 9) (hn : rz_nl lv j.val = true) : rz_ev d k pc lv (.long x :: st) hp R ↔ rz_ev d k (pc + 1) ((lv.set j.val (some (.long x))).set (j.val + 1) none) st hp R := by
  rw [rz_ev_iff h]; exact ⟨fun h => h.2.2.2, fun h => ⟨rfl, h9, ⟨hj, hn⟩, h⟩⟩
theorem rz_e_ldc2_w {n : Nat} {v : Int64} (h : decode (rz_B k) pc = .ok (.ldc2_w n, 3)) (hc : rz_kL.lookup (rz_K k, n) = some v) : rz_ev d k pc lv st hp R ↔ rz_ev d k (pc + 3) lv (.long v :: st) hp R := by
  rw [rz_ev_iff h]; unfold rz_stp; dsimp only; rw [hc]; exact ⟨fun h => h.2, fun h => ⟨rfl, h⟩⟩
theorem rz_e_lconst {n : Fin 2} {v : Int64} (h : decode (rz_B k) pc = .ok (.lconst n, 1)) (hc : Int64.ofNat (n : Nat) = v) : rz_ev d k pc lv st hp R ↔ rz_ev d k (pc + 1) lv (.long v :: st) hp R := by
  subst hc
  rw [rz_ev_iff h]; exact ⟨fun h => h.2, fun h => ⟨rfl, h⟩⟩
theorem rz_e_i2l {x : Int32} (h : decode (rz_B k) pc = .ok (.i2l, 1)) : rz_ev d k pc lv (.int x :: st) hp R ↔ rz_ev d k (pc + 1) lv (.long x.toInt64 :: st) hp R := by
  rw [rz_ev_iff h]; exact ⟨fun h => h.2, fun h => ⟨rfl, h⟩⟩
theorem rz_e_l2i {x : Int64} (h : decode (rz_B k) pc = .ok (.l2i, 1)) : rz_ev d k pc lv (.long x :: st) hp R ↔ rz_ev d k (pc + 1) lv (.int x.toInt32 :: st) hp R := by
  rw [rz_ev_iff h]; exact ⟨fun h => h.2, fun h => ⟨rfl, h⟩⟩
theorem rz_e_lmul {x y : Int64} (h : decode (rz_B k) pc = .ok (.lmul, 1)) : rz_ev d k pc lv (.long y :: .long x :: st) hp R ↔ rz_ev d k (pc + 1) lv (.long (x * y) :: st) hp R := by
  rw [rz_ev_iff h]; exact ⟨fun h => h.2, fun h => ⟨rfl, h⟩⟩
theorem rz_e_ladd {x y : Int64} (h : decode (rz_B k) pc = .ok (.ladd, 1)) : rz_ev d k pc lv (.long y :: .long x :: st) hp R ↔ rz_ev d k (pc + 1) lv (.long (x + y) :: st) hp R := by
  rw [rz_ev_iff h]; exact ⟨fun h => h.2, fun h => ⟨rfl, h⟩⟩
theorem rz_e_land {x y : Int64} (h : decode (rz_B k) pc = .ok (.land, 1)) : rz_ev d k pc lv (.long y :: .long x :: st) hp R ↔ rz_ev d k (pc + 1) lv (.long (x &&& y) :: st) hp R := by
  rw [rz_ev_iff h]; exact ⟨fun h => h.2, fun h => ⟨rfl, h⟩⟩
theorem rz_e_lcmp {x y : Int64} (h : decode (rz_B k) pc = .ok (.lcmp, 1)) : rz_ev d k pc lv (.long y :: .long x :: st) hp R ↔ rz_ev d k (pc + 1) lv (.int (lg_cmp x y) :: st) hp R := by
  rw [rz_ev_iff h]; exact ⟨fun h => h.2, fun h => ⟨rfl, h⟩⟩
theorem rz_e_lshr {x : Int64} {y : Int32} (h : decode (rz_B k) pc = .ok (.lshr, 1)) : rz_ev d k pc lv (.int y :: .long x :: st) hp R ↔ rz_ev d k (pc + 1) lv (.long (x >>> (y.toInt64 &&& 63)) :: st) hp R := by
  rw [rz_ev_iff h]; exact ⟨fun h => h.2, fun h => ⟨rfl, h⟩⟩
theorem rz_e_irem {x y : Int32} (h : decode (rz_B k) pc = .ok (.irem, 1)) : rz_ev d k pc lv (.int y :: .int x :: st) hp R ↔ ¬ y = 0 ∧ rz_ev d k (pc + 1) lv (.int (x - x / y * y) :: st) hp R := by
  rw [rz_ev_iff h]; exact ⟨fun h => h.2, fun h => ⟨rfl, h⟩⟩
theorem rz_e_laload {a : Nat} {i : Int32} (h : decode (rz_B k) pc = .ok (.laload, 1)) : rz_ev d k pc lv (.int i :: .ref a :: st) hp R ↔ ∃ v, ¬ i < 0 ∧ rz_fv hp a 10 i.toNatClampNeg = some (.long v) ∧ rz_ev d k (pc + 1) lv (.long v :: st) hp R := by
  rw [rz_ev_iff h]; exact ⟨fun h => h.2, fun h => ⟨rfl, h⟩⟩
theorem rz_e_lastore {a : Nat} {i : Int32} {x : Int64} (h : decode (rz_B k) pc = .ok (.lastore, 1)) : rz_ev d k pc lv (.long x :: .int i :: .ref a :: st) hp R ↔ ¬ i < 0 ∧ (∃ w, rz_fv hp a 10 i.toNatClampNeg = some w) ∧ rz_ev d k (pc + 1) lv st (rz_pf hp a i.toNatClampNeg (.long x)) R := by
  rw [rz_ev_iff h]; exact ⟨fun h => h.2, fun h => ⟨rfl, h⟩⟩
theorem rz_e_ialoadF {a : UInt32} {i : Int32} (h : decode (rz_B k) pc = .ok (.iaload, 1)) : rz_ev d k pc lv (.int i :: .float a :: st) hp R ↔ ∃ n f, rz_scr hp = some (n, f) ∧ vp_in i n ∧ rz_ev d k (pc + 1) lv (.int (f i.toNatClampNeg) :: st) hp R := by
  rw [rz_ev_iff h]; exact ⟨fun h => h.2.2, fun h => ⟨rfl, rfl, h⟩⟩
theorem rz_e_arraylengthF {a : UInt32} (h : decode (rz_B k) pc = .ok (.arraylength, 1)) : rz_ev d k pc lv (.float a :: st) hp R ↔ ∃ n f, rz_scr hp = some (n, f) ∧ rz_ev d k (pc + 1) lv (.int (nI n) :: st) hp R := by
  rw [rz_ev_iff h]; exact ⟨fun h => h.2, fun h => ⟨rfl, h⟩⟩
theorem rz_e_newJ {n : Int32} (h : decode (rz_B k) pc = .ok (.newarray .long, 2)) : rz_ev d k pc lv (.int n :: st) hp R ↔ ¬ n < 0 ∧ n.toNatClampNeg ≤ 4096 ∧ rz_ev d k (pc + 2) lv (.ref hp.2.1 :: st) (rz_push hp (.inr (.inr (10, List.replicate n.toNatClampNeg (.long 0)))) n.toNatClampNeg) R := by
  rw [rz_ev_iff h]; exact ⟨fun h => h.2, fun h => ⟨rfl, h⟩⟩
theorem rz_e_lret {v : Int64} (h : decode (rz_B k) pc = .ok (.lreturn, 1)) (hr : rz_RT k = some .long) : rz_ev d k pc lv [.long v] hp R ↔ R (some (.long v)) hp := by
  rw [rz_ev_iff h]; exact ⟨fun h => h.2.2, fun h => ⟨rfl, hr, h⟩⟩
end RZE
