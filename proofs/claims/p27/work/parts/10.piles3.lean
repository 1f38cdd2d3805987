/-! RisingPiles$Piles, what changes it -/
/-- how many bits a number has -/
def rz_bl (n : Nat) : Nat := if n = 0 then 0 else n.log2 + 1
theorem rz_bl_le {n k : Nat} : rz_bl n ≤ k ↔ n < 2 ^ k := by
  unfold rz_bl
  split
  · next h => subst h; exact ⟨fun _ => Nat.pow_pos (by decide), fun _ => Nat.zero_le _⟩
  · next h => rw [Nat.succ_le_iff, Nat.log2_lt h]
theorem rz_bl_eq {n k : Nat} (h1 : n < 2 ^ (k + 1)) (h2 : 2 ^ k ≤ n) : rz_bl n = k + 1 := by
  have a : rz_bl n ≤ k + 1 := rz_bl_le.mpr h1
  have b : ¬ rz_bl n ≤ k := fun q => Nat.not_lt.mpr h2 (rz_bl_le.mp q)
  omega
theorem rz_bl_mod {n i : Nat} : rz_bl (n % 2 ^ (i + 1)) = if n / 2 ^ i % 2 = 1 then i + 1 else rz_bl (n % 2 ^ i) := by
  have hp : 0 < 2 ^ i := Nat.pow_pos (by decide)
  have e : n % 2 ^ (i + 1) = n % 2 ^ i + 2 ^ i * (n / 2 ^ i % 2) := by
    rw [Nat.pow_succ, Nat.mod_mul]
  have hl : n % 2 ^ i < 2 ^ i := Nat.mod_lt _ hp
  split
  · next h => rw [e, h, Nat.mul_one]; exact rz_bl_eq (by rw [Nat.pow_succ]; omega) (by omega)
  · next h => rw [e, show n / 2 ^ i % 2 = 0 by omega, Nat.mul_zero, Nat.add_zero]
/-- the pile of a key, by the floor -/
def rz_pl (fl key : Int32) : Int32 := nI (rz_bl (key.toNatClampNeg ^^^ fl.toNatClampNeg))
theorem rz_xor {a c : Nat} (ha : a < 2 ^ 16) (hc : c < 2 ^ 16) : nI a ^^^ nI c = nI (a ^^^ c) := by
  apply Int32.toBitVec_inj.mp
  rw [Int32.toBitVec_xor]
  apply BitVec.eq_of_toNat_eq
  have h : a ^^^ c < 2 ^ 16 := Nat.xor_lt_two_pow ha hc
  rw [BitVec.toNat_xor, pk_tn (by omega), pk_tn (by omega), pk_tn (by omega)]
theorem rz_sh : ∀ i, i < 16 → ((nI i &&& 31).toBitVec.smod 32).toNat = i := by decide +kernel
set_option maxHeartbeats 4000000 in
set_option maxRecDepth 100000 in
theorem c_P_pileFor {d b a c : Nat} {fl key : Int32} {hp : rz_Hp} (p6 : rz_fv hp b 3 6 = some (.int fl)) (hk : key = nI a) (hf : fl = nI c) (ha : a < 65536) (hc : c < 65536) {R : Option Value → rz_Hp → Prop} : rz_ev d 43 0 [some (.ref b), some (.int key), none, none, none] [] hp R ↔ R (some (.int (rz_pl fl key))) hp := by
  have hu : a ^^^ c < 2 ^ 16 := Nat.xor_lt_two_pow ha hc
  have he : rz_pl fl key = nI (rz_bl ((a ^^^ c) % 2 ^ 16)) := by
    unfold rz_pl
    rw [hk, hf, nI_clamp (by omega), nI_clamp (by omega), Nat.mod_eq_of_lt hu]
  have hx : key ^^^ fl = nI (a ^^^ c) := by rw [hk, hf]; exact rz_xor ha hc
  have hl : ∀ i, i ≤ 16 → (rz_ev d 43 12 [some (.ref b), some (.int key), some (.int (nI (a ^^^ c))), some (.int (nI (rz_bl ((a ^^^ c) % 2 ^ i)))), some (.int (nI i))] [] hp R ↔ R (some (.int (rz_pl fl key))) hp) := by
    refine rz_down 16 ?_ ?_
    · have c1 : (16 : Int32) ≤ nI 16 := by decide
      rw [he, ri_43_12]
      simp only [↓ri_43_14, ↓ri_43_16, ↓ri_43_19, ↓ri_43_20, ↓ri_43_22, ↓ri_43_23, ↓ri_43_24, ↓ri_43_25, ↓ri_43_26, ↓ri_43_29, ↓ri_43_31, ↓ri_43_32, ↓ri_43_33, ↓ri_43_34, ↓ri_43_37, ↓ri_43_40, ↓ri_43_41, ↓if_pos c1]
    · intro i hi ih
      have c1 : ¬ (16 : Int32) ≤ nI i := nI_ge (b := 16) hi (by decide)
      have hq : (nI (a ^^^ c) >>> (nI i &&& 31)) &&& 1 = nI ((a ^^^ c) / 2 ^ i % 2) := by
        rw [pk_shrN (by omega) _ i (rz_sh i hi)]
        exact pk_andN (Nat.lt_of_le_of_lt (Nat.div_le_self _ _) (by omega)) 1 (by decide)
      have hm : (a ^^^ c) / 2 ^ i % 2 < 2 := Nat.mod_lt _ (by decide)
      rw [← ih, rz_bl_mod, ri_43_12]
      by_cases h1 : (a ^^^ c) / 2 ^ i % 2 = 1
      · have c2 : nI ((a ^^^ c) / 2 ^ i % 2) = 1 := by rw [h1]; rfl
        simp only [↓ri_43_14, ↓ri_43_16, ↓ri_43_19, ↓ri_43_20, ↓ri_43_22, ↓ri_43_23, ↓ri_43_24, ↓ri_43_25, ↓ri_43_26, ↓ri_43_29, ↓ri_43_31, ↓ri_43_32, ↓ri_43_33, ↓ri_43_34, ↓ri_43_37, ↓if_neg c1, hq, ↓if_pos c2, ↓if_pos h1, nI_1]
      · have c2 : ¬ nI ((a ^^^ c) / 2 ^ i % 2) = 1 := by rw [show (a ^^^ c) / 2 ^ i % 2 = 0 by omega]; decide
        simp only [↓ri_43_14, ↓ri_43_16, ↓ri_43_19, ↓ri_43_20, ↓ri_43_22, ↓ri_43_23, ↓ri_43_24, ↓ri_43_25, ↓ri_43_26, ↓ri_43_29, ↓ri_43_31, ↓ri_43_32, ↓ri_43_33, ↓ri_43_34, ↓ri_43_37, ↓if_neg c1, hq, ↓if_neg c2, ↓if_neg h1, nI_1]
  have h0 := hl 0 (Nat.zero_le _)
  rw [nI_0, Nat.pow_zero, Nat.mod_one, show rz_bl 0 = 0 from rfl, nI_0] at h0
  simp only [↓ri_43_0, ↓ri_43_1, ↓ri_43_2, ↓ri_43_5, ↓ri_43_6, ↓ri_43_7, ↓ri_43_8, ↓ri_43_9, ↓ri_43_10, p6, Option.some.injEq, Prod.mk.injEq, exists_eq_left', exists_eq', exists_and_left, exists_and_right, true_and, and_true, true_or, or_true, and_self, and_assoc, Option.toList_some, Option.toList_none, List.cons_append, List.nil_append, ↓reduceIte, rz_x01, rz_x10, hx, h0]
theorem rz_PL_of {b : Nat} {L : List rz_En} {fl am : Int32} {hp : rz_Hp} {f0 f1 f2 f3 f4 : Nat → Int32} (hL : L.length ≤ 40) (hF : rz_PF b (nI L.length) fl am hp) (hA : rz_PA b f0 f1 f2 f3 f4 hp) (hH : rz_PH L f0 f1 f2 f3 f4) : rz_PL b L fl am hp := ⟨hL, hF, f0, f1, f2, f3, f4, hA, hH⟩
theorem rz_us {f : Nat → Int32} {k : Nat} {x : Int32} : upd f k x k = x := pk_us
set_option maxHeartbeats 4000000 in
set_option maxRecDepth 100000 in
theorem c_P_append {d b a c : Nat} {L : List rz_En} {fl am num key val mov : Int32} {hp : rz_Hp} (h : rz_PL b L fl am hp) (hlt : L.length < 40) (hk : key = nI a) (hf : fl = nI c) (ha : a < 65536) (hc : c < 65536) {R : Option Value → rz_Hp → Prop} (kk : ∀ hp', rz_PL b (L ++ [(num, key, val, mov, rz_pl fl key)]) fl am hp' → rz_sm b (b + 6) hp hp' → R none hp') : rz_ev (d + 1) 41 0 [some (.ref b), some (.int num), some (.int key), some (.int val), some (.int mov)] [] hp R := by
  have hq := fun R => c_P_isFull (d := d) h (R := R)
  rw [if_pos hlt] at hq
  obtain ⟨hL, ⟨p0, p1, p2, p3, p4, p5, p6, p7⟩, f0, f1, f2, f3, f4, ⟨a0, a1, a2, a3, a4⟩, hf5⟩ := id h
  have hin : vp_in (nI L.length) 40 := vp_in_nI hlt (by decide)
  have hcl : (nI L.length).toNatClampNeg = L.length := nI_clamp (by omega)
  have c0 : (0 : Int32) ≤ nI L.length := nI_pos' (by omega)
  simp only [↓ri_41_0, ↓ri_41_1, ↓ri_41_4, ↓ri_41_7, ↓ri_41_8, ↓ri_41_11, ↓ri_41_14, ↓ri_41_15, ↓ri_41_16, ↓ri_41_19, ↓ri_41_20, ↓ri_41_23, ↓ri_41_24, ↓ri_41_25, ↓ri_41_26, ↓ri_41_29, ↓ri_41_30, ↓ri_41_33, ↓ri_41_34, ↓ri_41_35, ↓ri_41_36, ↓ri_41_39, ↓ri_41_40, ↓ri_41_43, ↓ri_41_44, ↓ri_41_45, ↓ri_41_46, ↓ri_41_49, ↓ri_41_50, ↓ri_41_53, ↓ri_41_55, ↓ri_41_56, ↓ri_41_57, ↓ri_41_60, ↓ri_41_61, ↓ri_41_64, ↓ri_41_65, ↓ri_41_66, ↓ri_41_69, ↓ri_41_70, ↓ri_41_71, ↓ri_41_72, ↓ri_41_75, ↓ri_41_76, ↓ri_41_77, ↓ri_41_80, Option.some.injEq, Prod.mk.injEq, exists_eq_left', exists_eq', exists_and_left, exists_and_right, true_and, and_true, true_or, or_true, and_self, and_assoc, Option.toList_some, Option.toList_none, List.cons_append, List.nil_append, ↓reduceIte, rz_x01, rz_x10, rz_co_fv p5, hq, p0, p1, p2, p3, p4, p5, a0, a1, a2, a3, a4, rz_fv_pf, rz_av_pf, rz_qv_pf, rz_ln_pf, rz_co_pf, rz_fv_pa, rz_av_pa, rz_qv_pa, rz_ln_pa, rz_co_pa, rz_fv_pq, rz_av_pq, rz_qv_pq, rz_ln_pq, rz_co_pq, Nat.reduceEqDiff, Nat.add_eq_left, Nat.left_eq_add, Nat.one_ne_zero, Option.map_some, exists_const, ↓if_pos c0, hin, hcl]
  rw [c_P_pileFor (fl := fl) (by simp only [rz_fv_pf, rz_av_pf, rz_qv_pf, rz_ln_pf, rz_co_pf, rz_fv_pa, rz_av_pa, rz_qv_pa, rz_ln_pa, rz_co_pa, rz_fv_pq, rz_av_pq, rz_qv_pq, rz_ln_pq, rz_co_pq, Nat.reduceEqDiff, Nat.add_eq_left, Nat.left_eq_add, Nat.one_ne_zero, Option.map_some, exists_const]; exact p6) hk hf ha hc]
  simp only [↓ri_41_0, ↓ri_41_1, ↓ri_41_4, ↓ri_41_7, ↓ri_41_8, ↓ri_41_11, ↓ri_41_14, ↓ri_41_15, ↓ri_41_16, ↓ri_41_19, ↓ri_41_20, ↓ri_41_23, ↓ri_41_24, ↓ri_41_25, ↓ri_41_26, ↓ri_41_29, ↓ri_41_30, ↓ri_41_33, ↓ri_41_34, ↓ri_41_35, ↓ri_41_36, ↓ri_41_39, ↓ri_41_40, ↓ri_41_43, ↓ri_41_44, ↓ri_41_45, ↓ri_41_46, ↓ri_41_49, ↓ri_41_50, ↓ri_41_53, ↓ri_41_55, ↓ri_41_56, ↓ri_41_57, ↓ri_41_60, ↓ri_41_61, ↓ri_41_64, ↓ri_41_65, ↓ri_41_66, ↓ri_41_69, ↓ri_41_70, ↓ri_41_71, ↓ri_41_72, ↓ri_41_75, ↓ri_41_76, ↓ri_41_77, ↓ri_41_80, Option.some.injEq, Prod.mk.injEq, exists_eq_left', exists_eq', exists_and_left, exists_and_right, true_and, and_true, true_or, or_true, and_self, and_assoc, Option.toList_some, Option.toList_none, List.cons_append, List.nil_append, ↓reduceIte, rz_x01, rz_x10, p4, p5, a4, rz_fv_pf, rz_av_pf, rz_qv_pf, rz_ln_pf, rz_co_pf, rz_fv_pa, rz_av_pa, rz_qv_pa, rz_ln_pa, rz_co_pa, rz_fv_pq, rz_av_pq, rz_qv_pq, rz_ln_pq, rz_co_pq, Nat.reduceEqDiff, Nat.add_eq_left, Nat.left_eq_add, Nat.one_ne_zero, Option.map_some, exists_const, hin, hcl]
  refine kk _ (rz_PL_of (f0 := upd f0 L.length num) (f1 := upd f1 L.length key) (f2 := upd f2 L.length val) (f3 := upd f3 L.length mov) (f4 := upd f4 L.length (rz_pl fl key)) (by rw [List.length_append]; simp only [List.length_singleton]; omega) ?_ ?_ ?_) ?_
  · simp only [rz_PF, rz_fv_pf, rz_av_pf, rz_qv_pf, rz_ln_pf, rz_co_pf, rz_fv_pa, rz_av_pa, rz_qv_pa, rz_ln_pa, rz_co_pa, rz_fv_pq, rz_av_pq, rz_qv_pq, rz_ln_pq, rz_co_pq, Nat.reduceEqDiff, Nat.add_eq_left, Nat.left_eq_add, Nat.one_ne_zero, Option.map_some, exists_const, Option.some.injEq, Prod.mk.injEq, exists_eq_left', exists_eq', exists_and_left, exists_and_right, true_and, and_true, true_or, or_true, and_self, and_assoc, Option.toList_some, Option.toList_none, List.cons_append, List.nil_append, ↓reduceIte, rz_x01, rz_x10, p0, p1, p2, p3, p4, p5, p6, p7, nI_1, List.length_append, List.length_singleton]
  · simp only [rz_PA, rz_fv_pf, rz_av_pf, rz_qv_pf, rz_ln_pf, rz_co_pf, rz_fv_pa, rz_av_pa, rz_qv_pa, rz_ln_pa, rz_co_pa, rz_fv_pq, rz_av_pq, rz_qv_pq, rz_ln_pq, rz_co_pq, Nat.reduceEqDiff, Nat.add_eq_left, Nat.left_eq_add, Nat.one_ne_zero, Option.map_some, exists_const, Option.some.injEq, Prod.mk.injEq, exists_eq_left', exists_eq', exists_and_left, exists_and_right, true_and, and_true, true_or, or_true, and_self, and_assoc, Option.toList_some, Option.toList_none, List.cons_append, List.nil_append, ↓reduceIte, rz_x01, rz_x10, a0, a1, a2, a3, a4]
  · intro i e he
    by_cases hi : i < L.length
    · rw [List.getElem?_append_left hi] at he
      have hne : i ≠ L.length := by omega
      rw [pk_un hne, pk_un hne, pk_un hne, pk_un hne, pk_un hne]
      exact hf5 i e he
    · have hl := (List.getElem?_eq_some_iff.mp he).1
      rw [List.length_append, List.length_singleton] at hl
      have hi2 : i = L.length := by omega
      subst hi2
      rw [List.getElem?_append_right (Nat.le_refl _), Nat.sub_self] at he
      cases he
      exact ⟨pk_us, pk_us, pk_us, pk_us, pk_us⟩
  · repeat' first | exact rz_sm.rf | refine rz_sm.tr ?_ (rz_sm_pf (by omega) (by omega)) | refine rz_sm.tr ?_ (rz_sm_pa (by omega) (by omega))
theorem rz_smT {lo hi : Nat} {hp h1 h2 : rz_Hp} (b : rz_sm lo hi h1 h2) (a : rz_sm lo hi hp h1) : rz_sm lo hi hp h2 := a.tr b
theorem rz_er {f : Nat → Int32} {n j i : Nat} (hj : j < n) (hi : i < n - 1) : va_cpy f f (j + 1) j (n - j - 1) i = if i < j then f i else f (i + 1) := by
  unfold va_cpy
  by_cases h : i < j
  · rw [if_neg (by omega), if_pos h]
  · rw [if_pos (by omega), if_neg h]
    congr 1
    omega
theorem rz_PH_er {L : List rz_En} {f0 f1 f2 f3 f4 : Nat → Int32} {j : Nat} (h : rz_PH L f0 f1 f2 f3 f4) (hj : j < L.length) : rz_PH (L.eraseIdx j) (va_cpy f0 f0 (j + 1) j (L.length - j - 1)) (va_cpy f1 f1 (j + 1) j (L.length - j - 1)) (va_cpy f2 f2 (j + 1) j (L.length - j - 1)) (va_cpy f3 f3 (j + 1) j (L.length - j - 1)) (va_cpy f4 f4 (j + 1) j (L.length - j - 1)) := by
  intro i e he
  have hl := (List.getElem?_eq_some_iff.mp he).1
  rw [List.length_eraseIdx_of_lt hj] at hl
  rw [List.getElem?_eraseIdx] at he
  rw [rz_er hj hl, rz_er hj hl, rz_er hj hl, rz_er hj hl, rz_er hj hl]
  split at he
  · next q => rw [if_pos q, if_pos q, if_pos q, if_pos q, if_pos q]; exact h i e he
  · next q => rw [if_neg q, if_neg q, if_neg q, if_neg q, if_neg q]; exact h (i + 1) e he
set_option maxHeartbeats 4000000 in
set_option maxRecDepth 100000 in
theorem c_P_removeAt {d b j : Nat} {L : List rz_En} {fl am : Int32} {hp : rz_Hp} (h : rz_PL b L fl am hp) (hj : j < L.length) {R : Option Value → rz_Hp → Prop} (kk : ∀ hp', rz_PL b (L.eraseIdx j) fl am hp' → rz_sm b (b + 6) hp hp' → R none hp') : rz_ev (d + 1) 42 0 [some (.ref b), some (.int (nI j)), none] [] hp R := by
  have hL := h.1
  have hq := fun R => c_P_has (d := d) h (j := j) (by omega) (R := R)
  rw [if_pos hj] at hq
  obtain ⟨-, ⟨p0, p1, p2, p3, p4, p5, p6, p7⟩, f0, f1, f2, f3, f4, ⟨a0, a1, a2, a3, a4⟩, hf5⟩ := id h
  have e1 : nI j + 1 = nI (j + 1) := nI_1 j
  have e2 : nI L.length - nI j - 1 = nI (L.length - j - 1) := by
    rw [pk_sub (by omega), show (1 : Int32) = nI 1 from rfl, pk_sub (by omega)]
  have k1 : (nI j).toNatClampNeg = j := nI_clamp (by omega)
  have k2 : (nI (j + 1)).toNatClampNeg = j + 1 := nI_clamp (by omega)
  have k3 : (nI (L.length - j - 1)).toNatClampNeg = L.length - j - 1 := nI_clamp (by omega)
  have n1 : ¬ nI j < 0 := nI_pos (by omega)
  have n2 : ¬ nI (j + 1) < 0 := nI_pos (by omega)
  have n3 : ¬ nI (L.length - j - 1) < 0 := nI_pos (by omega)
  have s1 : j + 1 + (L.length - j - 1) ≤ 40 := by omega
  have s2 : j + (L.length - j - 1) ≤ 40 := by omega
  have e3 : nI L.length - 1 = nI (L.eraseIdx j).length := by
    rw [List.length_eraseIdx_of_lt hj, show (1 : Int32) = nI 1 from rfl, pk_sub (by omega)]
  simp only [↓ri_42_0, ↓ri_42_1, ↓ri_42_2, ↓ri_42_5, ↓ri_42_8, ↓ri_42_9, ↓ri_42_10, ↓ri_42_13, ↓ri_42_14, ↓ri_42_15, ↓ri_42_16, ↓ri_42_17, ↓ri_42_18, ↓ri_42_19, ↓ri_42_22, ↓ri_42_23, ↓ri_42_24, ↓ri_42_25, ↓ri_42_26, ↓ri_42_29, ↓ri_42_30, ↓ri_42_31, ↓ri_42_34, ↓ri_42_35, ↓ri_42_38, ↓ri_42_39, ↓ri_42_40, ↓ri_42_41, ↓ri_42_42, ↓ri_42_45, ↓ri_42_46, ↓ri_42_47, ↓ri_42_50, ↓ri_42_51, ↓ri_42_54, ↓ri_42_55, ↓ri_42_56, ↓ri_42_57, ↓ri_42_58, ↓ri_42_61, ↓ri_42_62, ↓ri_42_63, ↓ri_42_66, ↓ri_42_67, ↓ri_42_70, ↓ri_42_71, ↓ri_42_72, ↓ri_42_73, ↓ri_42_74, ↓ri_42_77, ↓ri_42_78, ↓ri_42_79, ↓ri_42_82, ↓ri_42_83, ↓ri_42_86, ↓ri_42_87, ↓ri_42_88, ↓ri_42_89, ↓ri_42_90, ↓ri_42_93, ↓ri_42_94, ↓ri_42_95, ↓ri_42_98, ↓ri_42_99, ↓ri_42_100, ↓ri_42_103, ↓ri_42_104, ↓ri_42_105, ↓ri_42_108, Option.some.injEq, Prod.mk.injEq, exists_eq_left', exists_eq', exists_and_left, exists_and_right, true_and, and_true, true_or, or_true, and_self, and_assoc, Option.toList_some, Option.toList_none, List.cons_append, List.nil_append, ↓reduceIte, rz_x01, rz_x10, rz_co_fv p5, hq, p0, p1, p2, p3, p4, p5, a0, a1, a2, a3, a4, rz_fv_pf, rz_av_pf, rz_qv_pf, rz_ln_pf, rz_co_pf, rz_fv_pa, rz_av_pa, rz_qv_pa, rz_ln_pa, rz_co_pa, rz_fv_pq, rz_av_pq, rz_qv_pq, rz_ln_pq, rz_co_pq, Nat.reduceEqDiff, Nat.add_eq_left, Nat.left_eq_add, Nat.one_ne_zero, Option.map_some, exists_const, e1, e2, e3, k1, k2, k3, n1, n2, n3, s1, s2, not_false_eq_true, exists_const]
  refine kk _ (rz_PL_of (by rw [List.length_eraseIdx_of_lt hj]; omega) ?_ ?_ (rz_PH_er hf5 hj)) ?_
  · simp only [rz_PF, rz_fv_pf, rz_av_pf, rz_qv_pf, rz_ln_pf, rz_co_pf, rz_fv_pa, rz_av_pa, rz_qv_pa, rz_ln_pa, rz_co_pa, rz_fv_pq, rz_av_pq, rz_qv_pq, rz_ln_pq, rz_co_pq, Nat.reduceEqDiff, Nat.add_eq_left, Nat.left_eq_add, Nat.one_ne_zero, Option.map_some, exists_const, Option.some.injEq, Prod.mk.injEq, exists_eq_left', exists_eq', exists_and_left, exists_and_right, true_and, and_true, true_or, or_true, and_self, and_assoc, Option.toList_some, Option.toList_none, List.cons_append, List.nil_append, ↓reduceIte, rz_x01, rz_x10, p0, p1, p2, p3, p4, p5, p6, p7]
  · simp only [rz_PA, rz_fv_pf, rz_av_pf, rz_qv_pf, rz_ln_pf, rz_co_pf, rz_fv_pa, rz_av_pa, rz_qv_pa, rz_ln_pa, rz_co_pa, rz_fv_pq, rz_av_pq, rz_qv_pq, rz_ln_pq, rz_co_pq, Nat.reduceEqDiff, Nat.add_eq_left, Nat.left_eq_add, Nat.one_ne_zero, Option.map_some, exists_const, Option.some.injEq, Prod.mk.injEq, exists_eq_left', exists_eq', exists_and_left, exists_and_right, true_and, and_true, true_or, or_true, and_self, and_assoc, Option.toList_some, Option.toList_none, List.cons_append, List.nil_append, ↓reduceIte, rz_x01, rz_x10, a0, a1, a2, a3, a4]
  · repeat' first | exact rz_sm.rf | refine rz_sm.tr ?_ (rz_sm_pf (by omega) (by omega)) | refine rz_sm.tr ?_ (rz_sm_pa (by omega) (by omega))
/-- what an entry of an emptied pile becomes -/
def rz_mo (p fl : Int32) (x : rz_En) : rz_En := if x.2.2.2.2 = p then (x.1, x.2.1, x.2.2.1, x.2.2.2.1 + 1, rz_pl fl x.2.1) else x
/-- keys in range -/
def rz_kr (L : List rz_En) : Prop := ∀ x ∈ L, ∃ a, a < 65536 ∧ x.2.1 = nI a
theorem rz_PH_set {L : List rz_En} {f0 f1 f2 f3 f4 : Nat → Int32} {i : Nat} {x : rz_En} {m p : Int32} (h : rz_PH L f0 f1 f2 f3 f4) (hx : L[i]? = some x) : rz_PH (L.set i (x.1, x.2.1, x.2.2.1, m, p)) f0 f1 f2 (upd f3 i m) (upd f4 i p) := by
  intro k e he
  by_cases hk : k = i
  · subst hk
    rw [List.getElem?_set_self (List.getElem?_eq_some_iff.mp hx).1] at he
    cases he
    obtain ⟨g0, g1, g2, -, -⟩ := h k x hx
    exact ⟨g0, g1, g2, pk_us, pk_us⟩
  · rw [List.getElem?_set_ne (fun q => hk q.symm)] at he
    rw [pk_un hk, pk_un hk]
    exact h k e he
theorem rz_part {L : List rz_En} {g : rz_En → rz_En} {i : Nat} {x : rz_En} (hx : L[i]? = some x) : ((L.take i).map g ++ L.drop i)[i]? = some x ∧ ((L.take i).map g ++ L.drop i).set i (g x) = (L.take (i + 1)).map g ++ L.drop (i + 1) ∧ ((L.take i).map g ++ L.drop i).length = L.length := by
  have hi := (List.getElem?_eq_some_iff.mp hx).1
  have hl : ((L.take i).map g).length = i := by rw [List.length_map, List.length_take]; omega
  have hd : L.drop i = x :: L.drop (i + 1) := by rw [List.drop_eq_getElem_cons hi, (List.getElem?_eq_some_iff.mp hx).2]
  refine ⟨?_, ?_, ?_⟩
  · rw [List.getElem?_append_right (by omega), hl, Nat.sub_self, hd]; rfl
  · rw [List.set_append_right _ _ (by omega), hl, Nat.sub_self, hd, rz_tk hx, List.map_append, List.append_assoc]
    rfl
  · rw [List.length_append, hl, List.length_drop]; omega
set_option maxHeartbeats 4000000 in
set_option maxRecDepth 100000 in
theorem c_P_reach_loop {d b j c : Nat} {L : List rz_En} {p fl am : Int32} {hp : rz_Hp} (hL : L.length ≤ 40) (hkr : rz_kr L) (hf : fl = nI c) (hc : c < 65536) {R : Option Value → rz_Hp → Prop} (kk : ∀ hp', rz_PL b (L.map (rz_mo p fl)) fl (am + nI (rz_cnt L p)) hp' → rz_sm b (b + 6) hp hp' → R none hp') : ∀ i, i ≤ L.length → ∀ hp1, rz_PL b ((L.take i).map (rz_mo p fl) ++ L.drop i) fl (am + nI (rz_cnt (L.take i) p)) hp1 → rz_sm b (b + 6) hp hp1 → rz_ev (d + 1) 49 31 [some (.ref b), some (.int (nI j)), some (.int p), some (.int (nI i))] [] hp1 R := by
  refine rz_down L.length ?_ ?_
  · intro hp1 h hs
    have c1 := rz_top hL
    rw [List.take_length, List.drop_length, List.append_nil] at h
    obtain ⟨-, ⟨p0, p1, p2, p3, p4, p5, p6, p7⟩, -⟩ := id h
    rw [List.length_map] at p5
    rw [ri_49_31]
    simp only [↓ri_49_32, ↓ri_49_33, ↓ri_49_36, ↓ri_49_39, ↓ri_49_40, ↓ri_49_42, ↓ri_49_45, ↓ri_49_46, ↓ri_49_49, ↓ri_49_50, ↓ri_49_51, ↓ri_49_52, ↓ri_49_55, ↓ri_49_56, ↓ri_49_59, ↓ri_49_60, ↓ri_49_61, ↓ri_49_62, ↓ri_49_65, ↓ri_49_66, ↓ri_49_67, ↓ri_49_70, ↓ri_49_71, ↓ri_49_72, ↓ri_49_75, ↓ri_49_76, ↓ri_49_77, ↓ri_49_78, ↓ri_49_79, ↓ri_49_80, ↓ri_49_81, ↓ri_49_82, ↓ri_49_83, ↓ri_49_86, ↓ri_49_87, ↓ri_49_88, ↓ri_49_91, ↓ri_49_94, ↓ri_49_97, p5, Option.some.injEq, Prod.mk.injEq, exists_eq_left', exists_eq', exists_and_left, exists_and_right, true_and, and_true, true_or, or_true, and_self, and_assoc, Option.toList_some, Option.toList_none, List.cons_append, List.nil_append, ↓reduceIte, rz_x01, rz_x10, ↓if_pos c1]
    exact kk _ h hs
  · intro i hi ih hp1 h hs
    obtain ⟨x, hx⟩ := rz_ge hi
    obtain ⟨g1, g2, g3⟩ := rz_part (g := rz_mo p fl) hx
    have c1 : ¬ nI L.length ≤ nI i := nI_ge hi (by omega)
    have c2 : ¬ (40 : Int32) ≤ nI i := nI_ge (b := 40) (by omega) (by decide)
    have hv : vp_in (nI i) 40 := vp_in_nI (by omega) (by decide)
    have k1 : (nI i).toNatClampNeg = i := nI_clamp (by omega)
    obtain ⟨hL1, ⟨p0, p1, p2, p3, p4, p5, p6, p7⟩, f0, f1, f2, f3, f4, ⟨a0, a1, a2, a3, a4⟩, hH⟩ := id h
    rw [g3] at p5
    obtain ⟨q0, q1, q2, q3, q4⟩ := hH i x g1
    obtain ⟨a, ha, hka⟩ := hkr x (List.mem_of_getElem? hx)
    rw [ri_49_31]
    by_cases hxp : x.2.2.2.2 = p
    · have e1 : rz_cnt (L.take (i + 1)) p = rz_cnt (L.take i) p + 1 := by rw [rz_cnt_tk hx, if_pos hxp]
      have e2 : am + nI (rz_cnt (L.take i) p) + 1 = am + nI (rz_cnt (L.take (i + 1)) p) := by rw [e1, Int32.add_assoc, nI_1]
      have e3 : rz_mo p fl x = (x.1, x.2.1, x.2.2.1, x.2.2.2.1 + 1, rz_pl fl x.2.1) := by unfold rz_mo; rw [if_pos hxp]
      simp only [↓ri_49_32, ↓ri_49_33, ↓ri_49_36, ↓ri_49_39, ↓ri_49_40, ↓ri_49_42, ↓ri_49_45, ↓ri_49_46, ↓ri_49_49, ↓ri_49_50, ↓ri_49_51, ↓ri_49_52, ↓ri_49_55, ↓ri_49_56, ↓ri_49_59, ↓ri_49_60, ↓ri_49_61, ↓ri_49_62, ↓ri_49_65, ↓ri_49_66, ↓ri_49_67, ↓ri_49_70, ↓ri_49_71, ↓ri_49_72, ↓ri_49_75, ↓ri_49_76, ↓ri_49_77, ↓ri_49_78, ↓ri_49_79, ↓ri_49_80, ↓ri_49_81, ↓ri_49_82, ↓ri_49_83, ↓ri_49_86, ↓ri_49_87, ↓ri_49_88, ↓ri_49_91, ↓ri_49_94, p5, Option.some.injEq, Prod.mk.injEq, exists_eq_left', exists_eq', exists_and_left, exists_and_right, true_and, and_true, true_or, or_true, and_self, and_assoc, Option.toList_some, Option.toList_none, List.cons_append, List.nil_append, ↓reduceIte, rz_x01, rz_x10, ↓if_neg c1, ↓if_neg c2, p4, a4, hv, k1, q4, ↓if_pos hxp, p1, a1, q1, rz_co_fv p5]
      rw [c_P_pileFor (fl := fl) p6 hka hf ha hc]
      simp only [↓ri_49_32, ↓ri_49_33, ↓ri_49_36, ↓ri_49_39, ↓ri_49_40, ↓ri_49_42, ↓ri_49_45, ↓ri_49_46, ↓ri_49_49, ↓ri_49_50, ↓ri_49_51, ↓ri_49_52, ↓ri_49_55, ↓ri_49_56, ↓ri_49_59, ↓ri_49_60, ↓ri_49_61, ↓ri_49_62, ↓ri_49_65, ↓ri_49_66, ↓ri_49_67, ↓ri_49_70, ↓ri_49_71, ↓ri_49_72, ↓ri_49_75, ↓ri_49_76, ↓ri_49_77, ↓ri_49_78, ↓ri_49_79, ↓ri_49_80, ↓ri_49_81, ↓ri_49_82, ↓ri_49_83, ↓ri_49_86, ↓ri_49_87, ↓ri_49_88, ↓ri_49_91, ↓ri_49_94, rz_fv_pf, rz_av_pf, rz_qv_pf, rz_ln_pf, rz_co_pf, rz_fv_pa, rz_av_pa, rz_qv_pa, rz_ln_pa, rz_co_pa, rz_fv_pq, rz_av_pq, rz_qv_pq, rz_ln_pq, rz_co_pq, Nat.reduceEqDiff, Nat.add_eq_left, Nat.left_eq_add, Nat.one_ne_zero, Option.map_some, exists_const, Option.some.injEq, Prod.mk.injEq, exists_eq_left', exists_eq', exists_and_left, exists_and_right, true_and, and_true, true_or, or_true, and_self, and_assoc, Option.toList_some, Option.toList_none, List.cons_append, List.nil_append, ↓reduceIte, rz_x01, rz_x10, p3, a3, a4, hv, k1, q3, p7, nI_1, e2]
      refine ih _ ?_ ?_
      · rw [← g2, e3]
        refine rz_PL_of (f0 := f0) (f1 := f1) (f2 := f2) (f3 := upd f3 i (x.2.2.2.1 + 1)) (f4 := upd f4 i (rz_pl fl x.2.1)) (by rw [List.length_set]; exact hL1) ?_ ?_ (rz_PH_set hH g1)
        · simp only [rz_PF, rz_fv_pf, rz_av_pf, rz_qv_pf, rz_ln_pf, rz_co_pf, rz_fv_pa, rz_av_pa, rz_qv_pa, rz_ln_pa, rz_co_pa, rz_fv_pq, rz_av_pq, rz_qv_pq, rz_ln_pq, rz_co_pq, Nat.reduceEqDiff, Nat.add_eq_left, Nat.left_eq_add, Nat.one_ne_zero, Option.map_some, exists_const, Option.some.injEq, Prod.mk.injEq, exists_eq_left', exists_eq', exists_and_left, exists_and_right, true_and, and_true, true_or, or_true, and_self, and_assoc, Option.toList_some, Option.toList_none, List.cons_append, List.nil_append, ↓reduceIte, rz_x01, rz_x10, p0, p1, p2, p3, p4, p5, p6, p7, List.length_set, g3]
        · simp only [rz_PA, rz_fv_pf, rz_av_pf, rz_qv_pf, rz_ln_pf, rz_co_pf, rz_fv_pa, rz_av_pa, rz_qv_pa, rz_ln_pa, rz_co_pa, rz_fv_pq, rz_av_pq, rz_qv_pq, rz_ln_pq, rz_co_pq, Nat.reduceEqDiff, Nat.add_eq_left, Nat.left_eq_add, Nat.one_ne_zero, Option.map_some, exists_const, Option.some.injEq, Prod.mk.injEq, exists_eq_left', exists_eq', exists_and_left, exists_and_right, true_and, and_true, true_or, or_true, and_self, and_assoc, Option.toList_some, Option.toList_none, List.cons_append, List.nil_append, ↓reduceIte, rz_x01, rz_x10, a0, a1, a2, a3, a4]
      · refine rz_smT ?_ hs
        repeat' first | exact rz_sm.rf | refine rz_sm.tr ?_ (rz_sm_pf (by omega) (by omega)) | refine rz_sm.tr ?_ (rz_sm_pa (by omega) (by omega))
    · have e1 : rz_cnt (L.take (i + 1)) p = rz_cnt (L.take i) p := by rw [rz_cnt_tk hx, if_neg hxp]; rfl
      have e3 : rz_mo p fl x = x := by unfold rz_mo; rw [if_neg hxp]
      have e4 : ((L.take i).map (rz_mo p fl) ++ L.drop i).set i x = (L.take i).map (rz_mo p fl) ++ L.drop i := by
        apply List.ext_getElem?
        intro m
        by_cases hm : m = i
        · subst hm; rw [List.getElem?_set_self (List.getElem?_eq_some_iff.mp g1).1, g1]
        · rw [List.getElem?_set_ne (fun q => hm q.symm)]
      simp only [↓ri_49_32, ↓ri_49_33, ↓ri_49_36, ↓ri_49_39, ↓ri_49_40, ↓ri_49_42, ↓ri_49_45, ↓ri_49_46, ↓ri_49_49, ↓ri_49_50, ↓ri_49_51, ↓ri_49_52, ↓ri_49_55, ↓ri_49_56, ↓ri_49_59, ↓ri_49_60, ↓ri_49_61, ↓ri_49_62, ↓ri_49_65, ↓ri_49_66, ↓ri_49_67, ↓ri_49_70, ↓ri_49_71, ↓ri_49_72, ↓ri_49_75, ↓ri_49_76, ↓ri_49_77, ↓ri_49_78, ↓ri_49_79, ↓ri_49_80, ↓ri_49_81, ↓ri_49_82, ↓ri_49_83, ↓ri_49_86, ↓ri_49_87, ↓ri_49_88, ↓ri_49_91, ↓ri_49_94, p5, Option.some.injEq, Prod.mk.injEq, exists_eq_left', exists_eq', exists_and_left, exists_and_right, true_and, and_true, true_or, or_true, and_self, and_assoc, Option.toList_some, Option.toList_none, List.cons_append, List.nil_append, ↓reduceIte, rz_x01, rz_x10, ↓if_neg c1, ↓if_neg c2, p4, a4, hv, k1, q4, ↓if_neg hxp, nI_1]
      refine ih _ ?_ hs
      rw [e3, e4] at g2
      rw [← g2, e1]
      exact h
/-- what a pile's emptying makes of the entries, when the entry at j is to come out -/
def rz_re (L : List rz_En) (e : rz_En) : List rz_En := if e.2.2.2.2 = 0 then L else L.map (rz_mo e.2.2.2.2 e.2.1)
def rz_reF (fl : Int32) (e : rz_En) : Int32 := if e.2.2.2.2 = 0 then fl else e.2.1
def rz_reM (am : Int32) (L : List rz_En) (e : rz_En) : Int32 := if e.2.2.2.2 = 0 then am else am + nI (rz_cnt L e.2.2.2.2)
set_option maxHeartbeats 4000000 in
set_option maxRecDepth 100000 in
theorem c_P_reach {d b j : Nat} {L : List rz_En} {fl am : Int32} {hp : rz_Hp} {e : rz_En} (h : rz_PL b L fl am hp) (he : L[j]? = some e) (hkr : rz_kr L) {R : Option Value → rz_Hp → Prop} (kk : ∀ hp', rz_PL b (rz_re L e) (rz_reF fl e) (rz_reM am L e) hp' → rz_sm b (b + 6) hp hp' → R none hp') : rz_ev (d + 2) 49 0 [some (.ref b), some (.int (nI j)), none, none] [] hp R := by
  have hj := (List.getElem?_eq_some_iff.mp he).1
  have hL := h.1
  have hq := fun R => c_P_has (d := d + 1) h (j := j) (by omega) (R := R)
  rw [if_pos hj] at hq
  have hq2 := fun R => c_P_pileAt (d := d) h he (R := R)
  obtain ⟨-, ⟨p0, p1, p2, p3, p4, p5, p6, p7⟩, f0, f1, f2, f3, f4, ⟨a0, a1, a2, a3, a4⟩, hH⟩ := id h
  obtain ⟨q0, q1, q2, q3, q4⟩ := hH j e he
  have hv : vp_in (nI j) 40 := vp_in_nI (by omega) (by decide)
  have k1 : (nI j).toNatClampNeg = j := nI_clamp (by omega)
  unfold rz_re rz_reF rz_reM at kk
  by_cases h0 : e.2.2.2.2 = 0
  · simp only [if_pos h0] at kk
    simp only [↓ri_49_0, ↓ri_49_1, ↓ri_49_2, ↓ri_49_5, ↓ri_49_6, ↓ri_49_7, ↓ri_49_8, ↓ri_49_11, ↓ri_49_14, ↓ri_49_15, ↓ri_49_18, ↓ri_49_19, ↓ri_49_20, ↓ri_49_21, ↓ri_49_24, ↓ri_49_25, ↓ri_49_26, Option.some.injEq, Prod.mk.injEq, exists_eq_left', exists_eq', exists_and_left, exists_and_right, true_and, and_true, true_or, or_true, and_self, and_assoc, Option.toList_some, Option.toList_none, List.cons_append, List.nil_append, ↓reduceIte, rz_x01, rz_x10, rz_co_fv p5, hq, hq2, ↓if_pos h0]
    exact kk _ h rz_sm.rf
  · simp only [if_neg h0] at kk
    simp only [↓ri_49_0, ↓ri_49_1, ↓ri_49_2, ↓ri_49_5, ↓ri_49_6, ↓ri_49_7, ↓ri_49_8, ↓ri_49_11, ↓ri_49_14, ↓ri_49_15, ↓ri_49_18, ↓ri_49_19, ↓ri_49_20, ↓ri_49_21, ↓ri_49_24, ↓ri_49_25, ↓ri_49_26, ↓ri_49_29, ↓ri_49_30, Option.some.injEq, Prod.mk.injEq, exists_eq_left', exists_eq', exists_and_left, exists_and_right, true_and, and_true, true_or, or_true, and_self, and_assoc, Option.toList_some, Option.toList_none, List.cons_append, List.nil_append, ↓reduceIte, rz_x01, rz_x10, rz_co_fv p5, hq, hq2, ↓if_neg h0, p1, a1, hv, k1, q1, p6]
    obtain ⟨a, ha, hka⟩ := hkr e (List.mem_of_getElem? he)
    have hl := c_P_reach_loop (d := d + 1) (j := j) (b := b) (p := e.2.2.2.2) (am := am) (hp := hp) hL hkr hka ha kk 0 (Nat.zero_le _) (rz_pf hp b 6 (.int e.2.1)) ?_ (rz_sm_pf (by omega) (by omega))
    · rw [nI_0] at hl; exact hl
    · rw [show rz_cnt (L.take 0) e.2.2.2.2 = 0 from rfl, nI_0, Int32.add_zero]
      refine rz_PL_of (f0 := f0) (f1 := f1) (f2 := f2) (f3 := f3) (f4 := f4) hL ?_ ?_ hH
      · simp only [rz_PF, rz_fv_pf, rz_av_pf, rz_qv_pf, rz_ln_pf, rz_co_pf, rz_fv_pa, rz_av_pa, rz_qv_pa, rz_ln_pa, rz_co_pa, rz_fv_pq, rz_av_pq, rz_qv_pq, rz_ln_pq, rz_co_pq, Nat.reduceEqDiff, Nat.add_eq_left, Nat.left_eq_add, Nat.one_ne_zero, Option.map_some, exists_const, Option.some.injEq, Prod.mk.injEq, exists_eq_left', exists_eq', exists_and_left, exists_and_right, true_and, and_true, true_or, or_true, and_self, and_assoc, Option.toList_some, Option.toList_none, List.cons_append, List.nil_append, ↓reduceIte, rz_x01, rz_x10, p0, p1, p2, p3, p4, p5, p6, p7, List.take_zero, List.map_nil, List.drop_zero]
      · simp only [rz_PA, rz_fv_pf, rz_av_pf, rz_qv_pf, rz_ln_pf, rz_co_pf, rz_fv_pa, rz_av_pa, rz_qv_pa, rz_ln_pa, rz_co_pa, rz_fv_pq, rz_av_pq, rz_qv_pq, rz_ln_pq, rz_co_pq, Nat.reduceEqDiff, Nat.add_eq_left, Nat.left_eq_add, Nat.one_ne_zero, Option.map_some, exists_const, Option.some.injEq, Prod.mk.injEq, exists_eq_left', exists_eq', exists_and_left, exists_and_right, true_and, and_true, true_or, or_true, and_self, and_assoc, Option.toList_some, Option.toList_none, List.cons_append, List.nil_append, ↓reduceIte, rz_x01, rz_x10, a0, a1, a2, a3, a4]
/-- what less makes of the entries -/
def rz_le (L : List rz_En) (j : Nat) (e : rz_En) (key p : Int32) : List rz_En := if p = e.2.2.2.2 then L.set j (e.1, key, e.2.2.1, e.2.2.2.1, e.2.2.2.2) else L.eraseIdx j ++ [(e.1, key, e.2.2.1, e.2.2.2.1 + 1, p)]
set_option maxHeartbeats 4000000 in
set_option maxRecDepth 100000 in
theorem c_P_lessenAt {d b j a c : Nat} {L : List rz_En} {fl am key : Int32} {hp : rz_Hp} {e : rz_En} (h : rz_PL b L fl am hp) (he : L[j]? = some e) (hk : key = nI a) (hf : fl = nI c) (ha : a < 65536) (hc : c < 65536) {R : Option Value → rz_Hp → Prop} (kk : ∀ hp', rz_PL b (rz_le L j e key (rz_pl fl key)) fl (if rz_pl fl key = e.2.2.2.2 then am else am + 1) hp' → rz_sm b (b + 6) hp hp' → R (some (.int (rz_pl fl key))) hp') : rz_ev (d + 2) 44 0 [some (.ref b), some (.int (nI j)), some (.int key), none, none, none, none] [] hp R := by
  have hj := (List.getElem?_eq_some_iff.mp he).1
  have hL := h.1
  have hq := fun R => c_P_has (d := d + 1) h (j := j) (by omega) (R := R)
  rw [if_pos hj] at hq
  obtain ⟨-, ⟨p0, p1, p2, p3, p4, p5, p6, p7⟩, f0, f1, f2, f3, f4, ⟨a0, a1, a2, a3, a4⟩, hH⟩ := id h
  obtain ⟨q0, q1, q2, q3, q4⟩ := hH j e he
  have hq3 := fun R => c_P_pileFor (d := d + 1) (key := key) p6 hk hf ha hc (R := R)
  have hv : vp_in (nI j) 40 := vp_in_nI (by omega) (by decide)
  have k1 : (nI j).toNatClampNeg = j := nI_clamp (by omega)
  unfold rz_le at kk
  by_cases h0 : rz_pl fl key = e.2.2.2.2
  · simp only [if_pos h0] at kk
    simp only [↓ri_44_0, ↓ri_44_1, ↓ri_44_2, ↓ri_44_5, ↓ri_44_8, ↓ri_44_10, ↓ri_44_11, ↓ri_44_12, ↓ri_44_13, ↓ri_44_16, ↓ri_44_17, ↓ri_44_18, ↓ri_44_19, ↓ri_44_22, ↓ri_44_23, ↓ri_44_24, ↓ri_44_27, ↓ri_44_28, ↓ri_44_31, ↓ri_44_32, ↓ri_44_33, ↓ri_44_34, ↓ri_44_35, ↓ri_44_36, ↓ri_44_37, ↓ri_44_40, ↓ri_44_41, ↓ri_44_42, ↓ri_44_44, ↓ri_44_45, ↓ri_44_48, ↓ri_44_49, ↓ri_44_50, ↓ri_44_52, ↓ri_44_53, ↓ri_44_56, ↓ri_44_57, ↓ri_44_58, ↓ri_44_59, ↓ri_44_60, ↓ri_44_62, ↓ri_44_63, ↓ri_44_64, ↓ri_44_67, ↓ri_44_68, ↓ri_44_70, ↓ri_44_71, ↓ri_44_73, ↓ri_44_75, ↓ri_44_78, ↓ri_44_79, ↓ri_44_80, ↓ri_44_83, ↓ri_44_84, ↓ri_44_85, ↓ri_44_88, ↓ri_44_89, Option.some.injEq, Prod.mk.injEq, exists_eq_left', exists_eq', exists_and_left, exists_and_right, true_and, and_true, true_or, or_true, and_self, and_assoc, Option.toList_some, Option.toList_none, List.cons_append, List.nil_append, ↓reduceIte, rz_x01, rz_x10, rz_co_fv p5, hq, hq3, p4, a4, hv, k1, q4, ↓if_pos h0, p1, a1]
    refine kk _ (rz_PL_of (f0 := f0) (f1 := upd f1 j key) (f2 := f2) (f3 := f3) (f4 := f4) (by rw [List.length_set]; exact hL) ?_ ?_ ?_) (rz_sm_pa (by omega) (by omega))
    · simp only [rz_PF, rz_fv_pf, rz_av_pf, rz_qv_pf, rz_ln_pf, rz_co_pf, rz_fv_pa, rz_av_pa, rz_qv_pa, rz_ln_pa, rz_co_pa, rz_fv_pq, rz_av_pq, rz_qv_pq, rz_ln_pq, rz_co_pq, Nat.reduceEqDiff, Nat.add_eq_left, Nat.left_eq_add, Nat.one_ne_zero, Option.map_some, exists_const, Option.some.injEq, Prod.mk.injEq, exists_eq_left', exists_eq', exists_and_left, exists_and_right, true_and, and_true, true_or, or_true, and_self, and_assoc, Option.toList_some, Option.toList_none, List.cons_append, List.nil_append, ↓reduceIte, rz_x01, rz_x10, p0, p1, p2, p3, p4, p5, p6, p7, List.length_set]
    · simp only [rz_PA, rz_fv_pf, rz_av_pf, rz_qv_pf, rz_ln_pf, rz_co_pf, rz_fv_pa, rz_av_pa, rz_qv_pa, rz_ln_pa, rz_co_pa, rz_fv_pq, rz_av_pq, rz_qv_pq, rz_ln_pq, rz_co_pq, Nat.reduceEqDiff, Nat.add_eq_left, Nat.left_eq_add, Nat.one_ne_zero, Option.map_some, exists_const, Option.some.injEq, Prod.mk.injEq, exists_eq_left', exists_eq', exists_and_left, exists_and_right, true_and, and_true, true_or, or_true, and_self, and_assoc, Option.toList_some, Option.toList_none, List.cons_append, List.nil_append, ↓reduceIte, rz_x01, rz_x10, a0, a1, a2, a3, a4]
    · intro m x hx
      by_cases hm : m = j
      · subst hm
        rw [List.getElem?_set_self hj] at hx
        cases hx
        exact ⟨q0, pk_us, q2, q3, q4⟩
      · rw [List.getElem?_set_ne (fun q => hm q.symm)] at hx
        rw [pk_un hm]
        exact hH m x hx
  · simp only [if_neg h0] at kk
    simp only [↓ri_44_0, ↓ri_44_1, ↓ri_44_2, ↓ri_44_5, ↓ri_44_8, ↓ri_44_10, ↓ri_44_11, ↓ri_44_12, ↓ri_44_13, ↓ri_44_16, ↓ri_44_17, ↓ri_44_18, ↓ri_44_19, ↓ri_44_22, ↓ri_44_23, ↓ri_44_24, ↓ri_44_27, ↓ri_44_28, ↓ri_44_31, ↓ri_44_32, ↓ri_44_33, ↓ri_44_34, ↓ri_44_35, ↓ri_44_36, ↓ri_44_37, ↓ri_44_40, ↓ri_44_41, ↓ri_44_42, ↓ri_44_44, ↓ri_44_45, ↓ri_44_48, ↓ri_44_49, ↓ri_44_50, ↓ri_44_52, ↓ri_44_53, ↓ri_44_56, ↓ri_44_57, ↓ri_44_58, ↓ri_44_59, ↓ri_44_60, ↓ri_44_62, ↓ri_44_63, ↓ri_44_64, ↓ri_44_67, ↓ri_44_68, ↓ri_44_70, ↓ri_44_71, ↓ri_44_73, ↓ri_44_75, ↓ri_44_78, ↓ri_44_79, ↓ri_44_80, ↓ri_44_83, ↓ri_44_84, ↓ri_44_85, ↓ri_44_88, ↓ri_44_89, Option.some.injEq, Prod.mk.injEq, exists_eq_left', exists_eq', exists_and_left, exists_and_right, true_and, and_true, true_or, or_true, and_self, and_assoc, Option.toList_some, Option.toList_none, List.cons_append, List.nil_append, ↓reduceIte, rz_x01, rz_x10, rz_co_fv p5, hq, hq3, p4, a4, hv, k1, q4, ↓if_neg h0, p0, a0, q0, p2, a2, q2, p3, a3, q3]
    refine c_P_removeAt (d := d) h hj (fun h1 hP1 hs1 => ?_)
    have hco : rz_co h1 b = some 3 := rz_co_fv hP1.2.1.1
    simp only [↓ri_44_0, ↓ri_44_1, ↓ri_44_2, ↓ri_44_5, ↓ri_44_8, ↓ri_44_10, ↓ri_44_11, ↓ri_44_12, ↓ri_44_13, ↓ri_44_16, ↓ri_44_17, ↓ri_44_18, ↓ri_44_19, ↓ri_44_22, ↓ri_44_23, ↓ri_44_24, ↓ri_44_27, ↓ri_44_28, ↓ri_44_31, ↓ri_44_32, ↓ri_44_33, ↓ri_44_34, ↓ri_44_35, ↓ri_44_36, ↓ri_44_37, ↓ri_44_40, ↓ri_44_41, ↓ri_44_42, ↓ri_44_44, ↓ri_44_45, ↓ri_44_48, ↓ri_44_49, ↓ri_44_50, ↓ri_44_52, ↓ri_44_53, ↓ri_44_56, ↓ri_44_57, ↓ri_44_58, ↓ri_44_59, ↓ri_44_60, ↓ri_44_62, ↓ri_44_63, ↓ri_44_64, ↓ri_44_67, ↓ri_44_68, ↓ri_44_70, ↓ri_44_71, ↓ri_44_73, ↓ri_44_75, ↓ri_44_78, ↓ri_44_79, ↓ri_44_80, ↓ri_44_83, ↓ri_44_84, ↓ri_44_85, ↓ri_44_88, ↓ri_44_89, Option.some.injEq, Prod.mk.injEq, exists_eq_left', exists_eq', exists_and_left, exists_and_right, true_and, and_true, true_or, or_true, and_self, and_assoc, Option.toList_some, Option.toList_none, List.cons_append, List.nil_append, ↓reduceIte, rz_x01, rz_x10, hco]
    refine c_P_append (d := d) hP1 (by rw [List.length_eraseIdx_of_lt hj]; omega) hk hf ha hc (fun h2 hP2 hs2 => ?_)
    obtain ⟨g1, ⟨r0, r1, r2, r3, r4, r5, r6, r7⟩, g2, g3, g4, g5, g6, g7, g8⟩ := id hP2
    simp only [↓ri_44_0, ↓ri_44_1, ↓ri_44_2, ↓ri_44_5, ↓ri_44_8, ↓ri_44_10, ↓ri_44_11, ↓ri_44_12, ↓ri_44_13, ↓ri_44_16, ↓ri_44_17, ↓ri_44_18, ↓ri_44_19, ↓ri_44_22, ↓ri_44_23, ↓ri_44_24, ↓ri_44_27, ↓ri_44_28, ↓ri_44_31, ↓ri_44_32, ↓ri_44_33, ↓ri_44_34, ↓ri_44_35, ↓ri_44_36, ↓ri_44_37, ↓ri_44_40, ↓ri_44_41, ↓ri_44_42, ↓ri_44_44, ↓ri_44_45, ↓ri_44_48, ↓ri_44_49, ↓ri_44_50, ↓ri_44_52, ↓ri_44_53, ↓ri_44_56, ↓ri_44_57, ↓ri_44_58, ↓ri_44_59, ↓ri_44_60, ↓ri_44_62, ↓ri_44_63, ↓ri_44_64, ↓ri_44_67, ↓ri_44_68, ↓ri_44_70, ↓ri_44_71, ↓ri_44_73, ↓ri_44_75, ↓ri_44_78, ↓ri_44_79, ↓ri_44_80, ↓ri_44_83, ↓ri_44_84, ↓ri_44_85, ↓ri_44_88, ↓ri_44_89, Option.some.injEq, Prod.mk.injEq, exists_eq_left', exists_eq', exists_and_left, exists_and_right, true_and, and_true, true_or, or_true, and_self, and_assoc, Option.toList_some, Option.toList_none, List.cons_append, List.nil_append, ↓reduceIte, rz_x01, rz_x10, r7]
    refine kk _ ⟨g1, ?_, g2, g3, g4, g5, g6, ?_, g8⟩ ((hs1.tr hs2).tr (rz_sm_pf (by omega) (by omega)))
    · simp only [rz_PF, rz_fv_pf, rz_av_pf, rz_qv_pf, rz_ln_pf, rz_co_pf, rz_fv_pa, rz_av_pa, rz_qv_pa, rz_ln_pa, rz_co_pa, rz_fv_pq, rz_av_pq, rz_qv_pq, rz_ln_pq, rz_co_pq, Nat.reduceEqDiff, Nat.add_eq_left, Nat.left_eq_add, Nat.one_ne_zero, Option.map_some, exists_const, Option.some.injEq, Prod.mk.injEq, exists_eq_left', exists_eq', exists_and_left, exists_and_right, true_and, and_true, true_or, or_true, and_self, and_assoc, Option.toList_some, Option.toList_none, List.cons_append, List.nil_append, ↓reduceIte, rz_x01, rz_x10, r0, r1, r2, r3, r4, r5, r6, r7]
    · simp only [rz_PA, rz_fv_pf, rz_av_pf, rz_qv_pf, rz_ln_pf, rz_co_pf, rz_fv_pa, rz_av_pa, rz_qv_pa, rz_ln_pa, rz_co_pa, rz_fv_pq, rz_av_pq, rz_qv_pq, rz_ln_pq, rz_co_pq, Nat.reduceEqDiff, Nat.add_eq_left, Nat.left_eq_add, Nat.one_ne_zero, Option.map_some, exists_const]; exact g7
