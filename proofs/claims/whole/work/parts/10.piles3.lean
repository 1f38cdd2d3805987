/-! RisingPiles$Piles, what changes it -/
/-- how many bits a number has -/
def rz_bl (n : Nat) : Nat := if n = 0 then 0 else n.log2 + 1
theorem rz_bl_le {n k : Nat} : rz_bl n ≤ k ↔ n < 2 ^ k := by
  unfold rz_bl
  split
  · next h => subst h; exact ⟨fun _ => Nat.pow_pos (by decide), fun _ => Nat.zero_le _⟩
  · next h => rw [Nat.succ_le_iff, Nat.log2_lt h]
theorem rz_bl_eq {n k : Nat} (h1 : n < 2 ^ (k + 1)) (h2 : 2 ^ k ≤ n) : rz_bl n = k + 1 := by
  have a : rz_bl n ≤ k + 1 := rz_bl_le.mpr h1
  have b : ¬ rz_bl n ≤ k := fun q => Nat.not_lt.mpr h2 (rz_bl_le.mp q)
  omega
theorem rz_bl_mod {n i : Nat} : rz_bl (n % 2 ^ (i + 1)) = if n / 2 ^ i % 2 = 1 then i + 1 else rz_bl (n % 2 ^ i) := by
  have hp : 0 < 2 ^ i := Nat.pow_pos (by decide)
  have e : n % 2 ^ (i + 1) = n % 2 ^ i + 2 ^ i * (n / 2 ^ i % 2) := by
    rw [Nat.pow_succ, Nat.mod_mul]
  have hl : n % 2 ^ i < 2 ^ i := Nat.mod_lt _ hp
  split
  · next h => rw [e, h, Nat.mul_one]; exact rz_bl_eq (by rw [Nat.pow_succ]; omega) (by omega)
  · next h => rw [e, show n / 2 ^ i % 2 = 0 by omega, Nat.mul_zero, Nat.add_zero]
/-- the pile of a key, by the floor -/
def rz_pl (fl key : Int32) : Int32 := nI (rz_bl (key.toNatClampNeg ^^^ fl.toNatClampNeg))
theorem rz_xor {a c : Nat} (ha : a < 2 ^ 16) (hc : c < 2 ^ 16) : nI a ^^^ nI c = nI (a ^^^ c) := by
  apply Int32.toBitVec_inj.mp
  rw [Int32.toBitVec_xor]
  apply BitVec.eq_of_toNat_eq
  have h : a ^^^ c < 2 ^ 16 := Nat.xor_lt_two_pow ha hc
  rw [BitVec.toNat_xor, pk_tn (by omega), pk_tn (by omega), pk_tn (by omega)]
theorem rz_sh : ∀ i, i < 16 → ((nI i &&& 31).toBitVec.smod 32).toNat = i := by decide +kernel
set_option maxHeartbeats 4000000 in
set_option maxRecDepth 100000 in
theorem c_P_pileFor {d b a c : Nat} {fl key : Int32} {hp : rz_Hp} (p6 : rz_fv hp b 3 6 = some (.int fl)) (hk : key = nI a) (hf : fl = nI c) (ha : a < 65536) (hc : c < 65536) {R : Option Value → rz_Hp → Prop} : rz_ev d 43 0 [some (.ref b), some (.int key), none, none, none] [] hp R ↔ R (some (.int (rz_pl fl key))) hp := by
  have hu : a ^^^ c < 2 ^ 16 := Nat.xor_lt_two_pow ha hc
  have he : rz_pl fl key = nI (rz_bl ((a ^^^ c) % 2 ^ 16)) := by
    unfold rz_pl
    rw [hk, hf, nI_clamp (by omega), nI_clamp (by omega), Nat.mod_eq_of_lt hu]
  have hx : key ^^^ fl = nI (a ^^^ c) := by rw [hk, hf]; exact rz_xor ha hc
  have hl : ∀ i, i ≤ 16 → (rz_ev d 43 12 [some (.ref b), some (.int key), some (.int (nI (a ^^^ c))), some (.int (nI (rz_bl ((a ^^^ c) % 2 ^ i)))), some (.int (nI i))] [] hp R ↔ R (some (.int (rz_pl fl key))) hp) := by
    refine rz_down 16 ?_ ?_
    · have c1 : (16 : Int32) ≤ nI 16 := by decide
      rw [he, ri_43_12]
      simp only [↓ri_43_14, ↓ri_43_16, ↓ri_43_19, ↓ri_43_20, ↓ri_43_22, ↓ri_43_23, ↓ri_43_24, ↓ri_43_25, ↓ri_43_26, ↓ri_43_29, ↓ri_43_31, ↓ri_43_32, ↓ri_43_33, ↓ri_43_34, ↓ri_43_37, ↓ri_43_40, ↓ri_43_41, ↓if_pos c1]
    · intro i hi ih
      have c1 : ¬ (16 : Int32) ≤ nI i := nI_ge (b := 16) hi (by decide)
      have hq : (nI (a ^^^ c) >>> (nI i &&& 31)) &&& 1 = nI ((a ^^^ c) / 2 ^ i % 2) := by
        rw [pk_shrN (by omega) _ i (rz_sh i hi)]
        exact pk_andN (Nat.lt_of_le_of_lt (Nat.div_le_self _ _) (by omega)) 1 (by decide)
      have hm : (a ^^^ c) / 2 ^ i % 2 < 2 := Nat.mod_lt _ (by decide)
      rw [← ih, rz_bl_mod, ri_43_12]
      by_cases h1 : (a ^^^ c) / 2 ^ i % 2 = 1
      · have c2 : nI ((a ^^^ c) / 2 ^ i % 2) = 1 := by rw [h1]; rfl
        simp only [↓ri_43_14, ↓ri_43_16, ↓ri_43_19, ↓ri_43_20, ↓ri_43_22, ↓ri_43_23, ↓ri_43_24, ↓ri_43_25, ↓ri_43_26, ↓ri_43_29, ↓ri_43_31, ↓ri_43_32, ↓ri_43_33, ↓ri_43_34, ↓ri_43_37, ↓if_neg c1, hq, ↓if_pos c2, ↓if_pos h1, nI_1]
      · have c2 : ¬ nI ((a ^^^ c) / 2 ^ i % 2) = 1 := by rw [show (a ^^^ c) / 2 ^ i % 2 = 0 by omega]; decide
        simp only [↓ri_43_14, ↓ri_43_16, ↓ri_43_19, ↓ri_43_20, ↓ri_43_22, ↓ri_43_23, ↓ri_43_24, ↓ri_43_25, ↓ri_43_26, ↓ri_43_29, ↓ri_43_31, ↓ri_43_32, ↓ri_43_33, ↓ri_43_34, ↓ri_43_37, ↓if_neg c1, hq, ↓if_neg c2, ↓if_neg h1, nI_1]
  have h0 := hl 0 (Nat.zero_le _)
  rw [nI_0, Nat.pow_zero, Nat.mod_one, show rz_bl 0 = 0 from rfl, nI_0] at h0
  simp only [↓ri_43_0, ↓ri_43_1, ↓ri_43_2, ↓ri_43_5, ↓ri_43_6, ↓ri_43_7, ↓ri_43_8, ↓ri_43_9, ↓ri_43_10, p6, Option.some.injEq, Prod.mk.injEq, exists_eq_left', exists_eq', exists_and_left, exists_and_right, true_and, and_true, true_or, or_true, and_self, and_assoc, Option.toList_some, Option.toList_none, List.cons_append, List.nil_append, ↓reduceIte, rz_x01, rz_x10, hx, h0]
theorem rz_PL_of {b : Nat} {L : List rz_En} {fl am : Int32} {hp : rz_Hp} {f0 f1 f2 f3 f4 : Nat → Int32} (hL : L.length ≤ 40) (hF : rz_PF b (nI L.length) fl am hp) (hA : rz_PA b f0 f1 f2 f3 f4 hp) (hH : rz_PH L f0 f1 f2 f3 f4) : rz_PL b L fl am hp := ⟨hL, hF, f0, f1, f2, f3, f4, hA, hH⟩
theorem rz_us {f : Nat → Int32} {k : Nat} {x : Int32} : upd f k x k = x := pk_us
set_option maxHeartbeats 4000000 in
set_option maxRecDepth 100000 in
theorem c_P_append {d b a c : Nat} {L : List rz_En} {fl am num key val mov : Int32} {hp : rz_Hp} (h : rz_PL b L fl am hp) (hlt : L.length < 40) (hk : key = nI a) (hf : fl = nI c) (ha : a < 65536) (hc : c < 65536) {R : Option Value → rz_Hp → Prop} (kk : ∀ hp', rz_PL b (L ++ [(num, key, val, mov, rz_pl fl key)]) fl am hp' → rz_sm b (b + 6) hp hp' → R none hp') : rz_ev (d + 1) 41 0 [some (.ref b), some (.int num), some (.int key), some (.int val), some (.int mov)] [] hp R := by
  have hq := fun R => c_P_isFull (d := d) h (R := R)
  rw [if_pos hlt] at hq
  obtain ⟨hL, ⟨p0, p1, p2, p3, p4, p5, p6, p7⟩, f0, f1, f2, f3, f4, ⟨a0, a1, a2, a3, a4⟩, hf5⟩ := id h
  have hin : vp_in (nI L.length) 40 := vp_in_nI hlt (by decide)
  have hcl : (nI L.length).toNatClampNeg = L.length := nI_clamp (by omega)
  have c0 : (0 : Int32) ≤ nI L.length := nI_pos' (by omega)
  simp only [↓ri_41_0, ↓ri_41_1, ↓ri_41_4, ↓ri_41_7, ↓ri_41_8, ↓ri_41_11, ↓ri_41_14, ↓ri_41_15, ↓ri_41_16, ↓ri_41_19, ↓ri_41_20, ↓ri_41_23, ↓ri_41_24, ↓ri_41_25, ↓ri_41_26, ↓ri_41_29, ↓ri_41_30, ↓ri_41_33, ↓ri_41_34, ↓ri_41_35, ↓ri_41_36, ↓ri_41_39, ↓ri_41_40, ↓ri_41_43, ↓ri_41_44, ↓ri_41_45, ↓ri_41_46, ↓ri_41_49, ↓ri_41_50, ↓ri_41_53, ↓ri_41_55, ↓ri_41_56, ↓ri_41_57, ↓ri_41_60, ↓ri_41_61, ↓ri_41_64, ↓ri_41_65, ↓ri_41_66, ↓ri_41_69, ↓ri_41_70, ↓ri_41_71, ↓ri_41_72, ↓ri_41_75, ↓ri_41_76, ↓ri_41_77, ↓ri_41_80, Option.some.injEq, Prod.mk.injEq, exists_eq_left', exists_eq', exists_and_left, exists_and_right, true_and, and_true, true_or, or_true, and_self, and_assoc, Option.toList_some, Option.toList_none, List.cons_append, List.nil_append, ↓reduceIte, rz_x01, rz_x10, rz_co_fv p5, hq, p0, p1, p2, p3, p4, p5, a0, a1, a2, a3, a4, rz_fv_pf, rz_av_pf, rz_qv_pf, rz_ln_pf, rz_co_pf, rz_fv_pa, rz_av_pa, rz_qv_pa, rz_ln_pa, rz_co_pa, rz_fv_pq, rz_av_pq, rz_qv_pq, rz_ln_pq, rz_co_pq, Nat.reduceEqDiff, Nat.add_eq_left, Nat.left_eq_add, Nat.one_ne_zero, Option.map_some, exists_const, ↓if_pos c0, hin, hcl]
  rw [c_P_pileFor (fl := fl) (by simp only [rz_fv_pf, rz_av_pf, rz_qv_pf, rz_ln_pf, rz_co_pf, rz_fv_pa, rz_av_pa, rz_qv_pa, rz_ln_pa, rz_co_pa, rz_fv_pq, rz_av_pq, rz_qv_pq, rz_ln_pq, rz_co_pq, Nat.reduceEqDiff, Nat.add_eq_left, Nat.left_eq_add, Nat.one_ne_zero, Option.map_some, exists_const]; exact p6) hk hf ha hc]
  simp only [↓ri_41_0, ↓ri_41_1, ↓ri_41_4, ↓ri_41_7, ↓ri_41_8, ↓ri_41_11, ↓ri_41_14, ↓ri_41_15, ↓ri_41_16, ↓ri_41_19, ↓ri_41_20, ↓ri_41_23, ↓ri_41_24, ↓ri_41_25, ↓ri_41_26, ↓ri_41_29, ↓ri_41_30, ↓ri_41_33, ↓ri_41_34, ↓ri_41_35, ↓ri_41_36, ↓ri_41_39, ↓ri_41_40, ↓ri_41_43, ↓ri_41_44, ↓ri_41_45, ↓ri_41_46, ↓ri_41_49, ↓ri_41_50, ↓ri_41_53, ↓ri_41_55, ↓ri_41_56, ↓ri_41_57, ↓ri_41_60, ↓ri_41_61, ↓ri_41_64, ↓ri_41_65, ↓ri_41_66, ↓ri_41_69, ↓ri_41_70, ↓ri_41_71, ↓ri_41_72, ↓ri_41_75, ↓ri_41_76, ↓ri_41_77, ↓ri_41_80, Option.some.injEq, Prod.mk.injEq, exists_eq_left', exists_eq', exists_and_left, exists_and_right, true_and, and_true, true_or, or_true, and_self, and_assoc, Option.toList_some, Option.toList_none, List.cons_append, List.nil_append, ↓reduceIte, rz_x01, rz_x10, p4, p5, a4, rz_fv_pf, rz_av_pf, rz_qv_pf, rz_ln_pf, rz_co_pf, rz_fv_pa, rz_av_pa, rz_qv_pa, rz_ln_pa, rz_co_pa, rz_fv_pq, rz_av_pq, rz_qv_pq, rz_ln_pq, rz_co_pq, Nat.reduceEqDiff, Nat.add_eq_left, Nat.left_eq_add, Nat.one_ne_zero, Option.map_some, exists_const, hin, hcl]
  refine kk _ (rz_PL_of (f0 := upd f0 L.length num) (f1 := upd f1 L.length key) (f2 := upd f2 L.length val) (f3 := upd f3 L.length mov) (f4 := upd f4 L.length (rz_pl fl key)) (by rw [List.length_append]; simp only [List.length_singleton]; omega) ?_ ?_ ?_) ?_
  · simp only [rz_PF, rz_fv_pf, rz_av_pf, rz_qv_pf, rz_ln_pf, rz_co_pf, rz_fv_pa, rz_av_pa, rz_qv_pa, rz_ln_pa, rz_co_pa, rz_fv_pq, rz_av_pq, rz_qv_pq, rz_ln_pq, rz_co_pq, Nat.reduceEqDiff, Nat.add_eq_left, Nat.left_eq_add, Nat.one_ne_zero, Option.map_some, exists_const, Option.some.injEq, Prod.mk.injEq, exists_eq_left', exists_eq', exists_and_left, exists_and_right, true_and, and_true, true_or, or_true, and_self, and_assoc, Option.toList_some, Option.toList_none, List.cons_append, List.nil_append, ↓reduceIte, rz_x01, rz_x10, p0, p1, p2, p3, p4, p5, p6, p7, nI_1, List.length_append, List.length_singleton]
  · simp only [rz_PA, rz_fv_pf, rz_av_pf, rz_qv_pf, rz_ln_pf, rz_co_pf, rz_fv_pa, rz_av_pa, rz_qv_pa, rz_ln_pa, rz_co_pa, rz_fv_pq, rz_av_pq, rz_qv_pq, rz_ln_pq, rz_co_pq, Nat.reduceEqDiff, Nat.add_eq_left, Nat.left_eq_add, Nat.one_ne_zero, Option.map_some, exists_const, Option.some.injEq, Prod.mk.injEq, exists_eq_left', exists_eq', exists_and_left, exists_and_right, true_and, and_true, true_or, or_true, and_self, and_assoc, Option.toList_some, Option.toList_none, List.cons_append, List.nil_append, ↓reduceIte, rz_x01, rz_x10, a0, a1, a2, a3, a4]
  · intro i e he
    by_cases hi : i < L.length
    · rw [List.getElem?_append_left hi] at he
      have hne : i ≠ L.length := by omega
      rw [pk_un hne, pk_un hne, pk_un hne, pk_un hne, pk_un hne]
      exact hf5 i e he
    · have hl := (List.getElem?_eq_some_iff.mp he).1
      rw [List.length_append, List.length_singleton] at hl
      have hi2 : i = L.length := by omega
      subst hi2
      rw [List.getElem?_append_right (Nat.le_refl _), Nat.sub_self] at he
      cases he
      exact ⟨pk_us, pk_us, pk_us, pk_us, pk_us⟩
  · repeat' first | exact rz_sm.rf | refine rz_sm.tr ?_ (rz_sm_pf (by omega) (by omega)) | refine rz_sm.tr ?_ (rz_sm_pa (by omega) (by omega))
