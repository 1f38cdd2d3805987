/-! RisingPilesModel: one row of numbers -/
theorem rz_mx (i w : Nat) : (184 : Int32) + 6 * nI i + nI w = nI (184 + 6 * i + w) := by
  rw [show (184 : Int32) = nI 184 from rfl, show (6 : Int32) = nI 6 from rfl, pk_mul, nI_add, nI_add]
section RZM1
variable {d a i w : Nat} {f : Nat → Int32} {x v : Int32} {hp : rz_Hp} {R : Option Value → rz_Hp → Prop}
set_option maxHeartbeats 4000000 in
set_option maxRecDepth 100000 in
theorem m_M_in {lo hi : Int32} : (lo ≤ v ∧ v ≤ hi → (rz_ev d 118 0 [some (.int v), some (.int lo), some (.int hi)] [] hp R ↔ R (some (.int 1)) hp)) ∧ (¬ (lo ≤ v ∧ v ≤ hi) → (rz_ev d 118 0 [some (.int v), some (.int lo), some (.int hi)] [] hp R ↔ R (some (.int 0)) hp)) := by
  refine ⟨fun h => ?_, fun h => ?_⟩
  · simp only [↓ri_118_0, ↓ri_118_1, ↓ri_118_2, ↓ri_118_5, ↓ri_118_6, ↓ri_118_7, ↓ri_118_10, ↓ri_118_11, ↓ri_118_14, ↓ri_118_15, Option.some.injEq, Prod.mk.injEq, exists_eq_left', exists_eq', exists_and_left, exists_and_right, true_and, and_true, true_or, or_true, and_self, and_assoc, Option.toList_some, Option.toList_none, List.cons_append, List.nil_append, ↓reduceIte, rz_x01, rz_x10, ↓if_neg (Int32.not_lt.mpr h.1), ↓if_neg (Int32.not_lt.mpr h.2)]
  · by_cases h0 : v < lo
    · simp only [↓ri_118_0, ↓ri_118_1, ↓ri_118_2, ↓ri_118_5, ↓ri_118_6, ↓ri_118_7, ↓ri_118_10, ↓ri_118_11, ↓ri_118_14, ↓ri_118_15, Option.some.injEq, Prod.mk.injEq, exists_eq_left', exists_eq', exists_and_left, exists_and_right, true_and, and_true, true_or, or_true, and_self, and_assoc, Option.toList_some, Option.toList_none, List.cons_append, List.nil_append, ↓reduceIte, rz_x01, rz_x10, ↓if_pos h0]
    · have h1 : hi < v := Int32.not_le.mp (fun q => h ⟨Int32.not_lt.mp h0, q⟩)
      simp only [↓ri_118_0, ↓ri_118_1, ↓ri_118_2, ↓ri_118_5, ↓ri_118_6, ↓ri_118_7, ↓ri_118_10, ↓ri_118_11, ↓ri_118_14, ↓ri_118_15, Option.some.injEq, Prod.mk.injEq, exists_eq_left', exists_eq', exists_and_left, exists_and_right, true_and, and_true, true_or, or_true, and_self, and_assoc, Option.toList_some, Option.toList_none, List.cons_append, List.nil_append, ↓reduceIte, rz_x01, rz_x10, ↓if_neg h0, ↓if_pos h1]
set_option maxHeartbeats 4000000 in
set_option maxRecDepth 100000 in
theorem m_M_of (ha : rz_av hp a = some (0, 430, f)) (hi : i < 41) (hw : w < 6) (hx : x = nI w) : rz_ev d 125 0 [some (.ref a), some (.int (nI i)), some (.int x)] [] hp R ↔ R (some (.int (f (184 + 6 * i + w)))) hp := by
  subst hx
  have hv : vp_in (nI (184 + 6 * i + w)) 430 := vp_in_nI (by omega) (by decide)
  simp only [↓ri_125_0, ↓ri_125_1, ↓ri_125_4, ↓ri_125_6, ↓ri_125_7, ↓ri_125_8, ↓ri_125_9, ↓ri_125_10, ↓ri_125_11, ↓ri_125_12, Option.some.injEq, Prod.mk.injEq, exists_eq_left', exists_eq', exists_and_left, exists_and_right, true_and, and_true, true_or, or_true, and_self, and_assoc, Option.toList_some, Option.toList_none, List.cons_append, List.nil_append, ↓reduceIte, rz_x01, rz_x10, ha, rz_mx, hv, nI_clamp (show 184 + 6 * i + w < 2 ^ 31 by omega)]
set_option maxHeartbeats 4000000 in
set_option maxRecDepth 100000 in
theorem m_M_puts (ha : rz_av hp a = some (0, 430, f)) (hi : i < 41) (hw : w < 6) (hx : x = nI w) (kk : ∀ hp', rz_av hp' a = some (0, 430, upd f (184 + 6 * i + w) v) → rz_sm a (a + 1) hp hp' → R none hp') : rz_ev d 126 0 [some (.ref a), some (.int (nI i)), some (.int x), some (.int v)] [] hp R := by
  subst hx
  have hv : vp_in (nI (184 + 6 * i + w)) 430 := vp_in_nI (by omega) (by decide)
  simp only [↓ri_126_0, ↓ri_126_1, ↓ri_126_4, ↓ri_126_6, ↓ri_126_7, ↓ri_126_8, ↓ri_126_9, ↓ri_126_10, ↓ri_126_11, ↓ri_126_12, ↓ri_126_13, Option.some.injEq, Prod.mk.injEq, exists_eq_left', exists_eq', exists_and_left, exists_and_right, true_and, and_true, true_or, or_true, and_self, and_assoc, Option.toList_some, Option.toList_none, List.cons_append, List.nil_append, ↓reduceIte, rz_x01, rz_x10, ha, rz_mx, hv, nI_clamp (show 184 + 6 * i + w < 2 ^ 31 by omega)]
  exact kk _ (by simp only [rz_fv_pf, rz_av_pf, rz_qv_pf, rz_ln_pf, rz_co_pf, rz_fv_pa, rz_av_pa, rz_qv_pa, rz_ln_pa, rz_co_pa, rz_fv_pq, rz_av_pq, rz_qv_pq, rz_ln_pq, rz_co_pq, Nat.reduceEqDiff, Nat.add_eq_left, Nat.left_eq_add, Nat.one_ne_zero, Option.map_some, exists_const, Option.some.injEq, Prod.mk.injEq, exists_eq_left', exists_eq', exists_and_left, exists_and_right, true_and, and_true, true_or, or_true, and_self, and_assoc, Option.toList_some, Option.toList_none, List.cons_append, List.nil_append, ↓reduceIte, rz_x01, rz_x10, ha]) (rz_sm_pa (by omega) (by omega))
theorem rz_bl0 : rz_bl 0 = 0 := rfl
theorem rz_blS {n : Nat} (h : 0 < n) : rz_bl n = rz_bl (n / 2) + 1 := by
  have hb : ∀ k, rz_bl n ≤ k + 1 ↔ rz_bl (n / 2) ≤ k := by
    intro k
    rw [rz_bl_le, rz_bl_le, Nat.pow_succ, Nat.div_lt_iff_lt_mul (by decide)]
  have h1 := (hb (rz_bl (n / 2))).mpr (Nat.le_refl _)
  have h0 : 0 < rz_bl n := by
    refine Nat.pos_of_ne_zero (fun q => ?_)
    have := rz_bl_le.mp (Nat.le_of_eq q)
    simp at this
    omega
  have h2 := (hb (rz_bl n - 1)).mp (by omega)
  omega
set_option maxHeartbeats 4000000 in
set_option maxRecDepth 100000 in
theorem m_M_pileFor {b c : Nat} {key fl : Int32} (ha : rz_av hp a = some (0, 430, f)) (hf : f 0 = fl) (hk : key = nI b) (hfl : fl = nI c) (hb : b < 65536) (hc : c < 65536) : rz_ev d 127 0 [some (.ref a), some (.int key), none, none] [] hp R ↔ R (some (.int (rz_pl fl key))) hp := by
  have hu : b ^^^ c < 2 ^ 16 := Nat.xor_lt_two_pow hb hc
  have he : rz_pl fl key = nI (rz_bl (b ^^^ c)) := by
    unfold rz_pl
    rw [hk, hfl, nI_clamp (by omega), nI_clamp (by omega)]
  have hx : key ^^^ f 0 = nI (b ^^^ c) := by rw [hf, hk, hfl]; exact rz_xor hb hc
  have hl : ∀ u, ∀ p, u < 2 ^ 16 → (rz_ev d 127 8 [some (.ref a), some (.int key), some (.int (nI u)), some (.int (nI p))] [] hp R ↔ R (some (.int (nI (p + rz_bl u)))) hp) := by
    intro u
    induction u using Nat.strongRecOn with
    | ind u ih =>
      intro p hu
      rw [ri_127_8]
      by_cases h0 : u = 0
      · subst h0
        have c1 : nI 0 ≤ 0 := by decide
        simp only [↓ri_127_9, ↓ri_127_12, ↓ri_127_13, ↓ri_127_14, ↓ri_127_15, ↓ri_127_16, ↓ri_127_19, ↓ri_127_22, ↓ri_127_23, Option.some.injEq, Prod.mk.injEq, exists_eq_left', exists_eq', exists_and_left, exists_and_right, true_and, and_true, true_or, or_true, and_self, and_assoc, Option.toList_some, Option.toList_none, List.cons_append, List.nil_append, ↓reduceIte, rz_x01, rz_x10, ↓if_pos c1, rz_bl0, Nat.add_zero]
      · have c1 : ¬ nI u ≤ 0 := nI_nle (by omega) (by omega)
        have e2 : nI u / 2 = nI (u / 2) := pk_div (d := 2) (by omega) (by decide) (by decide)
        have n2 : ¬ (2 : Int32) = 0 := by decide
        have e3 : p + rz_bl u = p + 1 + rz_bl (u / 2) := by rw [rz_blS (Nat.pos_of_ne_zero h0)]; omega
        simp only [↓ri_127_9, ↓ri_127_12, ↓ri_127_13, ↓ri_127_14, ↓ri_127_15, ↓ri_127_16, ↓ri_127_19, Option.some.injEq, Prod.mk.injEq, exists_eq_left', exists_eq', exists_and_left, exists_and_right, true_and, and_true, true_or, or_true, and_self, and_assoc, Option.toList_some, Option.toList_none, List.cons_append, List.nil_append, ↓reduceIte, rz_x01, rz_x10, ↓if_neg c1, e2, n2, not_false_eq_true, nI_1]
        rw [ih (u / 2) (by omega) (p + 1) (by omega), e3]
  have hv : vp_in 0 430 := vp_in_nI (n := 0) (by decide) (by decide)
  have h0 := hl (b ^^^ c) 0 hu
  rw [nI_0, Nat.zero_add, ← he] at h0
  simp only [↓ri_127_0, ↓ri_127_1, ↓ri_127_2, ↓ri_127_3, ↓ri_127_4, ↓ri_127_5, ↓ri_127_6, ↓ri_127_7, Option.some.injEq, Prod.mk.injEq, exists_eq_left', exists_eq', exists_and_left, exists_and_right, true_and, and_true, true_or, or_true, and_self, and_assoc, Option.toList_some, Option.toList_none, List.cons_append, List.nil_append, ↓reduceIte, rz_x01, rz_x10, ha, hv, show (0 : Int32).toNatClampNeg = 0 from rfl, hx, h0]
/-- the slots of a row: entries with their stamps -/
abbrev rz_Zt : Type := rz_En × Nat
def rz_ZS (f : Nat → Int32) (Z : List rz_Zt) : Prop := Z.length ≤ 41 ∧ f 1 = nI Z.length ∧ ∀ (i : Nat) (z : rz_Zt), Z[i]? = some z → f (184 + 6 * i) = z.1.1 ∧ f (184 + 6 * i + 1) = z.1.2.1 ∧ f (184 + 6 * i + 2) = z.1.2.2.1 ∧ f (184 + 6 * i + 3) = z.1.2.2.2.1 ∧ f (184 + 6 * i + 4) = z.1.2.2.2.2 ∧ f (184 + 6 * i + 5) = nI z.2 ∧ z.2 < 2 ^ 30
variable {Z : List rz_Zt}
theorem rz_v1 : vp_in 1 430 := vp_in_nI (n := 1) (by decide) (by decide)
theorem rz_k1 : (1 : Int32).toNatClampNeg = 1 := rfl
theorem rz_topZ (h : Z.length ≤ 41) : nI Z.length ≤ nI Z.length := nI_le (Nat.le_refl _) (by omega)
/-- the slot at the front of a pile -/
def rz_fz (Z : List rz_Zt) (p : Int32) (n j : Nat) : Prop := j < n ∧ ∃ z, Z[j]? = some z ∧ z.1.2.2.2.2 = p ∧ ∀ (i : Nat) (x : rz_Zt), i < n → Z[i]? = some x → x.1.2.2.2.2 = p → z.2 ≤ x.2
/-- no two entries of a pile have one stamp -/
def rz_dz (Z : List rz_Zt) : Prop := ∀ (i j : Nat) (x y : rz_Zt), Z[i]? = some x → Z[j]? = some y → x.1.2.2.2.2 = y.1.2.2.2.2 → x.2 = y.2 → i = j
def rz_frS (Z : List rz_Zt) (p : Int32) (n : Nat) (b : Int32) : Prop := (b = -5 ∧ ∀ (i : Nat) (x : rz_Zt), i < n → Z[i]? = some x → ¬ x.1.2.2.2.2 = p) ∨ ∃ j, b = nI j ∧ rz_fz Z p n j
set_option maxHeartbeats 4000000 in
set_option maxRecDepth 100000 in
theorem m_M_frontOf_loop {p : Int32} (ha : rz_av hp a = some (0, 430, f)) (hZ : rz_ZS f Z) (tgt : Int32) (hfin : ∀ b, rz_frS Z p Z.length b → b = tgt) : ∀ n, n ≤ Z.length → ∀ b l4, rz_frS Z p n b → (rz_ev (d + 1) 128 5 [some (.ref a), some (.int p), some (.int b), some (.int (nI n)), l4] [] hp R ↔ R (some (.int tgt)) hp) := by
  obtain ⟨hl, h1, hz⟩ := hZ
  refine rz_down Z.length ?_ ?_
  · intro b l4 hb
    have c1 := rz_topZ hl
    rw [ri_128_5, ← hfin b hb]
    simp only [↓ri_128_6, ↓ri_128_7, ↓ri_128_8, ↓ri_128_9, ↓ri_128_12, ↓ri_128_13, ↓ri_128_14, ↓ri_128_15, ↓ri_128_18, ↓ri_128_19, ↓ri_128_22, ↓ri_128_23, ↓ri_128_25, ↓ri_128_28, ↓ri_128_29, ↓ri_128_30, ↓ri_128_31, ↓ri_128_34, ↓ri_128_35, ↓ri_128_36, ↓ri_128_37, ↓ri_128_40, ↓ri_128_43, ↓ri_128_44, ↓ri_128_47, ↓ri_128_48, ↓ri_128_50, ↓ri_128_52, ↓ri_128_55, ↓ri_128_56, ↓ri_128_59, ↓ri_128_60, ↓ri_128_61, ↓ri_128_64, ↓ri_128_67, ↓ri_128_68, Option.some.injEq, Prod.mk.injEq, exists_eq_left', exists_eq', exists_and_left, exists_and_right, true_and, and_true, true_or, or_true, and_self, and_assoc, Option.toList_some, Option.toList_none, List.cons_append, List.nil_append, ↓reduceIte, rz_x01, rz_x10, ha, rz_v1, rz_k1, h1, ↓if_pos c1]
  · intro n hn ih b l4 hb
    have c1 : ¬ nI Z.length ≤ nI n := nI_ge hn (by omega)
    obtain ⟨x, hx⟩ := rz_ge hn
    obtain ⟨g0, g1, g2, g3, g4, g5, g6⟩ := hz n x hx
    have o4 := fun R => m_M_of (d := d) (i := n) (w := 4) (x := 4) ha (by omega) (by decide) rfl (R := R)
    have o5 := fun R => m_M_of (d := d) (i := n) (w := 5) (x := 5) ha (by omega) (by decide) rfl (R := R)
    rw [g4] at o4
    rw [g5] at o5
    have z10 : ¬ (1 : Int32) = 0 := by decide
    rw [ri_128_5]
    by_cases hp1 : x.1.2.2.2.2 = p
    · rcases hb with ⟨rfl, hb⟩ | ⟨j, rfl, hj, z, hzj, hzp, hmin⟩
      · rw [← ih (nI n) (some (.int 1)) (Or.inr ⟨n, rfl, Nat.lt_succ_self _, x, hx, hp1, fun i y hi hy hyp => by
          rcases Nat.lt_succ_iff_lt_or_eq.mp hi with q | q
          · exact absurd hyp (hb i y q hy)
          · subst q; rw [hx] at hy; cases hy; exact Nat.le_refl _⟩)]
        simp only [↓ri_128_6, ↓ri_128_7, ↓ri_128_8, ↓ri_128_9, ↓ri_128_12, ↓ri_128_13, ↓ri_128_14, ↓ri_128_15, ↓ri_128_18, ↓ri_128_19, ↓ri_128_22, ↓ri_128_23, ↓ri_128_25, ↓ri_128_28, ↓ri_128_29, ↓ri_128_30, ↓ri_128_31, ↓ri_128_34, ↓ri_128_35, ↓ri_128_36, ↓ri_128_37, ↓ri_128_40, ↓ri_128_43, ↓ri_128_44, ↓ri_128_47, ↓ri_128_48, ↓ri_128_50, ↓ri_128_52, ↓ri_128_55, ↓ri_128_56, ↓ri_128_59, ↓ri_128_60, ↓ri_128_61, ↓ri_128_64, Option.some.injEq, Prod.mk.injEq, exists_eq_left', exists_eq', exists_and_left, exists_and_right, true_and, and_true, true_or, or_true, and_self, and_assoc, Option.toList_some, Option.toList_none, List.cons_append, List.nil_append, ↓reduceIte, rz_x01, rz_x10, ha, rz_v1, rz_k1, h1, ↓if_neg c1, o4, ↓if_pos hp1, ↓if_neg z10, nI_1]
      · obtain ⟨q0, q1, q2, q3, q4, q5, q6⟩ := hz j z hzj
        have o6 := fun R => m_M_of (d := d) (i := j) (w := 5) (x := 5) ha (by omega) (by decide) rfl (R := R)
        rw [q5] at o6
        have cj : ¬ nI j = -5 := fun q => nI_pos (show j < 2 ^ 31 by omega) (by rw [q]; decide)
        by_cases hlt : x.2 < z.2
        · have c5 : ¬ nI z.2 ≤ nI x.2 := nI_ge hlt (by omega)
          rw [← ih (nI n) (some (.int 1)) (Or.inr ⟨n, rfl, Nat.lt_succ_self _, x, hx, hp1, fun i y hi hy hyp => by
            rcases Nat.lt_succ_iff_lt_or_eq.mp hi with q | q
            · exact Nat.le_trans (Nat.le_of_lt hlt) (hmin i y q hy hyp)
            · subst q; rw [hx] at hy; cases hy; exact Nat.le_refl _⟩)]
          simp only [↓ri_128_6, ↓ri_128_7, ↓ri_128_8, ↓ri_128_9, ↓ri_128_12, ↓ri_128_13, ↓ri_128_14, ↓ri_128_15, ↓ri_128_18, ↓ri_128_19, ↓ri_128_22, ↓ri_128_23, ↓ri_128_25, ↓ri_128_28, ↓ri_128_29, ↓ri_128_30, ↓ri_128_31, ↓ri_128_34, ↓ri_128_35, ↓ri_128_36, ↓ri_128_37, ↓ri_128_40, ↓ri_128_43, ↓ri_128_44, ↓ri_128_47, ↓ri_128_48, ↓ri_128_50, ↓ri_128_52, ↓ri_128_55, ↓ri_128_56, ↓ri_128_59, ↓ri_128_60, ↓ri_128_61, ↓ri_128_64, Option.some.injEq, Prod.mk.injEq, exists_eq_left', exists_eq', exists_and_left, exists_and_right, true_and, and_true, true_or, or_true, and_self, and_assoc, Option.toList_some, Option.toList_none, List.cons_append, List.nil_append, ↓reduceIte, rz_x01, rz_x10, ha, rz_v1, rz_k1, h1, ↓if_neg c1, o4, ↓if_pos hp1, ↓if_neg cj, o5, o6, ↓if_neg c5, ↓if_neg z10, nI_1]
        · have c5 : nI z.2 ≤ nI x.2 := nI_le (by omega) (by omega)
          rw [← ih (nI j) (some (.int 0)) (Or.inr ⟨j, rfl, by omega, z, hzj, hzp, fun i y hi hy hyp => by
            rcases Nat.lt_succ_iff_lt_or_eq.mp hi with q | q
            · exact hmin i y q hy hyp
            · subst q; rw [hx] at hy; cases hy; omega⟩)]
          simp only [↓ri_128_6, ↓ri_128_7, ↓ri_128_8, ↓ri_128_9, ↓ri_128_12, ↓ri_128_13, ↓ri_128_14, ↓ri_128_15, ↓ri_128_18, ↓ri_128_19, ↓ri_128_22, ↓ri_128_23, ↓ri_128_25, ↓ri_128_28, ↓ri_128_29, ↓ri_128_30, ↓ri_128_31, ↓ri_128_34, ↓ri_128_35, ↓ri_128_36, ↓ri_128_37, ↓ri_128_40, ↓ri_128_43, ↓ri_128_44, ↓ri_128_47, ↓ri_128_48, ↓ri_128_50, ↓ri_128_52, ↓ri_128_55, ↓ri_128_56, ↓ri_128_59, ↓ri_128_60, ↓ri_128_61, ↓ri_128_64, Option.some.injEq, Prod.mk.injEq, exists_eq_left', exists_eq', exists_and_left, exists_and_right, true_and, and_true, true_or, or_true, and_self, and_assoc, Option.toList_some, Option.toList_none, List.cons_append, List.nil_append, ↓reduceIte, rz_x01, rz_x10, ha, rz_v1, rz_k1, h1, ↓if_neg c1, o4, ↓if_pos hp1, ↓if_neg cj, o5, o6, ↓if_pos c5, nI_1]
    · have hb2 : rz_frS Z p (n + 1) b := by
        rcases hb with ⟨hb1, hb⟩ | ⟨j, hbj, hj, z, hzj, hzp, hmin⟩
        · refine Or.inl ⟨hb1, fun i y hi hy => ?_⟩
          rcases Nat.lt_succ_iff_lt_or_eq.mp hi with q | q
          · exact hb i y q hy
          · subst q; rw [hx] at hy; cases hy; exact hp1
        · refine Or.inr ⟨j, hbj, by omega, z, hzj, hzp, fun i y hi hy hyp => ?_⟩
          rcases Nat.lt_succ_iff_lt_or_eq.mp hi with q | q
          · exact hmin i y q hy hyp
          · subst q; rw [hx] at hy; cases hy; exact absurd hyp hp1
      rw [← ih b (some (.int 0)) hb2]
      simp only [↓ri_128_6, ↓ri_128_7, ↓ri_128_8, ↓ri_128_9, ↓ri_128_12, ↓ri_128_13, ↓ri_128_14, ↓ri_128_15, ↓ri_128_18, ↓ri_128_19, ↓ri_128_22, ↓ri_128_23, ↓ri_128_25, ↓ri_128_28, ↓ri_128_29, ↓ri_128_30, ↓ri_128_31, ↓ri_128_34, ↓ri_128_35, ↓ri_128_36, ↓ri_128_37, ↓ri_128_40, ↓ri_128_43, ↓ri_128_44, ↓ri_128_47, ↓ri_128_48, ↓ri_128_50, ↓ri_128_52, ↓ri_128_55, ↓ri_128_56, ↓ri_128_59, ↓ri_128_60, ↓ri_128_61, ↓ri_128_64, Option.some.injEq, Prod.mk.injEq, exists_eq_left', exists_eq', exists_and_left, exists_and_right, true_and, and_true, true_or, or_true, and_self, and_assoc, Option.toList_some, Option.toList_none, List.cons_append, List.nil_append, ↓reduceIte, rz_x01, rz_x10, ha, rz_v1, rz_k1, h1, ↓if_neg c1, o4, ↓if_neg hp1, nI_1]
set_option maxHeartbeats 4000000 in
set_option maxRecDepth 100000 in
theorem m_M_frontOf {p : Int32} {j : Nat} (ha : rz_av hp a = some (0, 430, f)) (hZ : rz_ZS f Z) (hd : rz_dz Z) (hj : rz_fz Z p Z.length j) : rz_ev (d + 1) 128 0 [some (.ref a), some (.int p), none, none, none] [] hp R ↔ R (some (.int (nI j))) hp := by
  have := m_M_frontOf_loop (d := d) (R := R) ha hZ (nI j) (fun b hb => by
    obtain ⟨hjl, z, hz, hzp, hmin⟩ := hj
    rcases hb with ⟨-, hb⟩ | ⟨m, rfl, hm, y, hy, hyp, hmin2⟩
    · exact absurd hzp (hb j z hjl hz)
    · rw [hd m j y z hy hz (by rw [hyp, hzp]) (Nat.le_antisymm (hmin2 j z hjl hz hzp) (hmin m y hm hy hyp))]) 0 (Nat.zero_le _) (-5) none (Or.inl ⟨rfl, fun i x hi => absurd hi (Nat.not_lt_zero _)⟩)
  rw [nI_0] at this
  simp only [↓ri_128_0, ↓ri_128_2, ↓ri_128_3, ↓ri_128_4, this]
set_option maxHeartbeats 4000000 in
set_option maxRecDepth 100000 in
theorem m_M_frontOfN {p : Int32} (ha : rz_av hp a = some (0, 430, f)) (hZ : rz_ZS f Z) (hn : ∀ z ∈ Z, ¬ z.1.2.2.2.2 = p) : rz_ev (d + 1) 128 0 [some (.ref a), some (.int p), none, none, none] [] hp R ↔ R (some (.int (-5))) hp := by
  have := m_M_frontOf_loop (d := d) (R := R) ha hZ (-5) (fun b hb => by
    rcases hb with ⟨q, -⟩ | ⟨m, -, hm, y, hy, hyp, -⟩
    · exact q
    · exact absurd hyp (hn y (List.mem_of_getElem? hy))) 0 (Nat.zero_le _) (-5) none (Or.inl ⟨rfl, fun i x hi => absurd hi (Nat.not_lt_zero _)⟩)
  rw [nI_0] at this
  simp only [↓ri_128_0, ↓ri_128_2, ↓ri_128_3, ↓ri_128_4, this]
set_option maxHeartbeats 4000000 in
set_option maxRecDepth 100000 in
theorem m_M_manyIn {p : Int32} (ha : rz_av hp a = some (0, 430, f)) (hZ : rz_ZS f Z) : rz_ev (d + 1) 130 0 [some (.ref a), some (.int p), none, none] [] hp R ↔ R (some (.int (nI (rz_cnt (Z.map Prod.fst) p)))) hp := by
  obtain ⟨hl, h1, hz⟩ := hZ
  have hL : ∀ n, n ≤ Z.length → (rz_ev (d + 1) 130 4 [some (.ref a), some (.int p), some (.int (nI (rz_cnt ((Z.map Prod.fst).take n) p))), some (.int (nI n))] [] hp R ↔ R (some (.int (nI (rz_cnt (Z.map Prod.fst) p)))) hp) := by
    refine rz_down Z.length ?_ ?_
    · have c1 := rz_topZ hl
      rw [ri_130_4, List.take_of_length_le (by rw [List.length_map]; exact Nat.le_refl _)]
      simp only [↓ri_130_5, ↓ri_130_6, ↓ri_130_7, ↓ri_130_8, ↓ri_130_11, ↓ri_130_12, ↓ri_130_13, ↓ri_130_14, ↓ri_130_15, ↓ri_130_18, ↓ri_130_19, ↓ri_130_22, ↓ri_130_23, ↓ri_130_26, ↓ri_130_27, ↓ri_130_28, ↓ri_130_29, ↓ri_130_32, ↓ri_130_35, ↓ri_130_36, Option.some.injEq, Prod.mk.injEq, exists_eq_left', exists_eq', exists_and_left, exists_and_right, true_and, and_true, true_or, or_true, and_self, and_assoc, Option.toList_some, Option.toList_none, List.cons_append, List.nil_append, ↓reduceIte, rz_x01, rz_x10, ha, rz_v1, rz_k1, h1, ↓if_pos c1]
    · intro n hn ih
      have c1 : ¬ nI Z.length ≤ nI n := nI_ge hn (by omega)
      obtain ⟨x, hx⟩ := rz_ge hn
      obtain ⟨g0, g1, g2, g3, g4, g5, g6⟩ := hz n x hx
      have o4 := fun R => m_M_of (d := d) (i := n) (w := 4) (x := 4) ha (by omega) (by decide) rfl (R := R)
      rw [g4] at o4
      have hx2 : (Z.map Prod.fst)[n]? = some x.1 := by rw [List.getElem?_map, hx]; rfl
      rw [← ih, rz_cnt_tk hx2, ri_130_4]
      by_cases hp1 : x.1.2.2.2.2 = p
      · simp only [↓ri_130_5, ↓ri_130_6, ↓ri_130_7, ↓ri_130_8, ↓ri_130_11, ↓ri_130_12, ↓ri_130_13, ↓ri_130_14, ↓ri_130_15, ↓ri_130_18, ↓ri_130_19, ↓ri_130_22, ↓ri_130_23, ↓ri_130_26, ↓ri_130_27, ↓ri_130_28, ↓ri_130_29, ↓ri_130_32, Option.some.injEq, Prod.mk.injEq, exists_eq_left', exists_eq', exists_and_left, exists_and_right, true_and, and_true, true_or, or_true, and_self, and_assoc, Option.toList_some, Option.toList_none, List.cons_append, List.nil_append, ↓reduceIte, rz_x01, rz_x10, ha, rz_v1, rz_k1, h1, ↓if_neg c1, o4, ↓if_pos hp1, nI_1]
      · simp only [↓ri_130_5, ↓ri_130_6, ↓ri_130_7, ↓ri_130_8, ↓ri_130_11, ↓ri_130_12, ↓ri_130_13, ↓ri_130_14, ↓ri_130_15, ↓ri_130_18, ↓ri_130_19, ↓ri_130_22, ↓ri_130_23, ↓ri_130_26, ↓ri_130_27, ↓ri_130_28, ↓ri_130_29, ↓ri_130_32, Option.some.injEq, Prod.mk.injEq, exists_eq_left', exists_eq', exists_and_left, exists_and_right, true_and, and_true, true_or, or_true, and_self, and_assoc, Option.toList_some, Option.toList_none, List.cons_append, List.nil_append, ↓reduceIte, rz_x01, rz_x10, ha, rz_v1, rz_k1, h1, ↓if_neg c1, o4, ↓if_neg hp1, nI_1, Int32.add_zero, Nat.add_zero]
  have h0 := hL 0 (Nat.zero_le _)
  rw [nI_0, show rz_cnt ((Z.map Prod.fst).take 0) p = 0 from rfl, nI_0] at h0
  simp only [↓ri_130_0, ↓ri_130_1, ↓ri_130_2, ↓ri_130_3, h0]
end RZM1
