/-! RisingPilesModel: what changes a row -/
section RZM3
variable {d a : Nat} {f f2 : Nat → Int32} {hp : rz_Hp} {R : Option Value → rz_Hp → Prop} {Z : List rz_Zt}
theorem rz_avS {n : Nat} {f g : Nat → Int32} (h : rz_av hp a = some (0, n, f)) : rz_av (rz_pa hp a g) a = some (0, n, g) := by rw [rz_av_pa, if_pos rfl, h]; rfl
theorem rz_v6 : vp_in 6 430 := vp_in_nI (n := 6) (by decide) (by decide)
theorem rz_k6 : (6 : Int32).toNatClampNeg = 6 := rfl
theorem rz_v4 : vp_in 4 430 := vp_in_nI (n := 4) (by decide) (by decide)
theorem rz_k4 : (4 : Int32).toNatClampNeg = 4 := rfl
theorem rz_v2 : vp_in 2 430 := vp_in_nI (n := 2) (by decide) (by decide)
theorem rz_k2 : (2 : Int32).toNatClampNeg = 2 := rfl
theorem rz_v3 : vp_in 3 430 := vp_in_nI (n := 3) (by decide) (by decide)
theorem rz_k3 : (3 : Int32).toNatClampNeg = 3 := rfl
theorem rz_v7 : vp_in 7 430 := vp_in_nI (n := 7) (by decide) (by decide)
theorem rz_k7 : (7 : Int32).toNatClampNeg = 7 := rfl
theorem rz_v0 : vp_in 0 430 := vp_in_nI (n := 0) (by decide) (by decide)
theorem rz_k0 : (0 : Int32).toNatClampNeg = 0 := rfl
/-- the two rows agree on what stands ahead of the slots, but for how many there are -/
def rz_hd (f g : Nat → Int32) : Prop := ∀ j, j < 184 → ¬ j = 1 → f j = g j
/-- what one slot holds -/
def rz_z6 (f : Nat → Int32) (i : Nat) (z : rz_Zt) : Prop := f (184 + 6 * i) = z.1.1 ∧ f (184 + 6 * i + 1) = z.1.2.1 ∧ f (184 + 6 * i + 2) = z.1.2.2.1 ∧ f (184 + 6 * i + 3) = z.1.2.2.2.1 ∧ f (184 + 6 * i + 4) = z.1.2.2.2.2 ∧ f (184 + 6 * i + 5) = nI z.2 ∧ z.2 < 2 ^ 30
theorem rz_ZS_hd (h : rz_ZS f Z) (h1 : f2 1 = f 1) (h2 : ∀ j, 184 ≤ j → f2 j = f j) : rz_ZS f2 Z := by
  refine ⟨h.1, by rw [h1]; exact h.2.1, fun i z hz => ?_⟩
  obtain ⟨g0, g1, g2, g3, g4, g5, g6⟩ := h.2.2 i z hz
  exact ⟨by rw [h2 _ (by omega)]; exact g0, by rw [h2 _ (by omega)]; exact g1, by rw [h2 _ (by omega)]; exact g2, by rw [h2 _ (by omega)]; exact g3, by rw [h2 _ (by omega)]; exact g4, by rw [h2 _ (by omega)]; exact g5, g6⟩
theorem rz_ZS_set {i : Nat} {z2 : rz_Zt} (h : rz_ZS f Z) (h1 : f2 1 = f 1) (h2 : ∀ j, 184 ≤ j → (j < 184 + 6 * i ∨ 184 + 6 * i + 6 ≤ j) → f2 j = f j) (h3 : rz_z6 f2 i z2) : rz_ZS f2 (Z.set i z2) := by
  refine ⟨by rw [List.length_set]; exact h.1, by rw [List.length_set, h1]; exact h.2.1, fun k z hz => ?_⟩
  rw [List.getElem?_set] at hz
  by_cases hk : i = k
  · subst hk
    rw [if_pos rfl] at hz
    split at hz
    · cases hz; exact h3
    · cases hz
  · rw [if_neg hk] at hz
    obtain ⟨g0, g1, g2, g3, g4, g5, g6⟩ := h.2.2 k z hz
    exact ⟨by rw [h2 _ (by omega) (by omega)]; exact g0, by rw [h2 _ (by omega) (by omega)]; exact g1, by rw [h2 _ (by omega) (by omega)]; exact g2, by rw [h2 _ (by omega) (by omega)]; exact g3, by rw [h2 _ (by omega) (by omega)]; exact g4, by rw [h2 _ (by omega) (by omega)]; exact g5, g6⟩
theorem rz_ZS_app {z2 : rz_Zt} (h : rz_ZS f Z) (hl : Z.length ≤ 40) (h1 : f2 1 = nI (Z.length + 1)) (h2 : ∀ j, 184 ≤ j → j < 184 + 6 * Z.length → f2 j = f j) (h3 : rz_z6 f2 Z.length z2) : rz_ZS f2 (Z ++ [z2]) := by
  refine ⟨by rw [List.length_append]; exact Nat.succ_le_succ hl, by rw [List.length_append, h1]; rfl, fun k z hz => ?_⟩
  by_cases hk : k < Z.length
  · rw [List.getElem?_append_left hk] at hz
    obtain ⟨g0, g1, g2, g3, g4, g5, g6⟩ := h.2.2 k z hz
    exact ⟨by rw [h2 _ (by omega) (by omega)]; exact g0, by rw [h2 _ (by omega) (by omega)]; exact g1, by rw [h2 _ (by omega) (by omega)]; exact g2, by rw [h2 _ (by omega) (by omega)]; exact g3, by rw [h2 _ (by omega) (by omega)]; exact g4, by rw [h2 _ (by omega) (by omega)]; exact g5, g6⟩
  · have hl2 := (List.getElem?_eq_some_iff.mp hz).1
    rw [List.length_append] at hl2
    have hk2 : k = Z.length := by have : [z2].length = 1 := rfl; omega
    subst hk2
    rw [List.getElem?_append_right (Nat.le_refl _), Nat.sub_self] at hz
    cases hz
    exact h3
set_option maxHeartbeats 4000000 in
set_option maxRecDepth 100000 in
theorem m_M_stands {i S : Nat} {p : Int32} (ha : rz_av hp a = some (0, 430, f)) (hi : i < 41) (h6 : f 6 = nI S) (kk : ∀ hp', rz_av hp' a = some (0, 430, upd (upd (upd f (184 + 6 * i + 4) p) (184 + 6 * i + 5) (nI S)) 6 (nI (S + 1))) → rz_sm a (a + 1) hp hp' → R none hp') : rz_ev (d + 1) 132 0 [some (.ref a), some (.int (nI i)), some (.int p)] [] hp R := by
  simp only [↓ri_132_0, ↓ri_132_1, ↓ri_132_2, ↓ri_132_3, ↓ri_132_4, Option.some.injEq, Prod.mk.injEq, exists_eq_left', exists_eq', exists_and_left, exists_and_right, true_and, and_true, true_or, or_true, and_self, and_assoc, Option.toList_some, Option.toList_none, List.cons_append, List.nil_append, ↓reduceIte, rz_x01, rz_x10]
  refine m_M_puts (d := d) (w := 4) (x := 4) ha hi (by decide) rfl (fun h1 a1 s1 => ?_)
  have e6 : upd f (184 + 6 * i + 4) p 6 = nI S := by rw [pk_un (by omega), h6]
  simp only [↓ri_132_7, ↓ri_132_8, ↓ri_132_9, ↓ri_132_10, ↓ri_132_11, ↓ri_132_13, ↓ri_132_14, Option.some.injEq, Prod.mk.injEq, exists_eq_left', exists_eq', exists_and_left, exists_and_right, true_and, and_true, true_or, or_true, and_self, and_assoc, Option.toList_some, Option.toList_none, List.cons_append, List.nil_append, ↓reduceIte, rz_x01, rz_x10, a1, rz_v6, rz_k6, e6]
  refine m_M_puts (d := d) (w := 5) (x := 5) a1 hi (by decide) rfl (fun h2 a2 s2 => ?_)
  have e7 : upd (upd f (184 + 6 * i + 4) p) (184 + 6 * i + 5) (nI S) 6 = nI S := by rw [pk_un (by omega), e6]
  simp only [↓ri_132_17, ↓ri_132_18, ↓ri_132_20, ↓ri_132_21, ↓ri_132_22, ↓ri_132_23, ↓ri_132_24, ↓ri_132_25, Option.some.injEq, Prod.mk.injEq, exists_eq_left', exists_eq', exists_and_left, exists_and_right, true_and, and_true, true_or, or_true, and_self, and_assoc, Option.toList_some, Option.toList_none, List.cons_append, List.nil_append, ↓reduceIte, rz_x01, rz_x10, a2, rz_v6, rz_k6, e7, nI_1]
  exact kk _ (by simp only [rz_fv_pf, rz_av_pf, rz_qv_pf, rz_ln_pf, rz_co_pf, rz_fv_pa, rz_av_pa, rz_qv_pa, rz_ln_pa, rz_co_pa, rz_fv_pq, rz_av_pq, rz_qv_pq, rz_ln_pq, rz_co_pq, Nat.reduceEqDiff, Nat.add_eq_left, Nat.left_eq_add, Nat.one_ne_zero, Option.map_some, exists_const, Option.some.injEq, Prod.mk.injEq, exists_eq_left', exists_eq', exists_and_left, exists_and_right, true_and, and_true, true_or, or_true, and_self, and_assoc, Option.toList_some, Option.toList_none, List.cons_append, List.nil_append, ↓reduceIte, rz_x01, rz_x10, a2]) ((s1.tr s2).tr (rz_sm_pa (by omega) (by omega)))
set_option maxHeartbeats 4000000 in
set_option maxRecDepth 100000 in
theorem m_M_moves {i S b c : Nat} {z : rz_Zt} (ha : rz_av hp a = some (0, 430, f)) (hZ : rz_ZS f Z) (hz : Z[i]? = some z) (h6 : f 6 = nI S) (hS : S < 2 ^ 30) (hk : z.1.2.1 = nI b) (hf : f 0 = nI c) (hb : b < 65536) (hc : c < 65536) (kk : ∀ hp' f', rz_av hp' a = some (0, 430, f') → rz_ZS f' (Z.set i ((z.1.1, z.1.2.1, z.1.2.2.1, z.1.2.2.2.1 + 1, rz_pl (f 0) z.1.2.1), S)) → rz_hd f' (upd (upd f 6 (nI (S + 1))) 4 (f 4 + 1)) → rz_sm a (a + 1) hp hp' → R none hp') : rz_ev (d + 2) 133 0 [some (.ref a), some (.int (nI i))] [] hp R := by
  have hil : i < Z.length := (List.getElem?_eq_some_iff.mp hz).1
  have hi : i < 41 := Nat.lt_of_lt_of_le hil hZ.1
  obtain ⟨g0, g1, g2, g3, g4, g5, g6⟩ := hZ.2.2 i z hz
  have o1 := fun R => m_M_of (d := d + 1) (i := i) (w := 1) (x := 1) ha (by omega) (by decide) rfl (R := R)
  rw [g1] at o1
  have op := fun R => m_M_pileFor (d := d + 1) ha (f := f) rfl hk hf hb hc (R := R)
  simp only [↓ri_133_0, ↓ri_133_1, ↓ri_133_2, ↓ri_133_3, ↓ri_133_4, ↓ri_133_5, ↓ri_133_6, ↓ri_133_9, ↓ri_133_12, Option.some.injEq, Prod.mk.injEq, exists_eq_left', exists_eq', exists_and_left, exists_and_right, true_and, and_true, true_or, or_true, and_self, and_assoc, Option.toList_some, Option.toList_none, List.cons_append, List.nil_append, ↓reduceIte, rz_x01, rz_x10, o1, op]
  refine m_M_stands (d := d) ha hi h6 (fun h1 a1 s1 => ?_)
  have e3 : upd (upd (upd f (184 + 6 * i + 4) (rz_pl (f 0) z.1.2.1)) (184 + 6 * i + 5) (nI S)) 6 (nI (S + 1)) (184 + 6 * i + 3) = z.1.2.2.2.1 := by rw [pk_un (by omega), pk_un (by omega), pk_un (by omega), g3]
  have o3 := fun R => m_M_of (d := d + 1) (i := i) (w := 3) (x := 3) a1 (by omega) (by decide) rfl (R := R)
  rw [e3] at o3
  simp only [↓ri_133_15, ↓ri_133_16, ↓ri_133_17, ↓ri_133_18, ↓ri_133_19, ↓ri_133_20, ↓ri_133_21, ↓ri_133_24, ↓ri_133_25, ↓ri_133_26, Option.some.injEq, Prod.mk.injEq, exists_eq_left', exists_eq', exists_and_left, exists_and_right, true_and, and_true, true_or, or_true, and_self, and_assoc, Option.toList_some, Option.toList_none, List.cons_append, List.nil_append, ↓reduceIte, rz_x01, rz_x10, o3]
  refine m_M_puts (d := d + 1) (w := 3) (x := 3) a1 hi (by decide) rfl (fun h2 a2 s2 => ?_)
  have e4 : upd (upd (upd (upd f (184 + 6 * i + 4) (rz_pl (f 0) z.1.2.1)) (184 + 6 * i + 5) (nI S)) 6 (nI (S + 1))) (184 + 6 * i + 3) (z.1.2.2.2.1 + 1) 4 = f 4 := by rw [pk_un (by omega), pk_un (by omega), pk_un (by omega), pk_un (by omega)]
  simp only [↓ri_133_29, ↓ri_133_30, ↓ri_133_31, ↓ri_133_32, ↓ri_133_33, ↓ri_133_34, ↓ri_133_35, ↓ri_133_36, Option.some.injEq, Prod.mk.injEq, exists_eq_left', exists_eq', exists_and_left, exists_and_right, true_and, and_true, true_or, or_true, and_self, and_assoc, Option.toList_some, Option.toList_none, List.cons_append, List.nil_append, ↓reduceIte, rz_x01, rz_x10, a2, rz_v4, rz_k4, e4]
  refine kk _ _ (rz_avS a2) ?_ ?_ ((s1.tr s2).tr (rz_sm_pa (by omega) (by omega)))
  · refine rz_ZS_set hZ ?_ (fun j hj hj2 => ?_) ⟨?_, ?_, ?_, ?_, ?_, ?_, hS⟩
    · rw [pk_un (by omega), pk_un (by omega), pk_un (by omega), pk_un (by omega), pk_un (by omega)]
    · rw [pk_un (by omega), pk_un (by omega), pk_un (by omega), pk_un (by omega), pk_un (by omega)]
    · rw [pk_un (by omega), pk_un (by omega), pk_un (by omega), pk_un (by omega), pk_un (by omega), g0]
    · rw [pk_un (by omega), pk_un (by omega), pk_un (by omega), pk_un (by omega), pk_un (by omega), g1]
    · rw [pk_un (by omega), pk_un (by omega), pk_un (by omega), pk_un (by omega), pk_un (by omega), g2]
    · rw [pk_un (by omega), pk_us]
    · rw [pk_un (by omega), pk_un (by omega), pk_un (by omega), pk_un (by omega), pk_us]
    · rw [pk_un (by omega), pk_un (by omega), pk_un (by omega), pk_us]
  · intro j hj hj1
    by_cases j4 : j = 4
    · subst j4; rw [pk_us, pk_us]
    · rw [pk_un (by omega), pk_un (by omega), pk_un (k := 4) (by omega)]
      by_cases j6 : j = 6
      · subst j6; rw [pk_us, pk_us]
      · rw [pk_un (by omega), pk_un (by omega), pk_un (by omega), pk_un (by omega)]
set_option maxHeartbeats 4000000 in
set_option maxRecDepth 100000 in
theorem m_M_comesIn {S b c : Nat} {val : Int32} (ha : rz_av hp a = some (0, 430, f)) (hZ : rz_ZS f Z) (hl : Z.length ≤ 40) (h6 : f 6 = nI S) (hS : S < 2 ^ 30) (hf : f 0 = nI c) (hb : b < 65536) (hc : c < 65536) (kk : ∀ hp' f', rz_av hp' a = some (0, 430, f') → rz_ZS f' (Z ++ [((f 2, nI b, val, 0, rz_pl (f 0) (nI b)), S)]) → rz_hd f' (upd (upd f 6 (nI (S + 1))) 2 (f 2 + 1)) → rz_sm a (a + 1) hp hp' → R (some (.int (f 2))) hp') : rz_ev (d + 2) 134 0 [some (.ref a), some (.int (nI b)), some (.int val), none, none] [] hp R := by
  have hi : Z.length < 41 := by omega
  have h1 := hZ.2.1
  simp only [↓ri_134_0, ↓ri_134_1, ↓ri_134_2, ↓ri_134_3, ↓ri_134_4, ↓ri_134_5, ↓ri_134_6, ↓ri_134_7, ↓ri_134_9, ↓ri_134_10, ↓ri_134_11, ↓ri_134_12, ↓ri_134_14, Option.some.injEq, Prod.mk.injEq, exists_eq_left', exists_eq', exists_and_left, exists_and_right, true_and, and_true, true_or, or_true, and_self, and_assoc, Option.toList_some, Option.toList_none, List.cons_append, List.nil_append, ↓reduceIte, rz_x01, rz_x10, ha, rz_v1, rz_k1, rz_v2, rz_k2, h1]
  refine m_M_puts (d := d + 1) (w := 0) (x := 0) ha hi (by decide) rfl (fun h1 a1 s1 => ?_)
  simp only [↓ri_134_17, ↓ri_134_18, ↓ri_134_19, ↓ri_134_20, ↓ri_134_21, Option.some.injEq, Prod.mk.injEq, exists_eq_left', exists_eq', exists_and_left, exists_and_right, true_and, and_true, true_or, or_true, and_self, and_assoc, Option.toList_some, Option.toList_none, List.cons_append, List.nil_append, ↓reduceIte, rz_x01, rz_x10]
  refine m_M_puts (d := d + 1) (w := 1) (x := 1) a1 hi (by decide) rfl (fun h2 a2 s2 => ?_)
  simp only [↓ri_134_24, ↓ri_134_25, ↓ri_134_26, ↓ri_134_27, ↓ri_134_28, Option.some.injEq, Prod.mk.injEq, exists_eq_left', exists_eq', exists_and_left, exists_and_right, true_and, and_true, true_or, or_true, and_self, and_assoc, Option.toList_some, Option.toList_none, List.cons_append, List.nil_append, ↓reduceIte, rz_x01, rz_x10]
  refine m_M_puts (d := d + 1) (w := 2) (x := 2) a2 hi (by decide) rfl (fun h3 a3 s3 => ?_)
  simp only [↓ri_134_31, ↓ri_134_32, ↓ri_134_33, ↓ri_134_34, ↓ri_134_35, Option.some.injEq, Prod.mk.injEq, exists_eq_left', exists_eq', exists_and_left, exists_and_right, true_and, and_true, true_or, or_true, and_self, and_assoc, Option.toList_some, Option.toList_none, List.cons_append, List.nil_append, ↓reduceIte, rz_x01, rz_x10]
  refine m_M_puts (d := d + 1) (w := 3) (x := 3) a3 hi (by decide) rfl (fun h4 a4 s4 => ?_)
  have e0 : upd (upd (upd (upd f (184 + 6 * Z.length + 0) (f 2)) (184 + 6 * Z.length + 1) (nI b)) (184 + 6 * Z.length + 2) val) (184 + 6 * Z.length + 3) 0 0 = f 0 := by rw [pk_un (by omega), pk_un (by omega), pk_un (by omega), pk_un (by omega)]
  have op := fun R => m_M_pileFor (d := d + 1) a4 e0 (b := b) rfl hf hb hc (R := R)
  simp only [↓ri_134_38, ↓ri_134_39, ↓ri_134_40, ↓ri_134_41, ↓ri_134_42, ↓ri_134_45, Option.some.injEq, Prod.mk.injEq, exists_eq_left', exists_eq', exists_and_left, exists_and_right, true_and, and_true, true_or, or_true, and_self, and_assoc, Option.toList_some, Option.toList_none, List.cons_append, List.nil_append, ↓reduceIte, rz_x01, rz_x10, op]
  refine m_M_stands (d := d) (S := S) a4 hi (by rw [pk_un (by omega), pk_un (by omega), pk_un (by omega), pk_un (by omega), h6]) (fun h5 a5 s5 => ?_)
  have e1 : upd (upd (upd (upd (upd (upd (upd f (184 + 6 * Z.length + 0) (f 2)) (184 + 6 * Z.length + 1) (nI b)) (184 + 6 * Z.length + 2) val) (184 + 6 * Z.length + 3) 0) (184 + 6 * Z.length + 4) (rz_pl (f 0) (nI b))) (184 + 6 * Z.length + 5) (nI S)) 6 (nI (S + 1)) 1 = nI Z.length := by rw [pk_un (by omega), pk_un (by omega), pk_un (by omega), pk_un (by omega), pk_un (by omega), pk_un (by omega), pk_un (by omega), hZ.2.1]
  have e2 : upd (upd (upd (upd (upd (upd (upd (upd f (184 + 6 * Z.length + 0) (f 2)) (184 + 6 * Z.length + 1) (nI b)) (184 + 6 * Z.length + 2) val) (184 + 6 * Z.length + 3) 0) (184 + 6 * Z.length + 4) (rz_pl (f 0) (nI b))) (184 + 6 * Z.length + 5) (nI S)) 6 (nI (S + 1))) 1 (nI (Z.length + 1)) 2 = f 2 := by rw [pk_un (by omega), pk_un (by omega), pk_un (by omega), pk_un (by omega), pk_un (by omega), pk_un (by omega), pk_un (by omega), pk_un (by omega)]
  have hav : ∀ g, rz_av (rz_pa h5 a g) a = some (0, 430, g) := fun g => by simp only [rz_fv_pf, rz_av_pf, rz_qv_pf, rz_ln_pf, rz_co_pf, rz_fv_pa, rz_av_pa, rz_qv_pa, rz_ln_pa, rz_co_pa, rz_fv_pq, rz_av_pq, rz_qv_pq, rz_ln_pq, rz_co_pq, Nat.reduceEqDiff, Nat.add_eq_left, Nat.left_eq_add, Nat.one_ne_zero, Option.map_some, exists_const, Option.some.injEq, Prod.mk.injEq, exists_eq_left', exists_eq', exists_and_left, exists_and_right, true_and, and_true, true_or, or_true, and_self, and_assoc, Option.toList_some, Option.toList_none, List.cons_append, List.nil_append, ↓reduceIte, rz_x01, rz_x10, a5]
  simp only [↓ri_134_48, ↓ri_134_49, ↓ri_134_50, ↓ri_134_51, ↓ri_134_52, ↓ri_134_53, ↓ri_134_54, ↓ri_134_55, ↓ri_134_56, ↓ri_134_57, ↓ri_134_58, ↓ri_134_59, ↓ri_134_60, ↓ri_134_61, ↓ri_134_62, ↓ri_134_64, Option.some.injEq, Prod.mk.injEq, exists_eq_left', exists_eq', exists_and_left, exists_and_right, true_and, and_true, true_or, or_true, and_self, and_assoc, Option.toList_some, Option.toList_none, List.cons_append, List.nil_append, ↓reduceIte, rz_x01, rz_x10, a5, hav, rz_v1, rz_k1, rz_v2, rz_k2, e1, e2, nI_1]
  refine kk _ _ (rz_avS (rz_avS a5)) ?_ ?_ ((((((s1.tr s2).tr s3).tr s4).tr s5).tr (rz_sm_pa (by omega) (by omega))).tr (rz_sm_pa (by omega) (by omega)))
  · refine rz_ZS_app hZ hl ?_ (fun j hj hj2 => ?_) ⟨?_, ?_, ?_, ?_, ?_, ?_, hS⟩
    · rw [pk_un (by omega), pk_us]
    · rw [pk_un (by omega), pk_un (by omega), pk_un (by omega), pk_un (by omega), pk_un (by omega), pk_un (by omega), pk_un (by omega), pk_un (by omega), pk_un (by omega)]
    · rw [pk_un (by omega), pk_un (by omega), pk_un (by omega), pk_un (by omega), pk_un (by omega), pk_un (by omega), pk_un (by omega), pk_un (by omega), Nat.add_zero, pk_us]
    · rw [pk_un (by omega), pk_un (by omega), pk_un (by omega), pk_un (by omega), pk_un (by omega), pk_un (by omega), pk_un (by omega), pk_us]
    · rw [pk_un (by omega), pk_un (by omega), pk_un (by omega), pk_un (by omega), pk_un (by omega), pk_un (by omega), pk_us]
    · rw [pk_un (by omega), pk_un (by omega), pk_un (by omega), pk_un (by omega), pk_un (by omega), pk_us]
    · rw [pk_un (by omega), pk_un (by omega), pk_un (by omega), pk_un (by omega), pk_us]
    · rw [pk_un (by omega), pk_un (by omega), pk_un (by omega), pk_us]
  · intro j hj hj1
    by_cases j2 : j = 2
    · subst j2; rw [pk_us, pk_us]
    · rw [pk_un (by omega), pk_un (by omega), pk_un (k := 2) (by omega)]
      by_cases j6 : j = 6
      · subst j6; rw [pk_us, pk_us]
      · rw [pk_un (by omega), pk_un (by omega), pk_un (by omega), pk_un (by omega), pk_un (by omega), pk_un (by omega), pk_un (by omega), pk_un (by omega)]
end RZM3
