/-! RisingPilesModel: texts -/
def rz_nO : Option Nat → Int32
  | none => -5
  | some n => nI n
theorem rz_ne5 {n : Nat} (h : n < 2 ^ 31) : ¬ nI n = -5 := fun q => nI_pos h (by rw [q]; decide)
section RZMC
variable {d a m lo hi n : Nat} {f f2 g : Nat → Int32} {hp h1 : rz_Hp} {R : Option Value → rz_Hp → Prop} {s s2 x : rz_AS} {hist : List rz_AS} {shot : Option rz_AS} {tx : List Int32} {ro re sp sv sh le od : Int32} {os : List rz_Or} {B B2 : Nat} {Z : List rz_Zt} {L : List rz_En} {fl am : Int32} {lat : List rz_La} {rd : Nat → Int32} {laid ci co tb : Int32}
theorem rz_MM.spot {sp2 : Int32} (h : rz_MM m s hist shot tx ro re sp os B hp) : rz_MM m s hist shot tx ro re sp2 os B (rz_pf hp m 11 (.int sp2)) := by
  obtain ⟨h0, h1, h2, h3, h4, h5, h6, h7, h8⟩ := h
  have q : rz_sm m (m + 1) hp (rz_pf hp m 11 (.int sp2)) := rz_sm_pf (by omega) (by omega)
  obtain ⟨g0, g1, g2, g3, g4, g5, g6, g7, g8, g9, g10, g11, g12, g13, g14⟩ := h0
  refine ⟨?_, h1.sm q (by omega), h2.sm q (by omega), h3.sm q (by omega), h4.sm q (by omega), h5.sm q (by omega), h6.sm q (by omega), h7.sm q (by omega), h8.sm q (by omega)⟩
  simp only [rz_MF, rz_fv_pf, rz_av_pf, rz_qv_pf, rz_ln_pf, rz_co_pf, rz_fv_pa, rz_av_pa, rz_qv_pa, rz_ln_pa, rz_co_pa, rz_fv_pq, rz_av_pq, rz_qv_pq, rz_ln_pq, rz_co_pq, Nat.reduceEqDiff, Nat.add_eq_left, Nat.left_eq_add, Nat.one_ne_zero, Option.map_some, exists_const, Option.some.injEq, Prod.mk.injEq, exists_eq_left', exists_eq', exists_and_left, exists_and_right, true_and, and_true, true_or, or_true, and_self, and_assoc, Option.toList_some, Option.toList_none, List.cons_append, List.nil_append, ↓reduceIte, rz_x01, rz_x10, g0, g1, g2, g3, g4, g5, g6, g7, g8, g9, g10, g11, g12, g13, g14]
theorem rz_avS6 {b n k : Nat} {hp : rz_Hp} {f g : Nat → Int32} (h : rz_av hp b = some (k, n, f)) : rz_av (rz_pa hp b g) b = some (k, n, g) := by rw [rz_av_pa, if_pos rfl, h]; rfl
set_option maxHeartbeats 4000000 in
set_option maxRecDepth 100000 in
theorem m_M_type {c : Int32} (hc : vp_nar .char c = c) (h : rz_MM m s hist shot tx ro re sp os B hp) (kk : ∀ hp', rz_MM m s hist shot (rz_type_ tx c).2 ro re sp os B hp' → rz_sm m (m + 9) hp hp' → R (some (.int (rz_type_ tx c).1)) hp') : rz_ev d 155 0 [some (.ref m), some (.int c)] [] hp R := by
  obtain ⟨p0, p1, p2, p3, p4, p5, p6, p7, p8⟩ := id h
  obtain ⟨h60, f, a6, hf⟩ := p6
  obtain ⟨f0, f1, f2, f3, f4, f5, f6, f7, f8, f9, f10, f11, f12, f13, f14⟩ := id p0
  unfold rz_type_ at kk
  by_cases h1 : tx.length < 60
  · simp only [if_pos h1] at kk
    have c1 : ¬ nI tx.length = 60 := fun q => absurd ((nI_eq (b := 60) (by omega) (by decide)).mp q) (by omega)
    have hv : vp_in (nI tx.length) 60 := vp_in_nI h1 (by decide)
    simp only [↓ri_155_0, ↓ri_155_1, ↓ri_155_4, ↓ri_155_6, ↓ri_155_9, ↓ri_155_11, ↓ri_155_12, ↓ri_155_13, ↓ri_155_16, ↓ri_155_17, ↓ri_155_20, ↓ri_155_21, ↓ri_155_22, ↓ri_155_23, ↓ri_155_24, ↓ri_155_27, ↓ri_155_28, ↓ri_155_29, ↓ri_155_32, ↓ri_155_33, ↓ri_155_36, Option.some.injEq, Prod.mk.injEq, exists_eq_left', exists_eq', exists_and_left, exists_and_right, true_and, and_true, true_or, or_true, and_self, and_assoc, Option.toList_some, Option.toList_none, List.cons_append, List.nil_append, ↓reduceIte, rz_x01, rz_x10, rz_fv_pf, rz_av_pf, rz_qv_pf, rz_ln_pf, rz_co_pf, rz_fv_pa, rz_av_pa, rz_qv_pa, rz_ln_pa, rz_co_pa, rz_fv_pq, rz_av_pq, rz_qv_pq, rz_ln_pq, rz_co_pq, Nat.reduceEqDiff, Nat.add_eq_left, Nat.left_eq_add, Nat.one_ne_zero, Option.map_some, exists_const, f7, f8, a6, ↓if_neg c1, hv, nI_clamp (show tx.length < 2 ^ 31 by omega), hc, nI_1]
    have s1 : rz_sm (m + 6) (m + 7) hp (rz_pa hp (m + 6) (upd f tx.length c)) := rz_sm_pa (by omega) (by omega)
    have s2 : rz_sm m (m + 1) (rz_pa hp (m + 6) (upd f tx.length c)) (rz_pf (rz_pa hp (m + 6) (upd f tx.length c)) m 8 (.int (nI (tx.length + 1)))) := rz_sm_pf (by omega) (by omega)
    refine kk _ ⟨?_, (p1.sm s1 (by omega)).sm s2 (by omega), (p2.sm s1 (by omega)).sm s2 (by omega), (p3.sm s1 (by omega)).sm s2 (by omega), (p4.sm s1 (by omega)).sm s2 (by omega), (p5.sm s1 (by omega)).sm s2 (by omega), ⟨by rw [List.length_append, List.length_singleton]; omega, upd f tx.length c, by rw [s2.av (by omega)]; exact rz_avS6 a6, fun i x hx => ?_⟩, (p7.sm s1 (by omega)).sm s2 (by omega), (p8.sm s1 (by omega)).sm s2 (by omega)⟩ ((s1.wd (by omega) (by omega)).tr (s2.wd (by omega) (by omega)))
    · simp only [rz_MF, rz_fv_pf, rz_av_pf, rz_qv_pf, rz_ln_pf, rz_co_pf, rz_fv_pa, rz_av_pa, rz_qv_pa, rz_ln_pa, rz_co_pa, rz_fv_pq, rz_av_pq, rz_qv_pq, rz_ln_pq, rz_co_pq, Nat.reduceEqDiff, Nat.add_eq_left, Nat.left_eq_add, Nat.one_ne_zero, Option.map_some, exists_const, Option.some.injEq, Prod.mk.injEq, exists_eq_left', exists_eq', exists_and_left, exists_and_right, true_and, and_true, true_or, or_true, and_self, and_assoc, Option.toList_some, Option.toList_none, List.cons_append, List.nil_append, ↓reduceIte, rz_x01, rz_x10, f0, f1, f2, f3, f4, f5, f6, f7, f8, f9, f10, f11, f12, f13, f14, List.length_append, List.length_singleton]
    · by_cases hi : i < tx.length
      · rw [List.getElem?_append_left hi] at hx
        rw [pk_un (by omega)]
        exact hf i x hx
      · have hl := (List.getElem?_eq_some_iff.mp hx).1
        rw [List.length_append, List.length_singleton] at hl
        have hi2 : i = tx.length := by omega
        subst hi2
        rw [List.getElem?_append_right (Nat.le_refl _), Nat.sub_self] at hx
        cases hx
        exact pk_us
  · simp only [if_neg h1] at kk
    have c1 : nI tx.length = 60 := by rw [show tx.length = 60 by omega]; rfl
    simp only [↓ri_155_0, ↓ri_155_1, ↓ri_155_4, ↓ri_155_6, ↓ri_155_9, ↓ri_155_11, ↓ri_155_12, ↓ri_155_13, ↓ri_155_16, ↓ri_155_17, ↓ri_155_20, ↓ri_155_21, ↓ri_155_22, ↓ri_155_23, ↓ri_155_24, ↓ri_155_27, ↓ri_155_28, ↓ri_155_29, ↓ri_155_32, ↓ri_155_33, ↓ri_155_36, Option.some.injEq, Prod.mk.injEq, exists_eq_left', exists_eq', exists_and_left, exists_and_right, true_and, and_true, true_or, or_true, and_self, and_assoc, Option.toList_some, Option.toList_none, List.cons_append, List.nil_append, ↓reduceIte, rz_x01, rz_x10, f8, ↓if_pos c1]
    exact kk _ h rz_sm.rf
set_option maxHeartbeats 4000000 in
set_option maxRecDepth 100000 in
theorem m_M_clearText (h : rz_MM m s hist shot tx ro re sp os B hp) (kk : ∀ hp', rz_MM m s hist shot [] ro re sp os B hp' → rz_sm m (m + 9) hp hp' → R (some (.int (nI tx.length))) hp') : rz_ev d 156 0 [some (.ref m), none] [] hp R := by
  obtain ⟨p0, p1, p2, p3, p4, p5, p6, p7, p8⟩ := id h
  obtain ⟨h60, f, a6, hf⟩ := p6
  obtain ⟨f0, f1, f2, f3, f4, f5, f6, f7, f8, f9, f10, f11, f12, f13, f14⟩ := id p0
  simp only [↓ri_156_0, ↓ri_156_1, ↓ri_156_4, ↓ri_156_5, ↓ri_156_6, ↓ri_156_7, ↓ri_156_10, ↓ri_156_11, Option.some.injEq, Prod.mk.injEq, exists_eq_left', exists_eq', exists_and_left, exists_and_right, true_and, and_true, true_or, or_true, and_self, and_assoc, Option.toList_some, Option.toList_none, List.cons_append, List.nil_append, ↓reduceIte, rz_x01, rz_x10, rz_fv_pf, rz_av_pf, rz_qv_pf, rz_ln_pf, rz_co_pf, rz_fv_pa, rz_av_pa, rz_qv_pa, rz_ln_pa, rz_co_pa, rz_fv_pq, rz_av_pq, rz_qv_pq, rz_ln_pq, rz_co_pq, Nat.reduceEqDiff, Nat.add_eq_left, Nat.left_eq_add, Nat.one_ne_zero, Option.map_some, exists_const, f8]
  have s2 : rz_sm m (m + 1) hp (rz_pf hp m 8 (.int 0)) := rz_sm_pf (by omega) (by omega)
  refine kk _ ⟨?_, p1.sm s2 (by omega), p2.sm s2 (by omega), p3.sm s2 (by omega), p4.sm s2 (by omega), p5.sm s2 (by omega), ⟨by decide, f, by rw [s2.av (by omega)]; exact a6, fun i x hx => by simp at hx⟩, p7.sm s2 (by omega), p8.sm s2 (by omega)⟩ (s2.wd (by omega) (by omega))
  simp only [rz_MF, rz_fv_pf, rz_av_pf, rz_qv_pf, rz_ln_pf, rz_co_pf, rz_fv_pa, rz_av_pa, rz_qv_pa, rz_ln_pa, rz_co_pa, rz_fv_pq, rz_av_pq, rz_qv_pq, rz_ln_pq, rz_co_pq, Nat.reduceEqDiff, Nat.add_eq_left, Nat.left_eq_add, Nat.one_ne_zero, Option.map_some, exists_const, Option.some.injEq, Prod.mk.injEq, exists_eq_left', exists_eq', exists_and_left, exists_and_right, true_and, and_true, true_or, or_true, and_self, and_assoc, Option.toList_some, Option.toList_none, List.cons_append, List.nil_append, ↓reduceIte, rz_x01, rz_x10, f0, f1, f2, f3, f4, f5, f6, f7, f8, f9, f10, f11, f12, f13, f14, List.length_nil, nI_0]
set_option maxHeartbeats 4000000 in
set_option maxRecDepth 100000 in
theorem m_M_sees {i : Nat} {l0 u0 : Int32} (h : rz_MM m s hist shot tx ro re (nI i) os B hp) (hi : i < 2 ^ 31) (hl0 : 0 ≤ l0) : (l0 ≤ rz_sg tx i ∧ rz_sg tx i ≤ u0 → (rz_ev (d + 1) 157 0 [some (.ref m), some (.int l0), some (.int u0)] [] hp R ↔ R (some (.int 1)) hp)) ∧ (¬ (l0 ≤ rz_sg tx i ∧ rz_sg tx i ≤ u0) → (rz_ev (d + 1) 157 0 [some (.ref m), some (.int l0), some (.int u0)] [] hp R ↔ R (some (.int 0)) hp)) := by
  obtain ⟨⟨f0, f1, f2, f3, f4, f5, f6, f7, f8, f9, f10, f11, f12, f13, f14⟩, p1, p2, p3, p4, p5, ⟨h60, f, a6, hf⟩, p7, p8⟩ := id h
  have z10 : ¬ (1 : Int32) = 0 := by decide
  by_cases h1 : i < tx.length
  · have c1 : ¬ nI tx.length ≤ nI i := nI_ge h1 (by omega)
    have hv : vp_in (nI i) 60 := vp_in_nI (by omega) (by decide)
    have e1 : f i = rz_sg tx i := by
      unfold rz_sg
      rw [List.getD_eq_getElem?_getD, List.getElem?_eq_getElem h1]
      exact hf i _ (List.getElem?_eq_getElem h1)
    refine ⟨fun q => ?_, fun q => ?_⟩
    · have oi := fun R => (m_M_in (d := d) (hp := hp) (R := R)).1 q
      simp only [↓ri_157_0, ↓ri_157_1, ↓ri_157_4, ↓ri_157_5, ↓ri_157_8, ↓ri_157_11, ↓ri_157_12, ↓ri_157_15, ↓ri_157_16, ↓ri_157_19, ↓ri_157_20, ↓ri_157_21, ↓ri_157_22, ↓ri_157_25, ↓ri_157_28, ↓ri_157_29, ↓ri_157_32, ↓ri_157_33, Option.some.injEq, Prod.mk.injEq, exists_eq_left', exists_eq', exists_and_left, exists_and_right, true_and, and_true, true_or, or_true, and_self, and_assoc, Option.toList_some, Option.toList_none, List.cons_append, List.nil_append, ↓reduceIte, rz_x01, rz_x10, f7, f8, f11, a6, ↓if_neg c1, hv, nI_clamp hi, e1, oi, ↓if_neg z10]
    · have oi := fun R => (m_M_in (d := d) (hp := hp) (R := R)).2 q
      simp only [↓ri_157_0, ↓ri_157_1, ↓ri_157_4, ↓ri_157_5, ↓ri_157_8, ↓ri_157_11, ↓ri_157_12, ↓ri_157_15, ↓ri_157_16, ↓ri_157_19, ↓ri_157_20, ↓ri_157_21, ↓ri_157_22, ↓ri_157_25, ↓ri_157_28, ↓ri_157_29, ↓ri_157_32, ↓ri_157_33, Option.some.injEq, Prod.mk.injEq, exists_eq_left', exists_eq', exists_and_left, exists_and_right, true_and, and_true, true_or, or_true, and_self, and_assoc, Option.toList_some, Option.toList_none, List.cons_append, List.nil_append, ↓reduceIte, rz_x01, rz_x10, f7, f8, f11, a6, ↓if_neg c1, hv, nI_clamp hi, e1, oi]
  · have c1 : nI tx.length ≤ nI i := nI_le (by omega) hi
    have e1 : rz_sg tx i = -1 := by unfold rz_sg; rw [List.getD_eq_getElem?_getD, List.getElem?_eq_none (by omega)]; rfl
    refine ⟨fun q => ?_, fun q => ?_⟩
    · rw [e1] at q
      exact absurd (Int32.le_trans hl0 q.1) (by decide)
    · simp only [↓ri_157_0, ↓ri_157_1, ↓ri_157_4, ↓ri_157_5, ↓ri_157_8, ↓ri_157_11, ↓ri_157_12, ↓ri_157_15, ↓ri_157_16, ↓ri_157_19, ↓ri_157_20, ↓ri_157_21, ↓ri_157_22, ↓ri_157_25, ↓ri_157_28, ↓ri_157_29, ↓ri_157_32, ↓ri_157_33, Option.some.injEq, Prod.mk.injEq, exists_eq_left', exists_eq', exists_and_left, exists_and_right, true_and, and_true, true_or, or_true, and_self, and_assoc, Option.toList_some, Option.toList_none, List.cons_append, List.nil_append, ↓reduceIte, rz_x01, rz_x10, f8, f11, ↓if_pos c1]
set_option maxHeartbeats 4000000 in
set_option maxRecDepth 100000 in
theorem m_M_takes {i : Nat} {c : Int32} (h : rz_MM m s hist shot tx ro re (nI i) os B hp) (hi : i < 2 ^ 31) (hc : 0 ≤ c) (kk1 : rz_sg tx i = c → ∀ hp', rz_MM m s hist shot tx ro re (nI (i + 1)) os B hp' → rz_sm m (m + 9) hp hp' → R (some (.int 1)) hp') (kk0 : ¬ rz_sg tx i = c → ∀ hp', rz_MM m s hist shot tx ro re (nI i) os B hp' → rz_sm m (m + 9) hp hp' → R (some (.int 0)) hp') : rz_ev (d + 2) 158 0 [some (.ref m), some (.int c), none] [] hp R := by
  obtain ⟨⟨f0, f1, f2, f3, f4, f5, f6, f7, f8, f9, f10, f11, f12, f13, f14⟩, -⟩ := id h
  have z10 : ¬ (1 : Int32) = 0 := by decide
  have sP : ∀ v : Int32, rz_sm m (m + 9) hp (rz_pf hp m 11 (.int v)) := fun v => rz_sm_pf (by omega) (by omega)
  by_cases hs : rz_sg tx i = c
  · have oi := fun R => (m_M_sees (d := d) (l0 := c) (u0 := c) (R := R) h hi hc).1 ⟨by rw [hs]; exact Int32.le_refl _, by rw [hs]; exact Int32.le_refl _⟩
    simp only [↓ri_158_0, ↓ri_158_1, ↓ri_158_2, ↓ri_158_3, ↓ri_158_6, ↓ri_158_7, ↓ri_158_8, ↓ri_158_9, ↓ri_158_12, ↓ri_158_13, ↓ri_158_16, ↓ri_158_17, ↓ri_158_20, ↓ri_158_21, ↓ri_158_22, ↓ri_158_25, ↓ri_158_26, Option.some.injEq, Prod.mk.injEq, exists_eq_left', exists_eq', exists_and_left, exists_and_right, true_and, and_true, true_or, or_true, and_self, and_assoc, Option.toList_some, Option.toList_none, List.cons_append, List.nil_append, ↓reduceIte, rz_x01, rz_x10, rz_co_fv f0, oi, f11, ↓if_neg z10, nI_1]
    exact kk1 hs _ h.spot (sP _)
  · have oi := fun R => (m_M_sees (d := d) (l0 := c) (u0 := c) (R := R) h hi hc).2 (fun q => hs (Int32.le_antisymm q.2 q.1))
    simp only [↓ri_158_0, ↓ri_158_1, ↓ri_158_2, ↓ri_158_3, ↓ri_158_6, ↓ri_158_7, ↓ri_158_8, ↓ri_158_9, ↓ri_158_12, ↓ri_158_13, ↓ri_158_16, ↓ri_158_17, ↓ri_158_20, ↓ri_158_21, ↓ri_158_22, ↓ri_158_25, ↓ri_158_26, Option.some.injEq, Prod.mk.injEq, exists_eq_left', exists_eq', exists_and_left, exists_and_right, true_and, and_true, true_or, or_true, and_self, and_assoc, Option.toList_some, Option.toList_none, List.cons_append, List.nil_append, ↓reduceIte, rz_x01, rz_x10, rz_co_fv f0, oi, f11, Int32.add_zero]
    exact kk0 hs _ h.spot (sP _)
set_option maxHeartbeats 4000000 in
set_option maxRecDepth 100000 in
theorem m_M_number_loop {most : Nat} (hm : most ≤ 65535) : ∀ (k i v : Nat) (hp1 : rz_Hp), tx.length ≤ i + k → i < 2 ^ 20 → v ≤ most → rz_MM m s hist shot tx ro re (nI i) os B hp1 → rz_sm m (m + 9) hp hp1 → (∀ hp', rz_MM m s hist shot tx ro re (nI (rz_rn tx most k (some v) i).2) os B hp' → rz_sm m (m + 9) hp hp' → R (some (.int (rz_nO (rz_rn tx most k (some v) i).1))) hp') → rz_ev (d + 2) 159 37 [some (.ref m), some (.int (nI most)), some (.int (nI v))] [] hp1 R := by
  intro k
  have z10 : ¬ (1 : Int32) = 0 := by decide
  induction k with
  | zero =>
    intro i v hp1 hl hi hv h hs kk
    have f0 := h.1.1
    by_cases hv0 : v = 0
    · subst hv0
      have c1 : nI 0 ≤ 0 := by decide
      rw [ri_159_37]
      simp only [↓ri_159_38, ↓ri_159_104, ↓ri_159_105, Option.some.injEq, Prod.mk.injEq, exists_eq_left', exists_eq', exists_and_left, exists_and_right, true_and, and_true, true_or, or_true, and_self, and_assoc, Option.toList_some, Option.toList_none, List.cons_append, List.nil_append, ↓reduceIte, rz_x01, rz_x10, ↓if_pos c1]
      exact kk hp1 h hs
    · have c1 : ¬ nI v ≤ 0 := nI_nle (by omega) (by omega)
      have e1 : rz_sg tx i = -1 := by unfold rz_sg; rw [List.getD_eq_getElem?_getD, List.getElem?_eq_none (by omega)]; rfl
      have oi := fun R => (m_M_sees (d := d) (l0 := 48) (u0 := 57) (R := R) h (by omega) (by decide)).2 (by rw [e1]; decide)
      rw [ri_159_37]
      simp only [↓ri_159_38, ↓ri_159_41, ↓ri_159_42, ↓ri_159_44, ↓ri_159_46, ↓ri_159_49, ↓ri_159_104, ↓ri_159_105, Option.some.injEq, Prod.mk.injEq, exists_eq_left', exists_eq', exists_and_left, exists_and_right, true_and, and_true, true_or, or_true, and_self, and_assoc, Option.toList_some, Option.toList_none, List.cons_append, List.nil_append, ↓reduceIte, rz_x01, rz_x10, ↓if_neg c1, rz_co_fv f0, oi]
      exact kk hp1 h hs
  | succ k ih =>
    intro i v hp1 hl hi hv h hs kk
    obtain ⟨⟨f0, f1, f2, f3, f4, f5, f6, f7, f8, f9, f10, f11, f12, f13, f14⟩, p1, p2, p3, p4, p5, ⟨h60, f, a6, hf⟩, p7, p8⟩ := id h
    by_cases hv0 : v = 0
    · subst hv0
      have c1 : nI 0 ≤ 0 := by decide
      rw [ri_159_37]
      simp only [↓ri_159_38, ↓ri_159_104, ↓ri_159_105, Option.some.injEq, Prod.mk.injEq, exists_eq_left', exists_eq', exists_and_left, exists_and_right, true_and, and_true, true_or, or_true, and_self, and_assoc, Option.toList_some, Option.toList_none, List.cons_append, List.nil_append, ↓reduceIte, rz_x01, rz_x10, ↓if_pos c1]
      have e0 : rz_rn tx most (k + 1) (some 0) i = (some 0, i) := by
        unfold rz_rn rz_wg
        rw [if_pos (Or.inr (Or.inr rfl))]
      rw [e0] at kk
      exact kk hp1 h hs
    · have c1 : ¬ nI v ≤ 0 := nI_nle (by omega) (by omega)
      by_cases hd : 48 ≤ rz_sg tx i ∧ rz_sg tx i ≤ 57
      · obtain ⟨w, hw, e1, e2⟩ := rz_dig (Int32.not_lt.mpr hd.1) (Int32.not_lt.mpr hd.2)
        have hil : i < tx.length := rz_sg_in (by rw [e2]; exact fun q => nI_pos (show w + 48 < 2 ^ 31 by omega) (by rw [q]; decide))
        have hvi : vp_in (nI i) 60 := vp_in_nI (by omega) (by decide)
        have e3 : f i = rz_sg tx i := by
          unfold rz_sg
          rw [List.getD_eq_getElem?_getD, List.getElem?_eq_getElem hil]
          exact hf i _ (List.getElem?_eq_getElem hil)
        have e4 : (10 : Int32) * nI v + rz_sg tx i - 48 = nI (10 * v + w) := by
          rw [e2, show (10 : Int32) = nI 10 from rfl, pk_mul, nI_add, show (48 : Int32) = nI 48 from rfl, pk_sub (by omega)]
          try congr 1
          try omega
        have hwg : rz_wg (some v) (rz_sg tx i) = some (10 * v + w) := by
          unfold rz_wg
          rw [if_neg (fun q => q.elim (Int32.not_lt.mpr hd.1) (fun q => q.elim (Int32.not_lt.mpr hd.2) (fun q => hv0 (Option.some.inj q)))), e1, nI_clamp (by omega)]
          rfl
        have oi := fun R => (m_M_sees (d := d) (l0 := 48) (u0 := 57) (R := R) h (by omega) (by decide)).1 hd
        by_cases hmw : most < 10 * v + w
        · have c2 : nI most < nI (10 * v + w) := nI_lt hmw (by omega)
          have e0 : rz_rn tx most (k + 1) (some v) i = (some v, i) := by unfold rz_rn; rw [hwg]; exact if_pos hmw
          rw [e0] at kk
          rw [ri_159_37]
          simp only [↓ri_159_38, ↓ri_159_41, ↓ri_159_42, ↓ri_159_44, ↓ri_159_46, ↓ri_159_49, ↓ri_159_52, ↓ri_159_54, ↓ri_159_55, ↓ri_159_56, ↓ri_159_57, ↓ri_159_60, ↓ri_159_61, ↓ri_159_64, ↓ri_159_65, ↓ri_159_66, ↓ri_159_68, ↓ri_159_69, ↓ri_159_70, ↓ri_159_104, ↓ri_159_105, Option.some.injEq, Prod.mk.injEq, exists_eq_left', exists_eq', exists_and_left, exists_and_right, true_and, and_true, true_or, or_true, and_self, and_assoc, Option.toList_some, Option.toList_none, List.cons_append, List.nil_append, ↓reduceIte, rz_x01, rz_x10, ↓if_neg c1, rz_co_fv f0, oi, ↓if_neg z10, f7, f11, a6, hvi, nI_clamp (show i < 2 ^ 31 by omega), e3, e4, ↓if_pos c2]
          exact kk hp1 h hs
        · have c2 : ¬ nI most < nI (10 * v + w) := nI_nlt (by omega) (by omega)
          have e0 : rz_rn tx most (k + 1) (some v) i = rz_rn tx most k (some (10 * v + w)) (i + 1) := by
            conv => lhs; unfold rz_rn
            rw [hwg]; exact if_neg hmw
          rw [e0] at kk
          rw [ri_159_37]
          simp only [↓ri_159_38, ↓ri_159_41, ↓ri_159_42, ↓ri_159_44, ↓ri_159_46, ↓ri_159_49, ↓ri_159_52, ↓ri_159_54, ↓ri_159_55, ↓ri_159_56, ↓ri_159_57, ↓ri_159_60, ↓ri_159_61, ↓ri_159_64, ↓ri_159_65, ↓ri_159_66, ↓ri_159_68, ↓ri_159_69, ↓ri_159_70, ↓ri_159_73, ↓ri_159_75, ↓ri_159_76, ↓ri_159_77, ↓ri_159_78, ↓ri_159_81, ↓ri_159_82, ↓ri_159_85, ↓ri_159_86, ↓ri_159_87, ↓ri_159_89, ↓ri_159_90, ↓ri_159_91, ↓ri_159_92, ↓ri_159_93, ↓ri_159_96, ↓ri_159_97, ↓ri_159_98, ↓ri_159_101, Option.some.injEq, Prod.mk.injEq, exists_eq_left', exists_eq', exists_and_left, exists_and_right, true_and, and_true, true_or, or_true, and_self, and_assoc, Option.toList_some, Option.toList_none, List.cons_append, List.nil_append, ↓reduceIte, rz_x01, rz_x10, ↓if_neg c1, rz_co_fv f0, oi, ↓if_neg z10, f7, f11, a6, hvi, nI_clamp (show i < 2 ^ 31 by omega), e3, e4, ↓if_neg c2, nI_1]
          exact ih (i + 1) (10 * v + w) _ (by omega) (by omega) (by omega) h.spot (hs.tr (rz_sm_pf (by omega) (by omega))) kk
      · have oi := fun R => (m_M_sees (d := d) (l0 := 48) (u0 := 57) (R := R) h (by omega) (by decide)).2 hd
        have hwg : rz_wg (some v) (rz_sg tx i) = none := by
          unfold rz_wg
          by_cases q : rz_sg tx i < 48
          · rw [if_pos (Or.inl q)]
          · rw [if_pos (Or.inr (Or.inl (Int32.not_le.mp (fun q2 => hd ⟨Int32.not_lt.mp q, q2⟩))))]
        have e0 : rz_rn tx most (k + 1) (some v) i = (some v, i) := by unfold rz_rn; rw [hwg]
        rw [e0] at kk
        rw [ri_159_37]
        simp only [↓ri_159_38, ↓ri_159_41, ↓ri_159_42, ↓ri_159_44, ↓ri_159_46, ↓ri_159_49, ↓ri_159_104, ↓ri_159_105, Option.some.injEq, Prod.mk.injEq, exists_eq_left', exists_eq', exists_and_left, exists_and_right, true_and, and_true, true_or, or_true, and_self, and_assoc, Option.toList_some, Option.toList_none, List.cons_append, List.nil_append, ↓reduceIte, rz_x01, rz_x10, ↓if_neg c1, rz_co_fv f0, oi]
        exact kk hp1 h hs
set_option maxHeartbeats 4000000 in
set_option maxRecDepth 100000 in
theorem m_M_number {most i : Nat} (hm : most ≤ 65535) (hm9 : 9 ≤ most) (hi : i < 2 ^ 20) (h : rz_MM m s hist shot tx ro re (nI i) os B hp) (kk : ∀ hp', rz_MM m s hist shot tx ro re (nI (rz_rn tx most 60 none i).2) os B hp' → rz_sm m (m + 9) hp hp' → R (some (.int (rz_nO (rz_rn tx most 60 none i).1))) hp') : rz_ev (d + 2) 159 0 [some (.ref m), some (.int (nI most)), none] [] hp R := by
  obtain ⟨⟨f0, f1, f2, f3, f4, f5, f6, f7, f8, f9, f10, f11, f12, f13, f14⟩, p1, p2, p3, p4, p5, ⟨h60, f, a6, hf⟩, p7, p8⟩ := id h
  have z10 : ¬ (1 : Int32) = 0 := by decide
  by_cases hd : 48 ≤ rz_sg tx i ∧ rz_sg tx i ≤ 57
  · obtain ⟨w, hw, e1, e2⟩ := rz_dig (Int32.not_lt.mpr hd.1) (Int32.not_lt.mpr hd.2)
    have hil : i < tx.length := rz_sg_in (by rw [e2]; exact fun q => nI_pos (show w + 48 < 2 ^ 31 by omega) (by rw [q]; decide))
    have hvi : vp_in (nI i) 60 := vp_in_nI (by omega) (by decide)
    have e3 : f i = rz_sg tx i := by
      unfold rz_sg
      rw [List.getD_eq_getElem?_getD, List.getElem?_eq_getElem hil]
      exact hf i _ (List.getElem?_eq_getElem hil)
    have oi := fun R => (m_M_sees (d := d) (l0 := 48) (u0 := 57) (R := R) h (by omega) (by decide)).1 hd
    have hwg : rz_wg none (rz_sg tx i) = some w := by
      unfold rz_wg
      rw [if_neg (fun q => q.elim (Int32.not_lt.mpr hd.1) (fun q => q.elim (Int32.not_lt.mpr hd.2) (fun q => by cases q))), e1, nI_clamp (by omega)]
      simp
    have e0 : rz_rn tx most 60 none i = rz_rn tx most 59 (some w) (i + 1) := by
      conv => lhs; unfold rz_rn
      rw [hwg]; exact if_neg (by omega)
    rw [e0] at kk
    simp only [↓ri_159_0, ↓ri_159_1, ↓ri_159_3, ↓ri_159_5, ↓ri_159_8, ↓ri_159_11, ↓ri_159_13, ↓ri_159_14, ↓ri_159_15, ↓ri_159_18, ↓ri_159_19, ↓ri_159_22, ↓ri_159_23, ↓ri_159_25, ↓ri_159_26, ↓ri_159_27, ↓ri_159_28, ↓ri_159_29, ↓ri_159_32, ↓ri_159_33, ↓ri_159_34, Option.some.injEq, Prod.mk.injEq, exists_eq_left', exists_eq', exists_and_left, exists_and_right, true_and, and_true, true_or, or_true, and_self, and_assoc, Option.toList_some, Option.toList_none, List.cons_append, List.nil_append, ↓reduceIte, rz_x01, rz_x10, rz_co_fv f0, oi, ↓if_neg z10, f7, f11, a6, hvi, nI_clamp (show i < 2 ^ 31 by omega), e3, e1, nI_1]
    exact m_M_number_loop (d := d) (hp := hp) hm 59 (i + 1) w _ (by omega) (by omega) (by omega) h.spot (rz_sm_pf (by omega) (by omega)) kk
  · have oi := fun R => (m_M_sees (d := d) (l0 := 48) (u0 := 57) (R := R) h (by omega) (by decide)).2 hd
    have hwg : rz_wg none (rz_sg tx i) = none := by
      unfold rz_wg
      by_cases q : rz_sg tx i < 48
      · rw [if_pos (Or.inl q)]
      · rw [if_pos (Or.inr (Or.inl (Int32.not_le.mp (fun q2 => hd ⟨Int32.not_lt.mp q, q2⟩))))]
    have e0 : rz_rn tx most 60 none i = (none, i) := by unfold rz_rn; rw [hwg]
    rw [e0] at kk
    simp only [↓ri_159_0, ↓ri_159_1, ↓ri_159_3, ↓ri_159_5, ↓ri_159_8, ↓ri_159_11, ↓ri_159_13, Option.some.injEq, Prod.mk.injEq, exists_eq_left', exists_eq', exists_and_left, exists_and_right, true_and, and_true, true_or, or_true, and_self, and_assoc, Option.toList_some, Option.toList_none, List.cons_append, List.nil_append, ↓reduceIte, rz_x01, rz_x10, rz_co_fv f0, oi]
    exact kk hp h rz_sm.rf
set_option maxHeartbeats 4000000 in
set_option maxRecDepth 100000 in
theorem m_M_laysOrder0 {c v w : Int32} (h : v = -5 ∨ w = -5) : rz_ev d 160 0 [some (.ref m), some (.int c), some (.int v), some (.int w), none] [] hp R ↔ R (some (.int 0)) hp := by
  by_cases h1 : v = -5
  · simp only [↓ri_160_0, ↓ri_160_1, ↓ri_160_3, ↓ri_160_6, ↓ri_160_7, ↓ri_160_9, ↓ri_160_12, ↓ri_160_13, ↓ri_160_16, ↓ri_160_17, ↓ri_160_19, ↓ri_160_21, ↓ri_160_74, ↓ri_160_76, Option.some.injEq, Prod.mk.injEq, exists_eq_left', exists_eq', exists_and_left, exists_and_right, true_and, and_true, true_or, or_true, and_self, and_assoc, Option.toList_some, Option.toList_none, List.cons_append, List.nil_append, ↓reduceIte, rz_x01, rz_x10, ↓if_pos h1]
  · have h2 := h.resolve_left h1
    simp only [↓ri_160_0, ↓ri_160_1, ↓ri_160_3, ↓ri_160_6, ↓ri_160_7, ↓ri_160_9, ↓ri_160_12, ↓ri_160_13, ↓ri_160_16, ↓ri_160_17, ↓ri_160_19, ↓ri_160_21, ↓ri_160_74, ↓ri_160_76, Option.some.injEq, Prod.mk.injEq, exists_eq_left', exists_eq', exists_and_left, exists_and_right, true_and, and_true, true_or, or_true, and_self, and_assoc, Option.toList_some, Option.toList_none, List.cons_append, List.nil_append, ↓reduceIte, rz_x01, rz_x10, ↓if_neg h1, ↓if_pos h2]
set_option maxHeartbeats 4000000 in
set_option maxRecDepth 100000 in
theorem m_M_laysOrder1 {c v w : Int32} (h : rz_MM m s hist shot tx ro re sp os B hp) (hv : ¬ v = -5) (hw : ¬ w = -5) (ho : os.length < 32) (kk : ∀ hp', rz_MM m s hist shot tx ro re sp (os ++ [(c, v, w)]) B hp' → rz_sm m (m + 9) hp hp' → R (some (.int 1)) hp') : rz_ev d 160 0 [some (.ref m), some (.int c), some (.int v), some (.int w), none] [] hp R := by
  obtain ⟨p0, p1, p2, p3, p4, p5, p6, ⟨h32, f, a7, hf⟩, p8⟩ := id h
  obtain ⟨f0, f1, f2, f3, f4, f5, f6, f7, f8, f9, f10, f11, f12, f13, f14⟩ := id p0
  have z10 : ¬ (1 : Int32) = 0 := by decide
  have e0 : (3 : Int32) * nI os.length = nI (3 * os.length) := pk_mul 3 _
  have e1 : nI (3 * os.length) + 1 = nI (3 * os.length + 1) := nI_1 _
  have e2 : nI (3 * os.length) + 2 = nI (3 * os.length + 2) := nI_add _ 2
  have v0 : vp_in (nI (3 * os.length)) 96 := vp_in_nI (by omega) (by decide)
  have v1 : vp_in (nI (3 * os.length + 1)) 96 := vp_in_nI (by omega) (by decide)
  have v2 : vp_in (nI (3 * os.length + 2)) 96 := vp_in_nI (by omega) (by decide)
  have k0 : (nI (3 * os.length)).toNatClampNeg = 3 * os.length := nI_clamp (by omega)
  have k1 : (nI (3 * os.length + 1)).toNatClampNeg = 3 * os.length + 1 := nI_clamp (by omega)
  have k2 : (nI (3 * os.length + 2)).toNatClampNeg = 3 * os.length + 2 := nI_clamp (by omega)
  have hav : ∀ (hp : rz_Hp) (g g' : Nat → Int32), rz_av hp (m + 7) = some (0, 96, g) → rz_av (rz_pa hp (m + 7) g') (m + 7) = some (0, 96, g') := fun hp g g' h => rz_avS h
  have a7' := hav hp f (upd f (3 * os.length) c) a7
  have a7'' := hav _ _ (upd (upd f (3 * os.length) c) (3 * os.length + 1) v) a7'
  have a7''' := hav _ _ (upd (upd (upd f (3 * os.length) c) (3 * os.length + 1) v) (3 * os.length + 2) w) a7''
  simp only [↓ri_160_0, ↓ri_160_1, ↓ri_160_3, ↓ri_160_6, ↓ri_160_7, ↓ri_160_9, ↓ri_160_12, ↓ri_160_13, ↓ri_160_16, ↓ri_160_17, ↓ri_160_19, ↓ri_160_21, ↓ri_160_24, ↓ri_160_25, ↓ri_160_28, ↓ri_160_29, ↓ri_160_30, ↓ri_160_33, ↓ri_160_34, ↓ri_160_35, ↓ri_160_36, ↓ri_160_37, ↓ri_160_40, ↓ri_160_41, ↓ri_160_42, ↓ri_160_45, ↓ri_160_46, ↓ri_160_47, ↓ri_160_48, ↓ri_160_49, ↓ri_160_50, ↓ri_160_51, ↓ri_160_54, ↓ri_160_55, ↓ri_160_56, ↓ri_160_59, ↓ri_160_60, ↓ri_160_61, ↓ri_160_62, ↓ri_160_63, ↓ri_160_64, ↓ri_160_65, ↓ri_160_66, ↓ri_160_69, ↓ri_160_70, ↓ri_160_71, ↓ri_160_74, ↓ri_160_76, Option.some.injEq, Prod.mk.injEq, exists_eq_left', exists_eq', exists_and_left, exists_and_right, true_and, and_true, true_or, or_true, and_self, and_assoc, Option.toList_some, Option.toList_none, List.cons_append, List.nil_append, ↓reduceIte, rz_x01, rz_x10, ↓if_neg hv, ↓if_neg hw, ↓if_neg z10, f12, f13, rz_fv_pa, e0, e1, e2, v0, v1, v2, k0, k1, k2, a7, a7', a7'', nI_1]
  have s1 : rz_sm (m + 7) (m + 8) hp (rz_pa (rz_pa (rz_pa hp (m + 7) (upd f (3 * os.length) c)) (m + 7) (upd (upd f (3 * os.length) c) (3 * os.length + 1) v)) (m + 7) (upd (upd (upd f (3 * os.length) c) (3 * os.length + 1) v) (3 * os.length + 2) w)) := ((rz_sm_pa (by omega) (by omega)).tr (rz_sm_pa (by omega) (by omega))).tr (rz_sm_pa (by omega) (by omega))
  have s2 : rz_sm m (m + 1) (rz_pa (rz_pa (rz_pa hp (m + 7) (upd f (3 * os.length) c)) (m + 7) (upd (upd f (3 * os.length) c) (3 * os.length + 1) v)) (m + 7) (upd (upd (upd f (3 * os.length) c) (3 * os.length + 1) v) (3 * os.length + 2) w)) (rz_pf (rz_pa (rz_pa (rz_pa hp (m + 7) (upd f (3 * os.length) c)) (m + 7) (upd (upd f (3 * os.length) c) (3 * os.length + 1) v)) (m + 7) (upd (upd (upd f (3 * os.length) c) (3 * os.length + 1) v) (3 * os.length + 2) w)) m 13 (.int (nI (os.length + 1)))) := rz_sm_pf (by omega) (by omega)
  refine kk _ ⟨?_, (p1.sm s1 (by omega)).sm s2 (by omega), (p2.sm s1 (by omega)).sm s2 (by omega), (p3.sm s1 (by omega)).sm s2 (by omega), (p4.sm s1 (by omega)).sm s2 (by omega), (p5.sm s1 (by omega)).sm s2 (by omega), (p6.sm s1 (by omega)).sm s2 (by omega), ⟨by rw [List.length_append, List.length_singleton]; omega, _, by rw [s2.av (by omega)]; exact a7''', fun i x hx => ?_⟩, (p8.sm s1 (by omega)).sm s2 (by omega)⟩ ((s1.wd (by omega) (by omega)).tr (s2.wd (by omega) (by omega)))
  · simp only [rz_MF, rz_fv_pf, rz_av_pf, rz_qv_pf, rz_ln_pf, rz_co_pf, rz_fv_pa, rz_av_pa, rz_qv_pa, rz_ln_pa, rz_co_pa, rz_fv_pq, rz_av_pq, rz_qv_pq, rz_ln_pq, rz_co_pq, Nat.reduceEqDiff, Nat.add_eq_left, Nat.left_eq_add, Nat.one_ne_zero, Option.map_some, exists_const, Option.some.injEq, Prod.mk.injEq, exists_eq_left', exists_eq', exists_and_left, exists_and_right, true_and, and_true, true_or, or_true, and_self, and_assoc, Option.toList_some, Option.toList_none, List.cons_append, List.nil_append, ↓reduceIte, rz_x01, rz_x10, f0, f1, f2, f3, f4, f5, f6, f7, f8, f9, f10, f11, f12, f13, f14, List.length_append, List.length_singleton]
  · by_cases hi : i < os.length
    · rw [List.getElem?_append_left hi] at hx
      obtain ⟨q0, q1, q2⟩ := hf i x hx
      refine ⟨?_, ?_, ?_⟩ <;> (rw [pk_un (by omega), pk_un (by omega), pk_un (by omega)]; assumption)
    · have hl := (List.getElem?_eq_some_iff.mp hx).1
      rw [List.length_append, List.length_singleton] at hl
      have hi2 : i = os.length := by omega
      subst hi2
      rw [List.getElem?_append_right (Nat.le_refl _), Nat.sub_self] at hx
      cases hx
      refine ⟨?_, ?_, ?_⟩
      · rw [pk_un (by omega), pk_un (by omega), pk_us]
      · rw [pk_un (by omega), pk_us]
      · rw [pk_us]
end RZMC
