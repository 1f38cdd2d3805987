/-! RisingPilesModel: undo, the snapshot, what comes in and out -/
/-- what holds of a state that calls lead to -/
def rz_IV : rz_AS → Prop := fun (L, fl, _, _, rd, laid, ci, _, _) => rz_IE L fl ci ∧ L.length ≤ 40 ∧ rz_rdo rd ∧ laid = nI (rz_tot rd)
noncomputable def rz_mayI : rz_AS → Int32 → Int32 → Int32 := haveI : (p : Prop) → Decidable p := Classical.propDecidable; fun (L, fl, _, _, _, _, ci, _, _) key val =>
  if ¬ rz_key key ∨ val < 0 ∨ 999 < val then -2 else if key < fl then -4 else if ¬ L.length < 40 ∨ 1000 ≤ ci then -3 else 0
theorem rz_RW.one {f : Nat → Int32} {s : rz_AS} {B : Nat} (h : rz_RW f s B) : f 1 = nI s.1.length ∧ s.1.length ≤ 41 := by
  obtain ⟨S, Z, hS, -, hZ, hY⟩ := h
  have hl := rz_YZ_len hY
  exact ⟨by rw [← hl]; exact hZ.2.1, by rw [← hl]; exact hZ.1⟩
theorem rz_IV.I0 {s : rz_AS} (h : rz_IV s) : rz_I0 s := by
  obtain ⟨L, fl, am, lat, rd, laid, ci, co, tb⟩ := s
  refine ⟨h.1.kr, ?_⟩
  obtain ⟨⟨c, n, hc, hf, -⟩, -⟩ := h.1
  exact ⟨c, hc, hf⟩
theorem rz_in_may {s : rz_AS} {key val : Int32} (h : rz_mayI s key val < 0) : rz_in_ s key val = (rz_mayI s key val, s) := by
  obtain ⟨L, fl, am, lat, rd, laid, ci, co, tb⟩ := s
  unfold rz_mayI at h ⊢
  unfold rz_in_
  by_cases h1 : ¬ rz_key key ∨ val < 0 ∨ 999 < val
  · simp only [if_pos h1]
  · by_cases h2 : key < fl
    · simp only [if_neg h1, ↓if_pos h2]
    · by_cases h3 : ¬ L.length < 40 ∨ 1000 ≤ ci
      · simp only [if_neg h1, ↓if_neg h2, ↓if_pos h3]
      · simp only [if_neg h1, ↓if_neg h2, ↓if_neg h3] at h
        exact absurd h (by decide)
theorem rz_in_ok {L : List rz_En} {fl am : Int32} {lat : List rz_La} {rd : Nat → Int32} {laid ci co tb : Int32} {key val : Int32} (h : ¬ rz_mayI (L, fl, am, lat, rd, laid, ci, co, tb) key val < 0) : rz_in_ (L, fl, am, lat, rd, laid, ci, co, tb) key val = (ci, L ++ [(ci, key, val, 0, rz_pl fl key)], fl, am, lat, rd, laid, ci + 1, co, tb) ∧ rz_key key ∧ ¬ key < fl ∧ L.length < 40 ∧ ci < 1000 := by
  unfold rz_mayI at h
  unfold rz_in_
  by_cases h1 : ¬ rz_key key ∨ val < 0 ∨ 999 < val
  · simp only [if_pos h1] at h
    exact absurd (by decide) h
  · by_cases h2 : key < fl
    · simp only [if_neg h1, ↓if_pos h2] at h
      exact absurd (by decide) h
    · by_cases h3 : ¬ L.length < 40 ∨ 1000 ≤ ci
      · simp only [if_neg h1, ↓if_neg h2, ↓if_pos h3] at h
        exact absurd (by decide) h
      · refine ⟨by simp only [if_neg h1, ↓if_neg h2, ↓if_neg h3], Classical.byContradiction (fun q => h1 (Or.inl q)), h2, Classical.byContradiction (fun q => h3 (Or.inl q)), Int32.not_le.mp (fun q => h3 (Or.inr q))⟩
section RZM8
variable {d a m lo hi n : Nat} {f f2 g : Nat → Int32} {hp h1 : rz_Hp} {R : Option Value → rz_Hp → Prop} {s s2 x : rz_AS} {hist : List rz_AS} {shot : Option rz_AS} {tx : List Int32} {ro re sp sv sh le od : Int32} {os : List rz_Or} {B B2 : Nat} {Z : List rz_Zt} {L : List rz_En} {fl am : Int32} {lat : List rz_La} {rd : Nat → Int32} {laid ci co tb : Int32}
set_option maxHeartbeats 4000000 in
set_option maxRecDepth 100000 in
theorem m_M_undo (h : rz_MM m s hist shot tx ro re sp os B hp) (kk : ∀ hp', rz_MM m (hist.getLast?.getD s) hist.dropLast shot tx ro re sp os B hp' → rz_sm m (m + 9) hp hp' → R (some (.int (if hist.length = 0 then -5 else nI (hist.length - 1)))) hp') : rz_ev (d + 1) 122 0 [some (.ref m)] [] hp R := by
  obtain ⟨p0, p1, p2, p3, p4, p5, p6, p7, p8⟩ := id h
  obtain ⟨h4, fp, a4, w4⟩ := p4
  obtain ⟨f0, f1, f2, f3, f4, f5, f6, f7, f8, f9, f10, f11, f12, f13, f14⟩ := id p0
  by_cases h0 : hist.length = 0
  · have hn : hist = [] := List.length_eq_zero_iff.mp h0
    subst hn
    have c1 : nI ([] : List rz_AS).length = 0 := rfl
    simp only [↓ri_122_0, ↓ri_122_1, ↓ri_122_4, ↓ri_122_7, ↓ri_122_9, Option.some.injEq, Prod.mk.injEq, exists_eq_left', exists_eq', exists_and_left, exists_and_right, true_and, and_true, true_or, or_true, and_self, and_assoc, Option.toList_some, Option.toList_none, List.cons_append, List.nil_append, ↓reduceIte, rz_x01, rz_x10, f4, ↓if_pos c1]
    have := kk hp h rz_sm.rf
    rwa [if_pos (show ([] : List rz_AS).length = 0 from rfl)] at this
  · obtain ⟨k, hk⟩ : ∃ k, hist.length = k + 1 := ⟨hist.length - 1, by omega⟩
    obtain ⟨x, hx⟩ := rz_ge (L := hist) (i := k) (by omega)
    have c1 : ¬ nI hist.length = 0 := nI_ne0 (by omega) (by omega)
    have e1 : nI hist.length - 1 = nI k := by rw [hk]; exact nI_pred k
    have e2 : (430 : Int32) * nI k = nI (430 * k) := pk_mul 430 k
    obtain ⟨fs, a1, w1⟩ := p1
    have s1 : rz_sm m (m + 1) hp (rz_pf hp m 4 (.int (nI k))) := rz_sm_pf (by omega) (by omega)
    have hgl : hist.getLast? = some x := by rw [List.getLast?_eq_getElem?, hk]; exact hx
    have k0 : rz_MF m (nI hist.dropLast.length) (rz_shI shot) (nI tx.length) ro re sp (nI os.length) (rz_pf hp m 4 (.int (nI k))) := by
      rw [List.length_dropLast, hk, Nat.add_sub_cancel]
      simp only [rz_MF, rz_fv_pf, rz_av_pf, rz_qv_pf, rz_ln_pf, rz_co_pf, rz_fv_pa, rz_av_pa, rz_qv_pa, rz_ln_pa, rz_co_pa, rz_fv_pq, rz_av_pq, rz_qv_pq, rz_ln_pq, rz_co_pq, Nat.reduceEqDiff, Nat.add_eq_left, Nat.left_eq_add, Nat.one_ne_zero, Option.map_some, exists_const, Option.some.injEq, Prod.mk.injEq, exists_eq_left', exists_eq', exists_and_left, exists_and_right, true_and, and_true, true_or, or_true, and_self, and_assoc, Option.toList_some, Option.toList_none, List.cons_append, List.nil_append, ↓reduceIte, rz_x01, rz_x10, f0, f1, f2, f3, f4, f5, f6, f7, f8, f9, f10, f11, f12, f13, f14]
    obtain ⟨g0, g1, g2, g3, g4, g5, g6, g7, g8, g9, g10, g11, g12, g13, g14⟩ := id k0
    rw [List.length_dropLast, hk, Nat.add_sub_cancel] at g4
    simp only [↓ri_122_0, ↓ri_122_1, ↓ri_122_4, ↓ri_122_7, ↓ri_122_9, ↓ri_122_10, ↓ri_122_11, ↓ri_122_12, ↓ri_122_15, ↓ri_122_16, ↓ri_122_17, ↓ri_122_20, ↓ri_122_21, ↓ri_122_24, ↓ri_122_27, ↓ri_122_28, ↓ri_122_31, ↓ri_122_32, ↓ri_122_33, ↓ri_122_36, ↓ri_122_37, Option.some.injEq, Prod.mk.injEq, exists_eq_left', exists_eq', exists_and_left, exists_and_right, true_and, and_true, true_or, or_true, and_self, and_assoc, Option.toList_some, Option.toList_none, List.cons_append, List.nil_append, ↓reduceIte, rz_x01, rz_x10, f4, ↓if_neg c1, e1, g3, g4, e2, g0]
    refine m_M_lays (d := d) (q := 0) (by rw [s1.av (by omega)]; exact a4) (by rw [s1.av (by omega)]; exact a1) (by omega) rfl rfl (by omega) (by omega) (by decide) (by decide) (fun h2 a2 s2 => ?_)
    have g4' : rz_fv h2 m 9 4 = some (.int (nI k)) := by rw [s2.fv (by omega)]; exact g4
    simp only [↓ri_122_40, ↓ri_122_41, ↓ri_122_44, Option.some.injEq, Prod.mk.injEq, exists_eq_left', exists_eq', exists_and_left, exists_and_right, true_and, and_true, true_or, or_true, and_self, and_assoc, Option.toList_some, Option.toList_none, List.cons_append, List.nil_append, ↓reduceIte, rz_x01, rz_x10, g4']
    have := kk h2 ⟨k0.sm s2 (by omega), ⟨_, a2, ?_⟩, (p2.sm s1 (by omega)).sm s2 (by omega), (p3.sm s1 (by omega)).sm s2 (by omega), (rz_PT.sm (rz_PT.sm ⟨by rw [List.length_dropLast]; omega, fp, a4, fun i y hy => ?_⟩ s1 (by omega)) s2 (by omega)), (p5.sm s1 (by omega)).sm s2 (by omega), (p6.sm s1 (by omega)).sm s2 (by omega), (p7.sm s1 (by omega)).sm s2 (by omega), (p8.sm s1 (by omega)).sm s2 (by omega)⟩ ((s1.wd (by omega) (by omega)).tr (s2.wd (by omega) (by omega)))
    · rw [if_neg h0, hk, Nat.add_sub_cancel] at this
      exact this
    · rw [hgl]
      exact (w4 k x hx).ext (fun j hj => by rw [pk_cpy_in (by omega) (by omega)]; try (congr 1 <;> omega))
    · rw [List.getElem?_dropLast] at hy
      split at hy
      · exact w4 i y hy
      · cases hy
set_option maxHeartbeats 4000000 in
set_option maxRecDepth 100000 in
theorem m_M_keep (h : rz_MM m s hist shot tx ro re sp os B hp) (kk : ∀ hp', rz_MM m s hist (some s) tx ro re sp os B hp' → rz_sm m (m + 9) hp hp' → R (some (.int (nI s.1.length))) hp') : rz_ev (d + 1) 123 0 [some (.ref m)] [] hp R := by
  obtain ⟨p0, p1, p2, p3, p4, p5, p6, p7, p8⟩ := id h
  obtain ⟨f0, f1, f2, f3, f4, f5, f6, f7, f8, f9, f10, f11, f12, f13, f14⟩ := id p0
  obtain ⟨fs, a1, w1⟩ := id p1
  obtain ⟨f5', a5, w5⟩ := id p5
  simp only [↓ri_123_0, ↓ri_123_1, ↓ri_123_4, ↓ri_123_5, ↓ri_123_6, ↓ri_123_9, ↓ri_123_10, Option.some.injEq, Prod.mk.injEq, exists_eq_left', exists_eq', exists_and_left, exists_and_right, true_and, and_true, true_or, or_true, and_self, and_assoc, Option.toList_some, Option.toList_none, List.cons_append, List.nil_append, ↓reduceIte, rz_x01, rz_x10, f0, f5]
  refine m_M_lays (d := d) (p := 0) (q := 0) a1 a5 (by omega) rfl rfl (by omega) (by omega) (by decide) (by decide) (fun h2 a2 s2 => ?_)
  have k0 := p0.sm s2 (by omega)
  obtain ⟨g0, g1, g2, g3, g4, g5, g6, g7, g8, g9, g10, g11, g12, g13, g14⟩ := id k0
  have a1' : rz_av h2 (m + 1) = some (0, 430, fs) := by rw [s2.av (by omega)]; exact a1
  have s3 : rz_sm m (m + 1) h2 (rz_pf h2 m 6 (.int 1)) := rz_sm_pf (by omega) (by omega)
  have z10 : ¬ (6 : Nat) = 0 := by decide
  simp only [↓ri_123_13, ↓ri_123_14, ↓ri_123_15, ↓ri_123_18, ↓ri_123_19, ↓ri_123_22, ↓ri_123_23, ↓ri_123_24, Option.some.injEq, Prod.mk.injEq, exists_eq_left', exists_eq', exists_and_left, exists_and_right, true_and, and_true, true_or, or_true, and_self, and_assoc, Option.toList_some, Option.toList_none, List.cons_append, List.nil_append, ↓reduceIte, rz_x01, rz_x10, rz_fv_pf, rz_av_pf, rz_qv_pf, rz_ln_pf, rz_co_pf, rz_fv_pa, rz_av_pa, rz_qv_pa, rz_ln_pa, rz_co_pa, rz_fv_pq, rz_av_pq, rz_qv_pq, rz_ln_pq, rz_co_pq, Nat.reduceEqDiff, Nat.add_eq_left, Nat.left_eq_add, Nat.one_ne_zero, Option.map_some, exists_const, g0, g6, a1', rz_v1, rz_k1, w1.one.1]
  refine kk _ ⟨?_, (p1.sm s2 (by omega)).sm s3 (by omega), (p2.sm s2 (by omega)).sm s3 (by omega), (p3.sm s2 (by omega)).sm s3 (by omega), (p4.sm s2 (by omega)).sm s3 (by omega), ⟨_, by rw [s3.av (by omega)]; exact a2, fun x hx => ?_⟩, (p6.sm s2 (by omega)).sm s3 (by omega), (p7.sm s2 (by omega)).sm s3 (by omega), (p8.sm s2 (by omega)).sm s3 (by omega)⟩ ((s2.wd (by omega) (by omega)).tr (s3.wd (by omega) (by omega)))
  · simp only [rz_MF, rz_fv_pf, rz_av_pf, rz_qv_pf, rz_ln_pf, rz_co_pf, rz_fv_pa, rz_av_pa, rz_qv_pa, rz_ln_pa, rz_co_pa, rz_fv_pq, rz_av_pq, rz_qv_pq, rz_ln_pq, rz_co_pq, Nat.reduceEqDiff, Nat.add_eq_left, Nat.left_eq_add, Nat.one_ne_zero, Option.map_some, exists_const, Option.some.injEq, Prod.mk.injEq, exists_eq_left', exists_eq', exists_and_left, exists_and_right, true_and, and_true, true_or, or_true, and_self, and_assoc, Option.toList_some, Option.toList_none, List.cons_append, List.nil_append, ↓reduceIte, rz_x01, rz_x10, rz_shI, g0, g1, g2, g3, g4, g5, g6, g7, g8, g9, g10, g11, g12, g13, g14]
  · cases hx
    exact w1.ext (fun j hj => by rw [pk_cpy_in (by omega) (by omega)]; try (congr 1 <;> omega))
set_option maxHeartbeats 4000000 in
set_option maxRecDepth 100000 in
theorem m_M_restore (h : rz_MM m s hist shot tx ro re sp os B hp) (kk0 : shot = none → R (some (.int (-5))) hp) (kk : ∀ x, shot = some x → ∀ hp', rz_MM m x (rz_rec hist s) shot tx ro re sp os B hp' → rz_sm m (m + 9) hp hp' → R (some (.int (nI x.1.length))) hp') : rz_ev (d + 3) 124 0 [some (.ref m)] [] hp R := by
  obtain ⟨f0, f1, f2, f3, f4, f5, f6, f7, f8, f9, f10, f11, f12, f13, f14⟩ := id h.1
  cases shot with
  | none =>
    have c1 : rz_shI none = 0 := rfl
    simp only [↓ri_124_0, ↓ri_124_1, ↓ri_124_4, ↓ri_124_7, ↓ri_124_9, Option.some.injEq, Prod.mk.injEq, exists_eq_left', exists_eq', exists_and_left, exists_and_right, true_and, and_true, true_or, or_true, and_self, and_assoc, Option.toList_some, Option.toList_none, List.cons_append, List.nil_append, ↓reduceIte, rz_x01, rz_x10, f6, ↓if_pos c1]
    exact kk0 rfl
  | some x =>
    have c1 : ¬ rz_shI (some x) = 0 := show ¬ (1 : Int32) = 0 from by decide
    simp only [↓ri_124_0, ↓ri_124_1, ↓ri_124_4, ↓ri_124_7, ↓ri_124_9, ↓ri_124_10, ↓ri_124_11, Option.some.injEq, Prod.mk.injEq, exists_eq_left', exists_eq', exists_and_left, exists_and_right, true_and, and_true, true_or, or_true, and_self, and_assoc, Option.toList_some, Option.toList_none, List.cons_append, List.nil_append, ↓reduceIte, rz_x01, rz_x10, f6, ↓if_neg c1, rz_co_fv f0]
    refine m_M_records (d := d) h (fun h1 k1 s1 => ?_)
    obtain ⟨p0, p1, p2, p3, p4, p5, p6, p7, p8⟩ := id k1
    obtain ⟨g0, g1, g2, g3, g4, g5, g6, g7, g8, g9, g10, g11, g12, g13, g14⟩ := id p0
    obtain ⟨fs, a1, w1⟩ := id p1
    obtain ⟨f5', a5, w5⟩ := id p5
    simp only [↓ri_124_14, ↓ri_124_15, ↓ri_124_18, ↓ri_124_19, ↓ri_124_20, ↓ri_124_23, ↓ri_124_24, Option.some.injEq, Prod.mk.injEq, exists_eq_left', exists_eq', exists_and_left, exists_and_right, true_and, and_true, true_or, or_true, and_self, and_assoc, Option.toList_some, Option.toList_none, List.cons_append, List.nil_append, ↓reduceIte, rz_x01, rz_x10, g0, g5]
    refine m_M_lays (d := d + 2) (p := 0) (q := 0) a5 a1 (by omega) rfl rfl (by omega) (by omega) (by decide) (by decide) (fun h2 a2 s2 => ?_)
    have w2 : rz_RW (va_cpy f5' fs 0 0 430) x B := (w5 x rfl).ext (fun j hj => by rw [pk_cpy_in (by omega) (by omega)]; try (congr 1 <;> omega))
    have g0' : rz_fv h2 m 9 0 = some (.ref (m + 1)) := by rw [s2.fv (by omega)]; exact g0
    simp only [↓ri_124_27, ↓ri_124_28, ↓ri_124_31, ↓ri_124_32, ↓ri_124_33, Option.some.injEq, Prod.mk.injEq, exists_eq_left', exists_eq', exists_and_left, exists_and_right, true_and, and_true, true_or, or_true, and_self, and_assoc, Option.toList_some, Option.toList_none, List.cons_append, List.nil_append, ↓reduceIte, rz_x01, rz_x10, g0', a2, rz_v1, rz_k1, w2.one.1]
    exact kk x rfl _ (k1.row ⟨_, a2, w2⟩ (Nat.le_refl _) s2) (s1.tr (s2.wd (by omega) (by omega)))
set_option maxHeartbeats 4000000 in
set_option maxRecDepth 100000 in
theorem m_M_mayIn {key val : Int32} (h : rz_MM m (L, fl, am, lat, rd, laid, ci, co, tb) hist shot tx ro re sp os B hp) (hI : rz_IV (L, fl, am, lat, rd, laid, ci, co, tb)) : rz_ev (d + 1) 140 0 [some (.ref m), some (.int key), some (.int val)] [] hp R ↔ R (some (.int (rz_mayI (L, fl, am, lat, rd, laid, ci, co, tb) key val))) hp := by
  obtain ⟨⟨f0, -⟩, ⟨f, a1, w1⟩, -⟩ := id h
  obtain ⟨⟨⟨c, n, hc, hf, hn, hci, -⟩, -⟩, hl, -, -⟩ := hI
  obtain ⟨S, Z, hS, ⟨q0, q2, q3, q4, q5, q6, q7, q8⟩, hZ, hY⟩ := id w1
  have h1 := w1.one.1
  replace h1 : f 1 = nI L.length := h1
  unfold rz_mayI
  have z10 : ¬ (1 : Int32) = 0 := by decide
  by_cases hk : rz_key key
  · have o1 := fun R => (m_M_in (d := d) (hp := hp) (R := R)).1 hk
    by_cases hv : 0 ≤ val ∧ val ≤ 999
    · have o2 := fun R => (m_M_in (d := d) (hp := hp) (R := R)).1 hv
      have g1 : ¬ (¬ rz_key key ∨ val < 0 ∨ 999 < val) := fun q => q.elim (fun q => q hk) (fun q => q.elim (Int32.not_lt.mpr hv.1) (Int32.not_lt.mpr hv.2))
      simp only [if_neg g1]
      by_cases h3 : key < fl
      · have g3 : ¬ fl ≤ key := Int32.not_le.mpr h3
        simp only [↓ri_140_0, ↓ri_140_1, ↓ri_140_2, ↓ri_140_4, ↓ri_140_7, ↓ri_140_10, ↓ri_140_11, ↓ri_140_12, ↓ri_140_15, ↓ri_140_18, ↓ri_140_21, ↓ri_140_23, ↓ri_140_24, ↓ri_140_25, ↓ri_140_26, ↓ri_140_29, ↓ri_140_30, ↓ri_140_31, ↓ri_140_34, ↓ri_140_36, ↓ri_140_37, ↓ri_140_38, ↓ri_140_41, ↓ri_140_42, ↓ri_140_43, ↓ri_140_45, ↓ri_140_48, ↓ri_140_49, ↓ri_140_52, ↓ri_140_53, ↓ri_140_54, ↓ri_140_57, ↓ri_140_60, ↓ri_140_62, ↓ri_140_65, ↓ri_140_66, Option.some.injEq, Prod.mk.injEq, exists_eq_left', exists_eq', exists_and_left, exists_and_right, true_and, and_true, true_or, or_true, and_self, and_assoc, Option.toList_some, Option.toList_none, List.cons_append, List.nil_append, ↓reduceIte, rz_x01, rz_x10, o1, o2, f0, a1, rz_v0, rz_k0, q0, ↓if_neg g3, ↓if_neg z10, ↓if_pos h3]
      · have g3 : fl ≤ key := Int32.not_lt.mp h3
        simp only [if_neg h3]
        by_cases h4 : L.length < 40
        · have c4 : ¬ nI L.length = 40 := fun q => absurd ((nI_eq (b := 40) (by omega) (by decide)).mp q) (by omega)
          by_cases h5 : 1000 ≤ ci
          · have c5 : ci = 1000 := by
              rw [hci] at h5 ⊢
              have := (nI_leI (a := 1000) (by decide) (by omega)).mp h5
              rw [show n = 1000 by omega]; rfl
            simp only [↓ri_140_0, ↓ri_140_1, ↓ri_140_2, ↓ri_140_4, ↓ri_140_7, ↓ri_140_10, ↓ri_140_11, ↓ri_140_12, ↓ri_140_15, ↓ri_140_18, ↓ri_140_21, ↓ri_140_23, ↓ri_140_24, ↓ri_140_25, ↓ri_140_26, ↓ri_140_29, ↓ri_140_30, ↓ri_140_31, ↓ri_140_34, ↓ri_140_36, ↓ri_140_37, ↓ri_140_38, ↓ri_140_41, ↓ri_140_42, ↓ri_140_43, ↓ri_140_45, ↓ri_140_48, ↓ri_140_49, ↓ri_140_52, ↓ri_140_53, ↓ri_140_54, ↓ri_140_57, ↓ri_140_60, ↓ri_140_62, ↓ri_140_65, ↓ri_140_66, Option.some.injEq, Prod.mk.injEq, exists_eq_left', exists_eq', exists_and_left, exists_and_right, true_and, and_true, true_or, or_true, and_self, and_assoc, Option.toList_some, Option.toList_none, List.cons_append, List.nil_append, ↓reduceIte, rz_x01, rz_x10, o1, o2, f0, a1, rz_v0, rz_k0, rz_v1, rz_k1, rz_v2, rz_k2, q0, q2, h1, ↓if_pos g3, ↓if_neg z10, ↓if_neg c4, ↓if_pos c5, ↓if_pos (Or.inr (a := ¬ L.length < 40) h5)]
          · have c5 : ¬ ci = 1000 := fun q => h5 (by rw [q]; decide)
            have c6 : ¬ (¬ L.length < 40 ∨ 1000 ≤ ci) := fun q => q.elim (fun q => q h4) h5
            simp only [↓ri_140_0, ↓ri_140_1, ↓ri_140_2, ↓ri_140_4, ↓ri_140_7, ↓ri_140_10, ↓ri_140_11, ↓ri_140_12, ↓ri_140_15, ↓ri_140_18, ↓ri_140_21, ↓ri_140_23, ↓ri_140_24, ↓ri_140_25, ↓ri_140_26, ↓ri_140_29, ↓ri_140_30, ↓ri_140_31, ↓ri_140_34, ↓ri_140_36, ↓ri_140_37, ↓ri_140_38, ↓ri_140_41, ↓ri_140_42, ↓ri_140_43, ↓ri_140_45, ↓ri_140_48, ↓ri_140_49, ↓ri_140_52, ↓ri_140_53, ↓ri_140_54, ↓ri_140_57, ↓ri_140_60, ↓ri_140_62, ↓ri_140_65, ↓ri_140_66, Option.some.injEq, Prod.mk.injEq, exists_eq_left', exists_eq', exists_and_left, exists_and_right, true_and, and_true, true_or, or_true, and_self, and_assoc, Option.toList_some, Option.toList_none, List.cons_append, List.nil_append, ↓reduceIte, rz_x01, rz_x10, o1, o2, f0, a1, rz_v0, rz_k0, rz_v1, rz_k1, rz_v2, rz_k2, q0, q2, h1, ↓if_pos g3, ↓if_neg z10, ↓if_neg c4, ↓if_neg c5, ↓if_neg c6]
        · have c4 : nI L.length = 40 := by rw [show L.length = 40 by omega]; rfl
          simp only [↓ri_140_0, ↓ri_140_1, ↓ri_140_2, ↓ri_140_4, ↓ri_140_7, ↓ri_140_10, ↓ri_140_11, ↓ri_140_12, ↓ri_140_15, ↓ri_140_18, ↓ri_140_21, ↓ri_140_23, ↓ri_140_24, ↓ri_140_25, ↓ri_140_26, ↓ri_140_29, ↓ri_140_30, ↓ri_140_31, ↓ri_140_34, ↓ri_140_36, ↓ri_140_37, ↓ri_140_38, ↓ri_140_41, ↓ri_140_42, ↓ri_140_43, ↓ri_140_45, ↓ri_140_48, ↓ri_140_49, ↓ri_140_52, ↓ri_140_53, ↓ri_140_54, ↓ri_140_57, ↓ri_140_60, ↓ri_140_62, ↓ri_140_65, ↓ri_140_66, Option.some.injEq, Prod.mk.injEq, exists_eq_left', exists_eq', exists_and_left, exists_and_right, true_and, and_true, true_or, or_true, and_self, and_assoc, Option.toList_some, Option.toList_none, List.cons_append, List.nil_append, ↓reduceIte, rz_x01, rz_x10, o1, o2, f0, a1, rz_v0, rz_k0, rz_v1, rz_k1, q0, h1, ↓if_pos g3, ↓if_neg z10, ↓if_pos c4, ↓if_pos (Or.inl (b := 1000 ≤ ci) h4)]
    · have o2 := fun R => (m_M_in (d := d) (hp := hp) (R := R)).2 hv
      have g1 : ¬ rz_key key ∨ val < 0 ∨ 999 < val := by
        by_cases q : val < 0
        · exact Or.inr (Or.inl q)
        · exact Or.inr (Or.inr (Int32.not_le.mp (fun q2 => hv ⟨Int32.not_lt.mp q, q2⟩)))
      simp only [↓ri_140_0, ↓ri_140_1, ↓ri_140_2, ↓ri_140_4, ↓ri_140_7, ↓ri_140_10, ↓ri_140_11, ↓ri_140_12, ↓ri_140_15, ↓ri_140_18, ↓ri_140_21, ↓ri_140_23, ↓ri_140_24, ↓ri_140_25, ↓ri_140_26, ↓ri_140_29, ↓ri_140_30, ↓ri_140_31, ↓ri_140_34, ↓ri_140_36, ↓ri_140_37, ↓ri_140_38, ↓ri_140_41, ↓ri_140_42, ↓ri_140_43, ↓ri_140_45, ↓ri_140_48, ↓ri_140_49, ↓ri_140_52, ↓ri_140_53, ↓ri_140_54, ↓ri_140_57, ↓ri_140_60, ↓ri_140_62, ↓ri_140_65, ↓ri_140_66, Option.some.injEq, Prod.mk.injEq, exists_eq_left', exists_eq', exists_and_left, exists_and_right, true_and, and_true, true_or, or_true, and_self, and_assoc, Option.toList_some, Option.toList_none, List.cons_append, List.nil_append, ↓reduceIte, rz_x01, rz_x10, o1, o2, ↓if_neg z10, ↓if_pos g1]
  · have o1 := fun R => (m_M_in (d := d) (hp := hp) (R := R)).2 hk
    simp only [↓ri_140_0, ↓ri_140_1, ↓ri_140_2, ↓ri_140_4, ↓ri_140_7, ↓ri_140_10, ↓ri_140_11, ↓ri_140_12, ↓ri_140_15, ↓ri_140_18, ↓ri_140_21, ↓ri_140_23, ↓ri_140_24, ↓ri_140_25, ↓ri_140_26, ↓ri_140_29, ↓ri_140_30, ↓ri_140_31, ↓ri_140_34, ↓ri_140_36, ↓ri_140_37, ↓ri_140_38, ↓ri_140_41, ↓ri_140_42, ↓ri_140_43, ↓ri_140_45, ↓ri_140_48, ↓ri_140_49, ↓ri_140_52, ↓ri_140_53, ↓ri_140_54, ↓ri_140_57, ↓ri_140_60, ↓ri_140_62, ↓ri_140_65, ↓ri_140_66, Option.some.injEq, Prod.mk.injEq, exists_eq_left', exists_eq', exists_and_left, exists_and_right, true_and, and_true, true_or, or_true, and_self, and_assoc, Option.toList_some, Option.toList_none, List.cons_append, List.nil_append, ↓reduceIte, rz_x01, rz_x10, o1, ↓if_pos (Or.inl (b := val < 0 ∨ 999 < val) hk)]
set_option maxHeartbeats 4000000 in
set_option maxRecDepth 100000 in
theorem m_M_comesInW {b : Nat} {val : Int32} (ha : rz_av hp a = some (0, 430, f)) (h : rz_RW f (L, fl, am, lat, rd, laid, ci, co, tb) B) (hI : rz_IE L fl ci) (hl : L.length ≤ 40) (hb : b < 65536) (hB : B < 2 ^ 30) (kk : ∀ hp' f', rz_av hp' a = some (0, 430, f') → rz_RW f' (L ++ [(ci, nI b, val, 0, rz_pl fl (nI b))], fl, am, lat, rd, laid, ci + 1, co, tb) (B + 1) → rz_sm a (a + 1) hp hp' → R (some (.int ci)) hp') : rz_ev (d + 2) 134 0 [some (.ref a), some (.int (nI b)), some (.int val), none, none] [] hp R := by
  obtain ⟨⟨c, n, hc, hf, -⟩, -⟩ := hI
  obtain ⟨S, Z, hS, ⟨q0, q2, q3, q4, q5, q6, q7, q8⟩, hZ, Y, y1, y2, y3, y4⟩ := id h
  replace y1 : Y.map Prod.fst = L := y1
  have hzl : Z.length ≤ 40 := by rw [← y2.length_eq, ← List.length_map (f := Prod.fst), y1]; exact hl
  refine m_M_comesIn (d := d) ha hZ hzl q6 (by omega) (by rw [q0]; exact hf) hb hc (fun hp' f' a' z' e' s' => ?_)
  rw [q0, q2] at z'
  rw [q2]
  refine kk hp' f' a' ⟨S + 1, _, by omega, ⟨?_, ?_, ?_, ?_, ?_, ?_, rz_la_hd q7 (fun j hj hj2 => ?_), fun i hi => ?_⟩, z', ⟨Y ++ [((ci, nI b, val, 0, rz_pl fl (nI b)), S)], by rw [List.map_append, y1]; rfl, y2.append_right _, List.pairwise_append.mpr ⟨y3, List.pairwise_singleton _ _, fun x hx w hw => ?_⟩, fun y hy => ?_⟩⟩ s'
  · rw [e' 0 (by omega) (by omega), pk_un (by omega), pk_un (by omega), q0]
  · rw [e' 2 (by omega) (by omega), pk_us, q2]
  · rw [e' 3 (by omega) (by omega), pk_un (by omega), pk_un (by omega), q3]
  · rw [e' 4 (by omega) (by omega), pk_un (by omega), pk_un (by omega), q4]
  · rw [e' 5 (by omega) (by omega), pk_un (by omega), pk_un (by omega), q5]
  · rw [e' 6 (by omega) (by omega), pk_un (by omega), pk_us]
  · rw [e' j (by omega) (by omega), pk_un (by omega), pk_un (by omega)]
  · rw [e' _ (by omega) (by omega), pk_un (by omega), pk_un (by omega), q8 i hi]
  · rw [List.mem_singleton] at hw
    subst hw
    exact fun _ => y4 x hx
  · rcases List.mem_append.mp hy with q | q
    · exact Nat.lt_succ_of_lt (y4 y q)
    · rw [List.mem_singleton] at q
      subst q
      exact Nat.lt_succ_self _
set_option maxHeartbeats 4000000 in
set_option maxRecDepth 100000 in
theorem m_M_comeIn {key val : Int32} (h : rz_MM m s hist shot tx ro re sp os B hp) (hI : rz_IV s) (hB : B < 2 ^ 29) (kk : ∀ hp', rz_MM m (rz_in_ s key val).2 (rz_hs (rz_in_ s key val).1 s hist) shot tx ro re sp os (B + 2000) hp' → rz_sm m (m + 9) hp hp' → R (some (.int (rz_in_ s key val).1)) hp') : rz_ev (d + 3) 141 0 [some (.ref m), some (.int key), some (.int val), none] [] hp R := by
  obtain ⟨L, fl, am, lat, rd, laid, ci, co, tb⟩ := s
  have om := fun R => m_M_mayIn (d := d + 1) (key := key) (val := val) h hI (R := R)
  have f0 := h.1.1
  by_cases hm : rz_mayI (L, fl, am, lat, rd, laid, ci, co, tb) key val < 0
  · have c1 : ¬ 0 ≤ rz_mayI (L, fl, am, lat, rd, laid, ci, co, tb) key val := Int32.not_le.mpr hm
    simp only [↓ri_141_0, ↓ri_141_1, ↓ri_141_2, ↓ri_141_3, ↓ri_141_6, ↓ri_141_7, ↓ri_141_8, ↓ri_141_11, ↓ri_141_12, ↓ri_141_13, ↓ri_141_14, ↓ri_141_17, ↓ri_141_18, ↓ri_141_21, ↓ri_141_22, ↓ri_141_23, ↓ri_141_26, Option.some.injEq, Prod.mk.injEq, exists_eq_left', exists_eq', exists_and_left, exists_and_right, true_and, and_true, true_or, or_true, and_self, and_assoc, Option.toList_some, Option.toList_none, List.cons_append, List.nil_append, ↓reduceIte, rz_x01, rz_x10, om, rz_co_fv f0, ↓if_neg c1]
    rw [rz_in_may hm] at kk
    refine kk hp ?_ rz_sm.rf
    unfold rz_hs
    rw [if_pos hm]
    exact h.mono (by omega)
  · obtain ⟨e1, hk, hfl, hl, hc⟩ := rz_in_ok hm
    have c1 : 0 ≤ rz_mayI (L, fl, am, lat, rd, laid, ci, co, tb) key val := Int32.not_lt.mp hm
    obtain ⟨b, hb, rfl⟩ := rz_key_of hk
    simp only [↓ri_141_0, ↓ri_141_1, ↓ri_141_2, ↓ri_141_3, ↓ri_141_6, ↓ri_141_7, ↓ri_141_8, ↓ri_141_11, ↓ri_141_12, ↓ri_141_13, ↓ri_141_14, Option.some.injEq, Prod.mk.injEq, exists_eq_left', exists_eq', exists_and_left, exists_and_right, true_and, and_true, true_or, or_true, and_self, and_assoc, Option.toList_some, Option.toList_none, List.cons_append, List.nil_append, ↓reduceIte, rz_x01, rz_x10, om, rz_co_fv f0, ↓if_pos c1]
    refine m_M_records (d := d) h (fun h1 k1 s1 => ?_)
    obtain ⟨⟨g0, -⟩, ⟨f, a1, w1⟩, -⟩ := id k1
    simp only [↓ri_141_17, ↓ri_141_18, ↓ri_141_21, ↓ri_141_22, ↓ri_141_23, Option.some.injEq, Prod.mk.injEq, exists_eq_left', exists_eq', exists_and_left, exists_and_right, true_and, and_true, true_or, or_true, and_self, and_assoc, Option.toList_some, Option.toList_none, List.cons_append, List.nil_append, ↓reduceIte, rz_x01, rz_x10, g0]
    refine m_M_comesInW (d := d) a1 w1 hI.1 (by omega) hb (by omega) (fun h2 f2 a2 w2 s2 => ?_)
    simp only [↓ri_141_26, Option.some.injEq, Prod.mk.injEq, exists_eq_left', exists_eq', exists_and_left, exists_and_right, true_and, and_true, true_or, or_true, and_self, and_assoc, Option.toList_some, Option.toList_none, List.cons_append, List.nil_append, ↓reduceIte, rz_x01, rz_x10]
    rw [e1] at kk
    refine kk h2 ?_ (s1.tr (s2.wd (by omega) (by omega)))
    have hci : ¬ ci < 0 := by
      obtain ⟨⟨c, n, -, -, hn, rfl, -⟩, -⟩ := hI.1
      exact nI_pos (by omega)
    unfold rz_hs
    rw [if_neg hci]
    exact k1.row ⟨f2, a2, w2.mono (by omega)⟩ (by omega) s2
set_option maxHeartbeats 4000000 in
set_option maxRecDepth 100000 in
theorem m_M_comeOut (h : rz_MM m s hist shot tx ro re sp os B hp) (hI : rz_IV s) (hB : B < 2 ^ 29) (kk : ∀ hp', rz_MM m (rz_out_ s).2 (rz_hs (rz_out_ s).1 s hist) shot tx ro re sp os (B + 2000) hp' → rz_sm m (m + 9) hp hp' → R (some (.int (rz_out_ s).1)) hp') : rz_ev (d + 5) 142 0 [some (.ref m)] [] hp R := by
  obtain ⟨L, fl, am, lat, rd, laid, ci, co, tb⟩ := s
  obtain ⟨⟨f0, -⟩, ⟨f, a1, w1⟩, -⟩ := id h
  have h1 := w1.one.1
  replace h1 : f 1 = nI L.length := h1
  cases hn : rz_nxf L with
  | none =>
    have hL := rz_nxf_none hn
    subst hL
    have c1 : nI ([] : List rz_En).length = 0 := rfl
    simp only [↓ri_142_0, ↓ri_142_1, ↓ri_142_4, ↓ri_142_5, ↓ri_142_6, ↓ri_142_9, ↓ri_142_11, Option.some.injEq, Prod.mk.injEq, exists_eq_left', exists_eq', exists_and_left, exists_and_right, true_and, and_true, true_or, or_true, and_self, and_assoc, Option.toList_some, Option.toList_none, List.cons_append, List.nil_append, ↓reduceIte, rz_x01, rz_x10, f0, a1, rz_v1, rz_k1, h1, ↓if_pos c1]
    rw [rz_out_none] at kk
    exact kk hp (by unfold rz_hs; rw [if_pos (show (-5 : Int32) < 0 by decide)]; exact h.mono (by omega)) rz_sm.rf
  | some j =>
    have hnx := rz_nxf_some hn
    obtain ⟨e, he, -, -⟩ := id hnx
    obtain ⟨e1, he1, -⟩ := rz_re_at he
    have hj := (List.getElem?_eq_some_iff.mp he).1
    have h40 := hI.2.1
    have c1 : ¬ nI L.length = 0 := nI_ne0 (by omega) (by omega)
    simp only [↓ri_142_0, ↓ri_142_1, ↓ri_142_4, ↓ri_142_5, ↓ri_142_6, ↓ri_142_9, ↓ri_142_11, ↓ri_142_12, ↓ri_142_13, Option.some.injEq, Prod.mk.injEq, exists_eq_left', exists_eq', exists_and_left, exists_and_right, true_and, and_true, true_or, or_true, and_self, and_assoc, Option.toList_some, Option.toList_none, List.cons_append, List.nil_append, ↓reduceIte, rz_x01, rz_x10, f0, a1, rz_v1, rz_k1, h1, ↓if_neg c1, rz_co_fv f0]
    refine m_M_records (d := d + 2) h (fun h1 k1 s1 => ?_)
    obtain ⟨⟨g0, -⟩, ⟨f', a1', w1'⟩, -⟩ := id k1
    simp only [↓ri_142_16, ↓ri_142_17, ↓ri_142_20, Option.some.injEq, Prod.mk.injEq, exists_eq_left', exists_eq', exists_and_left, exists_and_right, true_and, and_true, true_or, or_true, and_self, and_assoc, Option.toList_some, Option.toList_none, List.cons_append, List.nil_append, ↓reduceIte, rz_x01, rz_x10, g0]
    refine m_M_comesOut (d := d) a1' w1' hI.1 hn (by omega) (fun h2 f2 a2 w2 s2 => ?_)
    simp only [↓ri_142_23, Option.some.injEq, Prod.mk.injEq, exists_eq_left', exists_eq', exists_and_left, exists_and_right, true_and, and_true, true_or, or_true, and_self, and_assoc, Option.toList_some, Option.toList_none, List.cons_append, List.nil_append, ↓reduceIte, rz_x01, rz_x10]
    refine kk h2 ?_ (s1.tr (s2.wd (by omega) (by omega)))
    have hnn : ¬ (rz_out_ (L, fl, am, lat, rd, laid, ci, co, tb)).1 < 0 := by
      rw [rz_out_eq hn he he1]
      exact Int32.not_lt.mpr (hI.1.lt40 e (List.mem_of_getElem? he)).2.2.2.2
    unfold rz_hs
    rw [if_neg hnn]
    exact k1.row ⟨f2, a2, w2.mono (by omega)⟩ (by omega) s2
end RZM8
