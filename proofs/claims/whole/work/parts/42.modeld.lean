/-! RisingPilesModel: distance, search -/
section RZMI
variable {d a m lo hi n : Nat} {f f2 g : Nat → Int32} {hp h1 : rz_Hp} {R : Option Value → rz_Hp → Prop} {s s2 x : rz_AS} {hist : List rz_AS} {shot : Option rz_AS} {tx : List Int32} {ro re sp sv sh le od : Int32} {os : List rz_Or} {B B2 : Nat}
set_option maxHeartbeats 4000000 in
set_option maxRecDepth 100000 in
theorem m_M_distance {x y : Int32} (h : rz_MM m s hist shot tx ro re sp os B hp) (hI : rz_IV s) (kk : ∀ hp', rz_MM m s hist shot tx ro re sp os B hp' → rz_sm m (m + 9) hp hp' → R (some (.int (rz_distance_ s.2.2.2.2.1 x y))) hp') : rz_ev (d + 6) 178 0 [some (.ref m), some (.int x), some (.int y)] [] hp R := by
  have hrd : rz_rdo s.2.2.2.2.1 := by obtain ⟨L, fl, am, lat, rd, laid, ci, co, tb⟩ := s; exact hI.2.2.1
  have z10 : ¬ (1 : Int32) = 0 := by decide
  have f0 := h.1.1
  unfold rz_distance_ at kk
  by_cases hx : rz_town x
  · have tx' := fun R => (m_M_isTown (d := d + 4) (hp := hp) (R := R)).1 hx
    by_cases hy : rz_town y
    · have ty := fun R => (m_M_isTown (d := d + 4) (hp := hp) (R := R)).1 hy
      obtain ⟨t, ht, rfl⟩ := rz_town_of hx
      obtain ⟨u, hu, rfl⟩ := rz_town_of hy
      simp only [if_pos (And.intro hx hy), nI_clamp (show t < 2 ^ 31 by omega), nI_clamp (show u < 2 ^ 31 by omega)] at kk
      simp only [↓ri_178_0, ↓ri_178_1, ↓ri_178_4, ↓ri_178_7, ↓ri_178_8, ↓ri_178_11, ↓ri_178_14, ↓ri_178_15, ↓ri_178_16, ↓ri_178_17, ↓ri_178_18, Option.some.injEq, Prod.mk.injEq, exists_eq_left', exists_eq', exists_and_left, exists_and_right, true_and, and_true, true_or, or_true, and_self, and_assoc, Option.toList_some, Option.toList_none, List.cons_append, List.nil_append, ↓reduceIte, rz_x01, rz_x10, tx', ty, ↓if_neg z10, rz_co_fv f0]
      refine m_M_searches (d := d) hrd ht h rfl (fun h2 f' g' hM a3 w a8 hg hG hsm => ?_)
      obtain ⟨q0, q1, q2, q3, q4, q5, q6, q7, q8, q9, q10, q11, q12, q13, q14⟩ := id hM.1
      have v3 : vp_in (nI u) 12 := vp_in_nI hu (by decide)
      simp only [↓ri_178_21, ↓ri_178_22, ↓ri_178_25, ↓ri_178_26, ↓ri_178_27, Option.some.injEq, Prod.mk.injEq, exists_eq_left', exists_eq', exists_and_left, exists_and_right, true_and, and_true, true_or, or_true, and_self, and_assoc, Option.toList_some, Option.toList_none, List.cons_append, List.nil_append, ↓reduceIte, rz_x01, rz_x10, q14, a8, v3, nI_clamp (show u < 2 ^ 31 by omega), hg u hu]
      exact kk h2 hM hsm
    · have ty := fun R => (m_M_isTown (d := d + 4) (hp := hp) (R := R)).2 hy
      have h1 : ¬ (rz_town x ∧ rz_town y) := fun q => hy q.2
      simp only [if_neg h1] at kk
      simp only [↓ri_178_0, ↓ri_178_1, ↓ri_178_4, ↓ri_178_7, ↓ri_178_8, ↓ri_178_11, ↓ri_178_14, ↓ri_178_15, Option.some.injEq, Prod.mk.injEq, exists_eq_left', exists_eq', exists_and_left, exists_and_right, true_and, and_true, true_or, or_true, and_self, and_assoc, Option.toList_some, Option.toList_none, List.cons_append, List.nil_append, ↓reduceIte, rz_x01, rz_x10, tx', ty, ↓if_neg z10]
      exact kk hp h rz_sm.rf
  · have tx' := fun R => (m_M_isTown (d := d + 4) (hp := hp) (R := R)).2 hx
    have h1 : ¬ (rz_town x ∧ rz_town y) := fun q => hx q.1
    simp only [if_neg h1] at kk
    simp only [↓ri_178_0, ↓ri_178_1, ↓ri_178_4, ↓ri_178_7, ↓ri_178_8, ↓ri_178_11, ↓ri_178_14, ↓ri_178_15, Option.some.injEq, Prod.mk.injEq, exists_eq_left', exists_eq', exists_and_left, exists_and_right, true_and, and_true, true_or, or_true, and_self, and_assoc, Option.toList_some, Option.toList_none, List.cons_append, List.nil_append, ↓reduceIte, rz_x01, rz_x10, tx']
    exact kk hp h rz_sm.rf
set_option maxHeartbeats 4000000 in
set_option maxRecDepth 100000 in
theorem m_M_searched_loop {ds : Nat → Int32} {from' what : Int32} (f14 : rz_fv hp m 9 14 = some (.ref (m + 8))) (a8 : rz_av hp (m + 8) = some (0, 12, g)) (hg : ∀ i, i < 12 → g i = ds i) (kk : rz_ev d 179 72 [some (.ref m), some (.int from'), some (.int what), some (.int (nI (rz_dc ds 12))), some (.int (rz_gm ds 12)), some (.int (nI 12))] [] hp R) : rz_ev d 179 13 [some (.ref m), some (.int from'), some (.int what), some (.int 0), some (.int 0), some (.int 0)] [] hp R := by
  have hL : ∀ n, n ≤ 12 → rz_ev d 179 13 [some (.ref m), some (.int from'), some (.int what), some (.int (nI (rz_dc ds n))), some (.int (rz_gm ds n)), some (.int (nI n))] [] hp R := by
    refine rz_down 12 ?_ ?_
    · have c1 : (12 : Int32) ≤ nI 12 := by decide
      rw [ri_179_13]
      simp only [↓ri_179_15, ↓ri_179_17, Option.some.injEq, Prod.mk.injEq, exists_eq_left', exists_eq', exists_and_left, exists_and_right, true_and, and_true, true_or, or_true, and_self, and_assoc, Option.toList_some, Option.toList_none, List.cons_append, List.nil_append, ↓reduceIte, rz_x01, rz_x10, ↓if_pos c1]
      exact kk
    · intro n hn ih
      have c1 : ¬ (12 : Int32) ≤ nI n := nI_ge (b := 12) hn (by decide)
      have v3 : vp_in (nI n) 12 := vp_in_nI hn (by decide)
      have k3 : (nI n).toNatClampNeg = n := nI_clamp (by omega)
      rw [rz_dc_s, rz_gm_s] at ih
      rw [ri_179_13]
      by_cases h5 : ds n = -5
      · have l1 : ¬ rz_gm ds n < ds n := by rw [h5]; exact Int32.not_lt.mpr (Int32.le_trans (by decide) (rz_gm_0 ds n))
        rw [if_pos h5, if_neg l1] at ih
        have l2 : ds n ≤ rz_gm ds n := Int32.not_lt.mp l1
        simp only [↓ri_179_15, ↓ri_179_17, ↓ri_179_20, ↓ri_179_21, ↓ri_179_22, ↓ri_179_25, ↓ri_179_27, ↓ri_179_28, ↓ri_179_30, ↓ri_179_33, ↓ri_179_34, ↓ri_179_37, ↓ri_179_38, ↓ri_179_39, ↓ri_179_40, ↓ri_179_41, ↓ri_179_44, ↓ri_179_46, ↓ri_179_47, ↓ri_179_49, ↓ri_179_52, ↓ri_179_53, ↓ri_179_56, ↓ri_179_58, ↓ri_179_59, ↓ri_179_62, ↓ri_179_64, ↓ri_179_66, ↓ri_179_69, Option.some.injEq, Prod.mk.injEq, exists_eq_left', exists_eq', exists_and_left, exists_and_right, true_and, and_true, true_or, or_true, and_self, and_assoc, Option.toList_some, Option.toList_none, List.cons_append, List.nil_append, ↓reduceIte, rz_x01, rz_x10, ↓if_neg c1, f14, a8, v3, k3, hg n hn, ↓if_pos h5, Int32.add_zero, nI_1, ↓if_pos l2]
        exact ih
      · by_cases l1 : rz_gm ds n < ds n
        · have l2 : ¬ ds n ≤ rz_gm ds n := Int32.not_le.mpr l1
          rw [if_neg h5, if_pos l1] at ih
          simp only [↓ri_179_15, ↓ri_179_17, ↓ri_179_20, ↓ri_179_21, ↓ri_179_22, ↓ri_179_25, ↓ri_179_27, ↓ri_179_28, ↓ri_179_30, ↓ri_179_33, ↓ri_179_34, ↓ri_179_37, ↓ri_179_38, ↓ri_179_39, ↓ri_179_40, ↓ri_179_41, ↓ri_179_44, ↓ri_179_46, ↓ri_179_47, ↓ri_179_49, ↓ri_179_52, ↓ri_179_53, ↓ri_179_56, ↓ri_179_58, ↓ri_179_59, ↓ri_179_62, ↓ri_179_64, ↓ri_179_66, ↓ri_179_69, Option.some.injEq, Prod.mk.injEq, exists_eq_left', exists_eq', exists_and_left, exists_and_right, true_and, and_true, true_or, or_true, and_self, and_assoc, Option.toList_some, Option.toList_none, List.cons_append, List.nil_append, ↓reduceIte, rz_x01, rz_x10, ↓if_neg c1, f14, a8, v3, k3, hg n hn, ↓if_neg h5, nI_1, ↓if_neg l2]
          exact ih
        · have l2 : ds n ≤ rz_gm ds n := Int32.not_lt.mp l1
          rw [if_neg h5, if_neg l1] at ih
          simp only [↓ri_179_15, ↓ri_179_17, ↓ri_179_20, ↓ri_179_21, ↓ri_179_22, ↓ri_179_25, ↓ri_179_27, ↓ri_179_28, ↓ri_179_30, ↓ri_179_33, ↓ri_179_34, ↓ri_179_37, ↓ri_179_38, ↓ri_179_39, ↓ri_179_40, ↓ri_179_41, ↓ri_179_44, ↓ri_179_46, ↓ri_179_47, ↓ri_179_49, ↓ri_179_52, ↓ri_179_53, ↓ri_179_56, ↓ri_179_58, ↓ri_179_59, ↓ri_179_62, ↓ri_179_64, ↓ri_179_66, ↓ri_179_69, Option.some.injEq, Prod.mk.injEq, exists_eq_left', exists_eq', exists_and_left, exists_and_right, true_and, and_true, true_or, or_true, and_self, and_assoc, Option.toList_some, Option.toList_none, List.cons_append, List.nil_append, ↓reduceIte, rz_x01, rz_x10, ↓if_neg c1, f14, a8, v3, k3, hg n hn, ↓if_neg h5, nI_1, ↓if_pos l2]
          exact ih
  have := hL 0 (Nat.zero_le _)
  rw [show rz_gm ds 0 = 0 from rfl, show rz_dc ds 0 = 0 from rfl, nI_0] at this
  exact this
set_option maxHeartbeats 4000000 in
set_option maxRecDepth 100000 in
theorem m_M_search {x what : Int32} (h : rz_MM m s hist shot tx ro re sp os B hp) (hI : rz_IV s) (kk : ∀ hp', rz_MM m s hist shot tx ro re sp os B hp' → rz_sm m (m + 9) hp hp' → R (some (.int (rz_search_ s.2.2.2.2.1 x what))) hp') : rz_ev (d + 7) 180 0 [some (.ref m), some (.int x), some (.int what)] [] hp R := by
  have hrd : rz_rdo s.2.2.2.2.1 := by obtain ⟨L, fl, am, lat, rd, laid, ci, co, tb⟩ := s; exact hI.2.2.1
  have z10 : ¬ (1 : Int32) = 0 := by decide
  have f0 := h.1.1
  unfold rz_search_ at kk
  by_cases hx : rz_town x
  · have tx' := fun R => (m_M_isTown (d := d + 5) (hp := hp) (R := R)).1 hx
    obtain ⟨t, ht, rfl⟩ := rz_town_of hx
    simp only [if_pos hx, nI_clamp (show t < 2 ^ 31 by omega)] at kk
    by_cases hw : 0 ≤ what ∧ what ≤ 3
    · have oi := fun R => (m_M_in (d := d + 6) (hp := hp) (R := R)).1 hw
      simp only [↓ri_180_0, ↓ri_180_1, ↓ri_180_4, ↓ri_180_7, ↓ri_180_8, ↓ri_180_11, ↓ri_180_12, ↓ri_180_13, ↓ri_180_14, ↓ri_180_17, ↓ri_180_20, ↓ri_180_21, ↓ri_180_22, ↓ri_180_23, Option.some.injEq, Prod.mk.injEq, exists_eq_left', exists_eq', exists_and_left, exists_and_right, true_and, and_true, true_or, or_true, and_self, and_assoc, Option.toList_some, Option.toList_none, List.cons_append, List.nil_append, ↓reduceIte, rz_x01, rz_x10, tx', oi, ↓if_neg z10, rz_co_fv f0]
      simp only [↓ri_179_0, ↓ri_179_1, ↓ri_179_2, Option.some.injEq, Prod.mk.injEq, exists_eq_left', exists_eq', exists_and_left, exists_and_right, true_and, and_true, true_or, or_true, and_self, and_assoc, Option.toList_some, Option.toList_none, List.cons_append, List.nil_append, ↓reduceIte, rz_x01, rz_x10, rz_co_fv f0]
      refine m_M_searches (d := d) hrd ht h rfl (fun h2 f' g' hM a3 w a8 hg hG hsm => ?_)
      obtain ⟨q0, q1, q2, q3, q4, q5, q6, q7, q8, q9, q10, q11, q12, q13, q14⟩ := id hM.1
      obtain ⟨lat, rd2, laid2, co2, tb2, w2⟩ := id w
      obtain ⟨S, Z, hS, ⟨u0, u2, u3, u4, u5, u6, u7, u8⟩, hZ, hY⟩ := id w2
      have kk2 := kk h2 hM hsm
      simp only [↓ri_179_5, ↓ri_179_6, ↓ri_179_7, ↓ri_179_8, ↓ri_179_10, ↓ri_179_11, Option.some.injEq, Prod.mk.injEq, exists_eq_left', exists_eq', exists_and_left, exists_and_right, true_and, and_true, true_or, or_true, and_self, and_assoc, Option.toList_some, Option.toList_none, List.cons_append, List.nil_append, ↓reduceIte, rz_x01, rz_x10]
      refine m_M_searched_loop (d := d + 6) q14 a8 hg ?_
      rw [← hG.1, ← hG.2]
      by_cases w0 : what = 0
      · simp only [if_pos w0] at kk2
        simp only [↓ri_179_72, ↓ri_179_73, ↓ri_179_76, ↓ri_179_77, ↓ri_179_80, ↓ri_179_81, ↓ri_179_82, ↓ri_179_85, ↓ri_179_86, ↓ri_179_89, ↓ri_179_90, ↓ri_179_91, ↓ri_179_94, ↓ri_179_95, ↓ri_179_96, ↓ri_179_99, ↓ri_179_100, ↓ri_179_103, ↓ri_179_104, ↓ri_179_105, ↓ri_179_108, ↓ri_179_110, ↓ri_180_26, ↓ri_180_29, ↓ri_180_31, Option.some.injEq, Prod.mk.injEq, exists_eq_left', exists_eq', exists_and_left, exists_and_right, true_and, and_true, true_or, or_true, and_self, and_assoc, Option.toList_some, Option.toList_none, List.cons_append, List.nil_append, ↓reduceIte, rz_x01, rz_x10, ↓if_pos w0]
        exact kk2
      · by_cases w1' : what = 1
        · simp only [if_neg w0, ↓if_pos w1'] at kk2
          simp only [↓ri_179_72, ↓ri_179_73, ↓ri_179_76, ↓ri_179_77, ↓ri_179_80, ↓ri_179_81, ↓ri_179_82, ↓ri_179_85, ↓ri_179_86, ↓ri_179_89, ↓ri_179_90, ↓ri_179_91, ↓ri_179_94, ↓ri_179_95, ↓ri_179_96, ↓ri_179_99, ↓ri_179_100, ↓ri_179_103, ↓ri_179_104, ↓ri_179_105, ↓ri_179_108, ↓ri_179_110, ↓ri_180_26, ↓ri_180_29, ↓ri_180_31, Option.some.injEq, Prod.mk.injEq, exists_eq_left', exists_eq', exists_and_left, exists_and_right, true_and, and_true, true_or, or_true, and_self, and_assoc, Option.toList_some, Option.toList_none, List.cons_append, List.nil_append, ↓reduceIte, rz_x01, rz_x10, ↓if_neg w0, ↓if_pos w1', q2, a3, rz_v2, rz_k2, u2]
          exact kk2
        · by_cases w2' : what = 2
          · simp only [if_neg w0, ↓if_neg w1', ↓if_pos w2'] at kk2
            simp only [↓ri_179_72, ↓ri_179_73, ↓ri_179_76, ↓ri_179_77, ↓ri_179_80, ↓ri_179_81, ↓ri_179_82, ↓ri_179_85, ↓ri_179_86, ↓ri_179_89, ↓ri_179_90, ↓ri_179_91, ↓ri_179_94, ↓ri_179_95, ↓ri_179_96, ↓ri_179_99, ↓ri_179_100, ↓ri_179_103, ↓ri_179_104, ↓ri_179_105, ↓ri_179_108, ↓ri_179_110, ↓ri_180_26, ↓ri_180_29, ↓ri_180_31, Option.some.injEq, Prod.mk.injEq, exists_eq_left', exists_eq', exists_and_left, exists_and_right, true_and, and_true, true_or, or_true, and_self, and_assoc, Option.toList_some, Option.toList_none, List.cons_append, List.nil_append, ↓reduceIte, rz_x01, rz_x10, ↓if_neg w0, ↓if_neg w1', ↓if_pos w2', q2, a3, rz_v4, rz_k4, u4]
            exact kk2
          · have w3' : what = 3 := by
              obtain ⟨k, hk, rfl⟩ := nI_of2 (M := 3) (n := 3) (by decide) (Int32.not_lt.mpr hw.1) hw.2
              have hk4 : k = 0 ∨ k = 1 ∨ k = 2 ∨ k = 3 := by omega
              rcases hk4 with rfl | rfl | rfl | rfl
              · exact absurd rfl w0
              · exact absurd rfl w1'
              · exact absurd rfl w2'
              · rfl
            simp only [if_neg w0, ↓if_neg w1', ↓if_neg w2', ↓if_pos w3'] at kk2
            simp only [↓ri_179_72, ↓ri_179_73, ↓ri_179_76, ↓ri_179_77, ↓ri_179_80, ↓ri_179_81, ↓ri_179_82, ↓ri_179_85, ↓ri_179_86, ↓ri_179_89, ↓ri_179_90, ↓ri_179_91, ↓ri_179_94, ↓ri_179_95, ↓ri_179_96, ↓ri_179_99, ↓ri_179_100, ↓ri_179_103, ↓ri_179_104, ↓ri_179_105, ↓ri_179_108, ↓ri_179_110, ↓ri_180_26, ↓ri_180_29, ↓ri_180_31, Option.some.injEq, Prod.mk.injEq, exists_eq_left', exists_eq', exists_and_left, exists_and_right, true_and, and_true, true_or, or_true, and_self, and_assoc, Option.toList_some, Option.toList_none, List.cons_append, List.nil_append, ↓reduceIte, rz_x01, rz_x10, ↓if_neg w0, ↓if_neg w1', ↓if_neg w2']
            exact kk2
    · have oi := fun R => (m_M_in (d := d + 6) (hp := hp) (R := R)).2 hw
      have n0 : ¬ what = 0 := fun q => hw (by rw [q]; decide)
      have n1 : ¬ what = 1 := fun q => hw (by rw [q]; decide)
      have n2 : ¬ what = 2 := fun q => hw (by rw [q]; decide)
      have n3 : ¬ what = 3 := fun q => hw (by rw [q]; decide)
      simp only [if_neg n0, ↓if_neg n1, ↓if_neg n2, ↓if_neg n3] at kk
      simp only [↓ri_180_0, ↓ri_180_1, ↓ri_180_4, ↓ri_180_7, ↓ri_180_8, ↓ri_180_11, ↓ri_180_12, ↓ri_180_13, ↓ri_180_14, ↓ri_180_17, ↓ri_180_20, ↓ri_180_21, ↓ri_180_22, ↓ri_180_23, ↓ri_180_26, ↓ri_180_29, ↓ri_180_31, Option.some.injEq, Prod.mk.injEq, exists_eq_left', exists_eq', exists_and_left, exists_and_right, true_and, and_true, true_or, or_true, and_self, and_assoc, Option.toList_some, Option.toList_none, List.cons_append, List.nil_append, ↓reduceIte, rz_x01, rz_x10, tx', oi, ↓if_neg z10]
      exact kk hp h rz_sm.rf
  · have tx' := fun R => (m_M_isTown (d := d + 5) (hp := hp) (R := R)).2 hx
    simp only [if_neg hx] at kk
    simp only [↓ri_180_0, ↓ri_180_1, ↓ri_180_4, ↓ri_180_7, ↓ri_180_8, ↓ri_180_11, ↓ri_180_12, ↓ri_180_13, ↓ri_180_14, ↓ri_180_17, ↓ri_180_20, ↓ri_180_21, ↓ri_180_22, ↓ri_180_23, ↓ri_180_26, ↓ri_180_29, ↓ri_180_31, Option.some.injEq, Prod.mk.injEq, exists_eq_left', exists_eq', exists_and_left, exists_and_right, true_and, and_true, true_or, or_true, and_self, and_assoc, Option.toList_some, Option.toList_none, List.cons_append, List.nil_append, ↓reduceIte, rz_x01, rz_x10, tx']
    exact kk hp h rz_sm.rf
end RZMI
