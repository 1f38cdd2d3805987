/-! Orders goes on -/
set_option maxHeartbeats 4000000 in
set_option maxRecDepth 100000 in
theorem c_O_readMakeLess {d q t i : Nat} {tx : List Int32} {os : List rz_Or} {hp : rz_Hp} (hl : os.length < 30) (hqt : t + 2 ≤ q ∨ q + 4 ≤ t) (hi : i < tx.length) (hT : rz_TX t tx hp) (hO : rz_OR q os (nI i) hp) {R : Option Value → rz_Hp → Prop} (kk : ∀ hp', rz_OR q (rz_os os (rz_rL tx (i + 1)).1) (nI (rz_rL tx (i + 1)).2) hp' → rz_sm q (q + 4) hp hp' → R (some (.int (rz_ob01 (rz_rL tx (i + 1)).1))) hp') : rz_ev (d + 2) 22 0 [some (.ref q), some (.ref t), none, none] [] hp R := by
  obtain ⟨hL, p0, p1, p2, p3, p4, -⟩ := id hO
  have hs0 : rz_sm q (q + 4) hp (rz_pf hp q 4 (.int (nI (i + 1)))) := rz_sm_pf (by omega) (by omega)
  have hT0 := rz_TX_sm hT hs0 (by omega)
  have hle := hT.1
  simp only [↓ri_22_0, ↓ri_22_1, ↓ri_22_2, ↓ri_22_5, ↓ri_22_6, ↓ri_22_7, ↓ri_22_10, ↓ri_22_11, ↓ri_22_12, ↓ri_22_15, ↓ri_22_18, ↓ri_22_19, ↓ri_22_20, ↓ri_22_21, ↓ri_22_24, ↓ri_22_25, ↓ri_22_26, ↓ri_22_29, ↓ri_22_32, ↓ri_22_34, ↓ri_22_37, ↓ri_22_38, ↓ri_22_39, ↓ri_22_40, ↓ri_22_41, ↓ri_22_44, ↓ri_22_45, ↓ri_22_46, ↓ri_22_49, ↓ri_22_50, ↓ri_22_51, ↓ri_22_53, ↓ri_22_56, ↓ri_22_57, ↓ri_22_58, ↓ri_22_59, ↓ri_22_62, ↓ri_22_63, ↓ri_22_65, ↓ri_22_66, ↓ri_22_67, ↓ri_22_70, ↓ri_22_73, ↓ri_22_74, ↓ri_22_77, ↓ri_22_78, Option.some.injEq, Prod.mk.injEq, exists_eq_left', exists_eq', exists_and_left, exists_and_right, true_and, and_true, true_or, or_true, and_self, and_assoc, Option.toList_some, Option.toList_none, List.cons_append, List.nil_append, ↓reduceIte, rz_x01, rz_x10, rz_fv_pf, rz_av_pf, rz_qv_pf, rz_ln_pf, rz_co_pf, rz_fv_pa, rz_av_pa, rz_qv_pa, rz_ln_pa, rz_co_pa, rz_fv_pq, rz_av_pq, rz_qv_pq, rz_ln_pq, rz_co_pq, Nat.reduceEqDiff, Nat.add_eq_left, Nat.left_eq_add, Nat.one_ne_zero, Option.map_some, exists_const, p4, nI_1, rz_co_fv p0]
  refine c_O_readNumber (d := d) (most := 999) (by decide) hqt hi hT0 (rz_OR_pl hO) (fun h1 hO1 hs1 => ?_)
  have hT1 := rz_TX_sm hT0 hs1 (by omega)
  have hco : rz_co h1 q = some 2 := rz_co_fv hO1.2.1
  have hcoT : rz_co h1 t = some 7 := rz_co_fv hT1.2.1
  have hbd := rz_rn_most tx 999 60 none (i + 1) (fun x hx => by cases hx)
  have hjl := rz_rn_le tx 999 60 none (i + 1) hi
  unfold rz_rL at kk
  cases hx : rz_rn tx 999 60 none (i + 1) with
  | mk v j =>
    rw [hx] at hjl hO1
    cases v with
    | none =>
      simp only [hx, rz_os, rz_ob01] at kk hO1
      simp only [↓ri_22_0, ↓ri_22_1, ↓ri_22_2, ↓ri_22_5, ↓ri_22_6, ↓ri_22_7, ↓ri_22_10, ↓ri_22_11, ↓ri_22_12, ↓ri_22_15, ↓ri_22_18, ↓ri_22_19, ↓ri_22_20, ↓ri_22_21, ↓ri_22_24, ↓ri_22_25, ↓ri_22_26, ↓ri_22_29, ↓ri_22_32, ↓ri_22_34, ↓ri_22_37, ↓ri_22_38, ↓ri_22_39, ↓ri_22_40, ↓ri_22_41, ↓ri_22_44, ↓ri_22_45, ↓ri_22_46, ↓ri_22_49, ↓ri_22_50, ↓ri_22_51, ↓ri_22_53, ↓ri_22_56, ↓ri_22_57, ↓ri_22_58, ↓ri_22_59, ↓ri_22_62, ↓ri_22_63, ↓ri_22_65, ↓ri_22_66, ↓ri_22_67, ↓ri_22_70, ↓ri_22_73, ↓ri_22_74, ↓ri_22_77, ↓ri_22_78, Option.some.injEq, Prod.mk.injEq, exists_eq_left', exists_eq', exists_and_left, exists_and_right, true_and, and_true, true_or, or_true, and_self, and_assoc, Option.toList_some, Option.toList_none, List.cons_append, List.nil_append, ↓reduceIte, rz_x01, rz_x10, rz_oi]
      exact kk _ hO1 (hs0.tr hs1)
    | some k =>
      have hk : k ≤ 999 := hbd k (by rw [hx])
      simp only [hx] at kk hO1
      have c2 : ¬ nI k = -1 := fun q => nI_pos (show k < 2 ^ 31 by omega) (by rw [q]; decide)
      have hh := fun R => c_X_signAt (d := d + 1) hT1 (i := j) (by dsimp only at hjl; omega) (R := R)
      obtain ⟨gL, r0, r1, r2, r3, r4, -⟩ := id hO1
      by_cases h61 : rz_sg tx j = 61
      · simp only [if_pos h61] at kk
        have hji : j < tx.length := rz_sg_in (by rw [h61]; decide)
        have hs2 : rz_sm q (q + 4) h1 (rz_pf h1 q 4 (.int (nI (j + 1)))) := rz_sm_pf (by omega) (by omega)
        simp only [↓ri_22_0, ↓ri_22_1, ↓ri_22_2, ↓ri_22_5, ↓ri_22_6, ↓ri_22_7, ↓ri_22_10, ↓ri_22_11, ↓ri_22_12, ↓ri_22_15, ↓ri_22_18, ↓ri_22_19, ↓ri_22_20, ↓ri_22_21, ↓ri_22_24, ↓ri_22_25, ↓ri_22_26, ↓ri_22_29, ↓ri_22_32, ↓ri_22_34, ↓ri_22_37, ↓ri_22_38, ↓ri_22_39, ↓ri_22_40, ↓ri_22_41, ↓ri_22_44, ↓ri_22_45, ↓ri_22_46, ↓ri_22_49, ↓ri_22_50, ↓ri_22_51, ↓ri_22_53, ↓ri_22_56, ↓ri_22_57, ↓ri_22_58, ↓ri_22_59, ↓ri_22_62, ↓ri_22_63, ↓ri_22_65, ↓ri_22_66, ↓ri_22_67, ↓ri_22_70, ↓ri_22_73, ↓ri_22_74, ↓ri_22_77, ↓ri_22_78, Option.some.injEq, Prod.mk.injEq, exists_eq_left', exists_eq', exists_and_left, exists_and_right, true_and, and_true, true_or, or_true, and_self, and_assoc, Option.toList_some, Option.toList_none, List.cons_append, List.nil_append, ↓reduceIte, rz_x01, rz_x10, rz_fv_pf, rz_av_pf, rz_qv_pf, rz_ln_pf, rz_co_pf, rz_fv_pa, rz_av_pa, rz_qv_pa, rz_ln_pa, rz_co_pa, rz_fv_pq, rz_av_pq, rz_qv_pq, rz_ln_pq, rz_co_pq, Nat.reduceEqDiff, Nat.add_eq_left, Nat.left_eq_add, Nat.one_ne_zero, Option.map_some, exists_const, rz_oi, ↓if_neg c2, r4, hcoT, hh, ↓if_pos h61, hco, nI_1]
        refine c_O_readNumber (d := d) (most := 65535) (by decide) hqt hji (rz_TX_sm hT1 hs2 (by omega)) (rz_OR_pl hO1) (fun h2 hO2 hs3 => ?_)
        have hco2 : rz_co h2 q = some 2 := rz_co_fv hO2.2.1
        have hbd2 := rz_rn_most tx 65535 60 none (j + 1) (fun x hx => by cases hx)
        cases hx2 : rz_rn tx 65535 60 none (j + 1) with
        | mk v2 m =>
          cases v2 with
          | none =>
            simp only [hx2, rz_os, rz_ob01] at kk hO2
            simp only [↓ri_22_0, ↓ri_22_1, ↓ri_22_2, ↓ri_22_5, ↓ri_22_6, ↓ri_22_7, ↓ri_22_10, ↓ri_22_11, ↓ri_22_12, ↓ri_22_15, ↓ri_22_18, ↓ri_22_19, ↓ri_22_20, ↓ri_22_21, ↓ri_22_24, ↓ri_22_25, ↓ri_22_26, ↓ri_22_29, ↓ri_22_32, ↓ri_22_34, ↓ri_22_37, ↓ri_22_38, ↓ri_22_39, ↓ri_22_40, ↓ri_22_41, ↓ri_22_44, ↓ri_22_45, ↓ri_22_46, ↓ri_22_49, ↓ri_22_50, ↓ri_22_51, ↓ri_22_53, ↓ri_22_56, ↓ri_22_57, ↓ri_22_58, ↓ri_22_59, ↓ri_22_62, ↓ri_22_63, ↓ri_22_65, ↓ri_22_66, ↓ri_22_67, ↓ri_22_70, ↓ri_22_73, ↓ri_22_74, ↓ri_22_77, ↓ri_22_78, Option.some.injEq, Prod.mk.injEq, exists_eq_left', exists_eq', exists_and_left, exists_and_right, true_and, and_true, true_or, or_true, and_self, and_assoc, Option.toList_some, Option.toList_none, List.cons_append, List.nil_append, ↓reduceIte, rz_x01, rz_x10, rz_oi]
            exact kk _ hO2 (((hs0.tr hs1).tr hs2).tr hs3)
          | some k2 =>
            have hk2 : k2 ≤ 65535 := hbd2 k2 (by rw [hx2])
            simp only [hx2, rz_os, rz_ob01] at kk hO2
            have c3 : ¬ nI k2 = -1 := fun q => nI_pos (show k2 < 2 ^ 31 by omega) (by rw [q]; decide)
            simp only [↓ri_22_0, ↓ri_22_1, ↓ri_22_2, ↓ri_22_5, ↓ri_22_6, ↓ri_22_7, ↓ri_22_10, ↓ri_22_11, ↓ri_22_12, ↓ri_22_15, ↓ri_22_18, ↓ri_22_19, ↓ri_22_20, ↓ri_22_21, ↓ri_22_24, ↓ri_22_25, ↓ri_22_26, ↓ri_22_29, ↓ri_22_32, ↓ri_22_34, ↓ri_22_37, ↓ri_22_38, ↓ri_22_39, ↓ri_22_40, ↓ri_22_41, ↓ri_22_44, ↓ri_22_45, ↓ri_22_46, ↓ri_22_49, ↓ri_22_50, ↓ri_22_51, ↓ri_22_53, ↓ri_22_56, ↓ri_22_57, ↓ri_22_58, ↓ri_22_59, ↓ri_22_62, ↓ri_22_63, ↓ri_22_65, ↓ri_22_66, ↓ri_22_67, ↓ri_22_70, ↓ri_22_73, ↓ri_22_74, ↓ri_22_77, ↓ri_22_78, Option.some.injEq, Prod.mk.injEq, exists_eq_left', exists_eq', exists_and_left, exists_and_right, true_and, and_true, true_or, or_true, and_self, and_assoc, Option.toList_some, Option.toList_none, List.cons_append, List.nil_append, ↓reduceIte, rz_x01, rz_x10, rz_oi, ↓if_neg c3, hco2]
            refine c_O_put (d := d + 1) hO2 hl (by decide) (fun h3 hO3 hs4 => ?_)
            simp only [↓ri_22_0, ↓ri_22_1, ↓ri_22_2, ↓ri_22_5, ↓ri_22_6, ↓ri_22_7, ↓ri_22_10, ↓ri_22_11, ↓ri_22_12, ↓ri_22_15, ↓ri_22_18, ↓ri_22_19, ↓ri_22_20, ↓ri_22_21, ↓ri_22_24, ↓ri_22_25, ↓ri_22_26, ↓ri_22_29, ↓ri_22_32, ↓ri_22_34, ↓ri_22_37, ↓ri_22_38, ↓ri_22_39, ↓ri_22_40, ↓ri_22_41, ↓ri_22_44, ↓ri_22_45, ↓ri_22_46, ↓ri_22_49, ↓ri_22_50, ↓ri_22_51, ↓ri_22_53, ↓ri_22_56, ↓ri_22_57, ↓ri_22_58, ↓ri_22_59, ↓ri_22_62, ↓ri_22_63, ↓ri_22_65, ↓ri_22_66, ↓ri_22_67, ↓ri_22_70, ↓ri_22_73, ↓ri_22_74, ↓ri_22_77, ↓ri_22_78, Option.some.injEq, Prod.mk.injEq, exists_eq_left', exists_eq', exists_and_left, exists_and_right, true_and, and_true, true_or, or_true, and_self, and_assoc, Option.toList_some, Option.toList_none, List.cons_append, List.nil_append, ↓reduceIte, rz_x01, rz_x10]
            exact kk _ hO3 ((((hs0.tr hs1).tr hs2).tr hs3).tr hs4)
      · simp only [if_neg h61, rz_os, rz_ob01] at kk
        simp only [↓ri_22_0, ↓ri_22_1, ↓ri_22_2, ↓ri_22_5, ↓ri_22_6, ↓ri_22_7, ↓ri_22_10, ↓ri_22_11, ↓ri_22_12, ↓ri_22_15, ↓ri_22_18, ↓ri_22_19, ↓ri_22_20, ↓ri_22_21, ↓ri_22_24, ↓ri_22_25, ↓ri_22_26, ↓ri_22_29, ↓ri_22_32, ↓ri_22_34, ↓ri_22_37, ↓ri_22_38, ↓ri_22_39, ↓ri_22_40, ↓ri_22_41, ↓ri_22_44, ↓ri_22_45, ↓ri_22_46, ↓ri_22_49, ↓ri_22_50, ↓ri_22_51, ↓ri_22_53, ↓ri_22_56, ↓ri_22_57, ↓ri_22_58, ↓ri_22_59, ↓ri_22_62, ↓ri_22_63, ↓ri_22_65, ↓ri_22_66, ↓ri_22_67, ↓ri_22_70, ↓ri_22_73, ↓ri_22_74, ↓ri_22_77, ↓ri_22_78, Option.some.injEq, Prod.mk.injEq, exists_eq_left', exists_eq', exists_and_left, exists_and_right, true_and, and_true, true_or, or_true, and_self, and_assoc, Option.toList_some, Option.toList_none, List.cons_append, List.nil_append, ↓reduceIte, rz_x01, rz_x10, rz_oi, ↓if_neg c2, r4, hcoT, hh, ↓if_neg h61]
        exact kk _ hO1 (hs0.tr hs1)
set_option maxHeartbeats 4000000 in
set_option maxRecDepth 100000 in
theorem c_O_readComeIn {d q t i : Nat} {tx : List Int32} {os : List rz_Or} {hp : rz_Hp} (hl : os.length < 30) (hqt : t + 2 ≤ q ∨ q + 4 ≤ t) (hi : i < tx.length) (hT : rz_TX t tx hp) (hO : rz_OR q os (nI i) hp) {R : Option Value → rz_Hp → Prop} (kk : ∀ hp', rz_OR q (rz_os os (rz_rA tx (i + 1)).1) (nI (rz_rA tx (i + 1)).2) hp' → rz_sm q (q + 4) hp hp' → R (some (.int (rz_ob01 (rz_rA tx (i + 1)).1))) hp') : rz_ev (d + 2) 19 0 [some (.ref q), some (.ref t), none, none] [] hp R := by
  obtain ⟨hL, p0, p1, p2, p3, p4, -⟩ := id hO
  have hs0 : rz_sm q (q + 4) hp (rz_pf hp q 4 (.int (nI (i + 1)))) := rz_sm_pf (by omega) (by omega)
  have hT0 := rz_TX_sm hT hs0 (by omega)
  have hle := hT.1
  simp only [↓ri_19_0, ↓ri_19_1, ↓ri_19_2, ↓ri_19_5, ↓ri_19_6, ↓ri_19_7, ↓ri_19_10, ↓ri_19_11, ↓ri_19_12, ↓ri_19_14, ↓ri_19_17, ↓ri_19_18, ↓ri_19_19, ↓ri_19_20, ↓ri_19_23, ↓ri_19_24, ↓ri_19_25, ↓ri_19_26, ↓ri_19_27, ↓ri_19_28, ↓ri_19_29, ↓ri_19_32, ↓ri_19_35, ↓ri_19_37, ↓ri_19_40, ↓ri_19_41, ↓ri_19_42, ↓ri_19_45, ↓ri_19_46, ↓ri_19_47, ↓ri_19_50, ↓ri_19_51, ↓ri_19_52, ↓ri_19_55, ↓ri_19_58, ↓ri_19_59, ↓ri_19_60, ↓ri_19_61, ↓ri_19_64, ↓ri_19_65, ↓ri_19_67, ↓ri_19_68, ↓ri_19_69, ↓ri_19_72, ↓ri_19_75, ↓ri_19_76, ↓ri_19_79, ↓ri_19_80, Option.some.injEq, Prod.mk.injEq, exists_eq_left', exists_eq', exists_and_left, exists_and_right, true_and, and_true, true_or, or_true, and_self, and_assoc, Option.toList_some, Option.toList_none, List.cons_append, List.nil_append, ↓reduceIte, rz_x01, rz_x10, rz_fv_pf, rz_av_pf, rz_qv_pf, rz_ln_pf, rz_co_pf, rz_fv_pa, rz_av_pa, rz_qv_pa, rz_ln_pa, rz_co_pa, rz_fv_pq, rz_av_pq, rz_qv_pq, rz_ln_pq, rz_co_pq, Nat.reduceEqDiff, Nat.add_eq_left, Nat.left_eq_add, Nat.one_ne_zero, Option.map_some, exists_const, p4, nI_1, rz_co_fv p0]
  refine c_O_readNumber (d := d) (most := 65535) (by decide) hqt hi hT0 (rz_OR_pl hO) (fun h1 hO1 hs1 => ?_)
  have hT1 := rz_TX_sm hT0 hs1 (by omega)
  have hco : rz_co h1 q = some 2 := rz_co_fv hO1.2.1
  have hcoT : rz_co h1 t = some 7 := rz_co_fv hT1.2.1
  have hbd := rz_rn_most tx 65535 60 none (i + 1) (fun x hx => by cases hx)
  have hjl := rz_rn_le tx 65535 60 none (i + 1) hi
  have c0 : ¬ (0 : Int32) = -1 := by decide
  unfold rz_rA at kk
  cases hx : rz_rn tx 65535 60 none (i + 1) with
  | mk v j =>
    rw [hx] at hjl hO1
    cases v with
    | none =>
      simp only [hx, rz_os, rz_ob01] at kk hO1
      simp only [↓ri_19_0, ↓ri_19_1, ↓ri_19_2, ↓ri_19_5, ↓ri_19_6, ↓ri_19_7, ↓ri_19_10, ↓ri_19_11, ↓ri_19_12, ↓ri_19_14, ↓ri_19_17, ↓ri_19_18, ↓ri_19_19, ↓ri_19_20, ↓ri_19_23, ↓ri_19_24, ↓ri_19_25, ↓ri_19_26, ↓ri_19_27, ↓ri_19_28, ↓ri_19_29, ↓ri_19_32, ↓ri_19_35, ↓ri_19_37, ↓ri_19_40, ↓ri_19_41, ↓ri_19_42, ↓ri_19_45, ↓ri_19_46, ↓ri_19_47, ↓ri_19_50, ↓ri_19_51, ↓ri_19_52, ↓ri_19_55, ↓ri_19_58, ↓ri_19_59, ↓ri_19_60, ↓ri_19_61, ↓ri_19_64, ↓ri_19_65, ↓ri_19_67, ↓ri_19_68, ↓ri_19_69, ↓ri_19_72, ↓ri_19_75, ↓ri_19_76, ↓ri_19_79, ↓ri_19_80, Option.some.injEq, Prod.mk.injEq, exists_eq_left', exists_eq', exists_and_left, exists_and_right, true_and, and_true, true_or, or_true, and_self, and_assoc, Option.toList_some, Option.toList_none, List.cons_append, List.nil_append, ↓reduceIte, rz_x01, rz_x10, rz_oi]
      exact kk _ hO1 (hs0.tr hs1)
    | some k =>
      have hk : k ≤ 65535 := hbd k (by rw [hx])
      simp only [hx] at kk hO1
      have c2 : ¬ nI k = -1 := fun q => nI_pos (show k < 2 ^ 31 by omega) (by rw [q]; decide)
      have hh := fun R => c_X_signAt (d := d + 1) hT1 (i := j) (by dsimp only at hjl; omega) (R := R)
      obtain ⟨gL, r0, r1, r2, r3, r4, -⟩ := id hO1
      by_cases h61 : rz_sg tx j = 58
      · simp only [if_pos h61] at kk
        have hji : j < tx.length := rz_sg_in (by rw [h61]; decide)
        have hs2 : rz_sm q (q + 4) h1 (rz_pf h1 q 4 (.int (nI (j + 1)))) := rz_sm_pf (by omega) (by omega)
        simp only [↓ri_19_0, ↓ri_19_1, ↓ri_19_2, ↓ri_19_5, ↓ri_19_6, ↓ri_19_7, ↓ri_19_10, ↓ri_19_11, ↓ri_19_12, ↓ri_19_14, ↓ri_19_17, ↓ri_19_18, ↓ri_19_19, ↓ri_19_20, ↓ri_19_23, ↓ri_19_24, ↓ri_19_25, ↓ri_19_26, ↓ri_19_27, ↓ri_19_28, ↓ri_19_29, ↓ri_19_32, ↓ri_19_35, ↓ri_19_37, ↓ri_19_40, ↓ri_19_41, ↓ri_19_42, ↓ri_19_45, ↓ri_19_46, ↓ri_19_47, ↓ri_19_50, ↓ri_19_51, ↓ri_19_52, ↓ri_19_55, ↓ri_19_58, ↓ri_19_59, ↓ri_19_60, ↓ri_19_61, ↓ri_19_64, ↓ri_19_65, ↓ri_19_67, ↓ri_19_68, ↓ri_19_69, ↓ri_19_72, ↓ri_19_75, ↓ri_19_76, ↓ri_19_79, ↓ri_19_80, Option.some.injEq, Prod.mk.injEq, exists_eq_left', exists_eq', exists_and_left, exists_and_right, true_and, and_true, true_or, or_true, and_self, and_assoc, Option.toList_some, Option.toList_none, List.cons_append, List.nil_append, ↓reduceIte, rz_x01, rz_x10, rz_fv_pf, rz_av_pf, rz_qv_pf, rz_ln_pf, rz_co_pf, rz_fv_pa, rz_av_pa, rz_qv_pa, rz_ln_pa, rz_co_pa, rz_fv_pq, rz_av_pq, rz_qv_pq, rz_ln_pq, rz_co_pq, Nat.reduceEqDiff, Nat.add_eq_left, Nat.left_eq_add, Nat.one_ne_zero, Option.map_some, exists_const, rz_oi, ↓if_neg c2, r4, hcoT, hh, ↓if_pos h61, hco, nI_1]
        refine c_O_readNumber (d := d) (most := 999) (by decide) hqt hji (rz_TX_sm hT1 hs2 (by omega)) (rz_OR_pl hO1) (fun h2 hO2 hs3 => ?_)
        have hco2 : rz_co h2 q = some 2 := rz_co_fv hO2.2.1
        have hbd2 := rz_rn_most tx 999 60 none (j + 1) (fun x hx => by cases hx)
        cases hx2 : rz_rn tx 999 60 none (j + 1) with
        | mk v2 m =>
          cases v2 with
          | none =>
            simp only [hx2, rz_os, rz_ob01] at kk hO2
            simp only [↓ri_19_0, ↓ri_19_1, ↓ri_19_2, ↓ri_19_5, ↓ri_19_6, ↓ri_19_7, ↓ri_19_10, ↓ri_19_11, ↓ri_19_12, ↓ri_19_14, ↓ri_19_17, ↓ri_19_18, ↓ri_19_19, ↓ri_19_20, ↓ri_19_23, ↓ri_19_24, ↓ri_19_25, ↓ri_19_26, ↓ri_19_27, ↓ri_19_28, ↓ri_19_29, ↓ri_19_32, ↓ri_19_35, ↓ri_19_37, ↓ri_19_40, ↓ri_19_41, ↓ri_19_42, ↓ri_19_45, ↓ri_19_46, ↓ri_19_47, ↓ri_19_50, ↓ri_19_51, ↓ri_19_52, ↓ri_19_55, ↓ri_19_58, ↓ri_19_59, ↓ri_19_60, ↓ri_19_61, ↓ri_19_64, ↓ri_19_65, ↓ri_19_67, ↓ri_19_68, ↓ri_19_69, ↓ri_19_72, ↓ri_19_75, ↓ri_19_76, ↓ri_19_79, ↓ri_19_80, Option.some.injEq, Prod.mk.injEq, exists_eq_left', exists_eq', exists_and_left, exists_and_right, true_and, and_true, true_or, or_true, and_self, and_assoc, Option.toList_some, Option.toList_none, List.cons_append, List.nil_append, ↓reduceIte, rz_x01, rz_x10, rz_oi]
            exact kk _ hO2 (((hs0.tr hs1).tr hs2).tr hs3)
          | some k2 =>
            have hk2 : k2 ≤ 999 := hbd2 k2 (by rw [hx2])
            simp only [hx2, rz_os, rz_ob01] at kk hO2
            have c3 : ¬ nI k2 = -1 := fun q => nI_pos (show k2 < 2 ^ 31 by omega) (by rw [q]; decide)
            simp only [↓ri_19_0, ↓ri_19_1, ↓ri_19_2, ↓ri_19_5, ↓ri_19_6, ↓ri_19_7, ↓ri_19_10, ↓ri_19_11, ↓ri_19_12, ↓ri_19_14, ↓ri_19_17, ↓ri_19_18, ↓ri_19_19, ↓ri_19_20, ↓ri_19_23, ↓ri_19_24, ↓ri_19_25, ↓ri_19_26, ↓ri_19_27, ↓ri_19_28, ↓ri_19_29, ↓ri_19_32, ↓ri_19_35, ↓ri_19_37, ↓ri_19_40, ↓ri_19_41, ↓ri_19_42, ↓ri_19_45, ↓ri_19_46, ↓ri_19_47, ↓ri_19_50, ↓ri_19_51, ↓ri_19_52, ↓ri_19_55, ↓ri_19_58, ↓ri_19_59, ↓ri_19_60, ↓ri_19_61, ↓ri_19_64, ↓ri_19_65, ↓ri_19_67, ↓ri_19_68, ↓ri_19_69, ↓ri_19_72, ↓ri_19_75, ↓ri_19_76, ↓ri_19_79, ↓ri_19_80, Option.some.injEq, Prod.mk.injEq, exists_eq_left', exists_eq', exists_and_left, exists_and_right, true_and, and_true, true_or, or_true, and_self, and_assoc, Option.toList_some, Option.toList_none, List.cons_append, List.nil_append, ↓reduceIte, rz_x01, rz_x10, rz_oi, ↓if_neg c3, hco2]
            refine c_O_put (d := d + 1) hO2 hl (by decide) (fun h3 hO3 hs4 => ?_)
            have c4 : ¬ (1 : Int32) = 0 := by decide
            simp only [↓ri_19_0, ↓ri_19_1, ↓ri_19_2, ↓ri_19_5, ↓ri_19_6, ↓ri_19_7, ↓ri_19_10, ↓ri_19_11, ↓ri_19_12, ↓ri_19_14, ↓ri_19_17, ↓ri_19_18, ↓ri_19_19, ↓ri_19_20, ↓ri_19_23, ↓ri_19_24, ↓ri_19_25, ↓ri_19_26, ↓ri_19_27, ↓ri_19_28, ↓ri_19_29, ↓ri_19_32, ↓ri_19_35, ↓ri_19_37, ↓ri_19_40, ↓ri_19_41, ↓ri_19_42, ↓ri_19_45, ↓ri_19_46, ↓ri_19_47, ↓ri_19_50, ↓ri_19_51, ↓ri_19_52, ↓ri_19_55, ↓ri_19_58, ↓ri_19_59, ↓ri_19_60, ↓ri_19_61, ↓ri_19_64, ↓ri_19_65, ↓ri_19_67, ↓ri_19_68, ↓ri_19_69, ↓ri_19_72, ↓ri_19_75, ↓ri_19_76, ↓ri_19_79, ↓ri_19_80, Option.some.injEq, Prod.mk.injEq, exists_eq_left', exists_eq', exists_and_left, exists_and_right, true_and, and_true, true_or, or_true, and_self, and_assoc, Option.toList_some, Option.toList_none, List.cons_append, List.nil_append, ↓reduceIte, rz_x01, rz_x10, ↓if_neg c4]
            exact kk _ hO3 ((((hs0.tr hs1).tr hs2).tr hs3).tr hs4)
      · simp only [if_neg h61, rz_os, rz_ob01] at kk
        simp only [↓ri_19_0, ↓ri_19_1, ↓ri_19_2, ↓ri_19_5, ↓ri_19_6, ↓ri_19_7, ↓ri_19_10, ↓ri_19_11, ↓ri_19_12, ↓ri_19_14, ↓ri_19_17, ↓ri_19_18, ↓ri_19_19, ↓ri_19_20, ↓ri_19_23, ↓ri_19_24, ↓ri_19_25, ↓ri_19_26, ↓ri_19_27, ↓ri_19_28, ↓ri_19_29, ↓ri_19_32, ↓ri_19_35, ↓ri_19_37, ↓ri_19_40, ↓ri_19_41, ↓ri_19_42, ↓ri_19_45, ↓ri_19_46, ↓ri_19_47, ↓ri_19_50, ↓ri_19_51, ↓ri_19_52, ↓ri_19_55, ↓ri_19_58, ↓ri_19_59, ↓ri_19_60, ↓ri_19_61, ↓ri_19_64, ↓ri_19_65, ↓ri_19_67, ↓ri_19_68, ↓ri_19_69, ↓ri_19_72, ↓ri_19_75, ↓ri_19_76, ↓ri_19_79, ↓ri_19_80, Option.some.injEq, Prod.mk.injEq, exists_eq_left', exists_eq', exists_and_left, exists_and_right, true_and, and_true, true_or, or_true, and_self, and_assoc, Option.toList_some, Option.toList_none, List.cons_append, List.nil_append, ↓reduceIte, rz_x01, rz_x10, rz_oi, ↓if_neg c2, r4, hcoT, hh, ↓if_neg h61, ↓if_neg c0, hco]
        refine c_O_put (d := d + 1) hO1 hl (by decide) (fun h3 hO3 hs4 => ?_)
        simp only [↓ri_19_0, ↓ri_19_1, ↓ri_19_2, ↓ri_19_5, ↓ri_19_6, ↓ri_19_7, ↓ri_19_10, ↓ri_19_11, ↓ri_19_12, ↓ri_19_14, ↓ri_19_17, ↓ri_19_18, ↓ri_19_19, ↓ri_19_20, ↓ri_19_23, ↓ri_19_24, ↓ri_19_25, ↓ri_19_26, ↓ri_19_27, ↓ri_19_28, ↓ri_19_29, ↓ri_19_32, ↓ri_19_35, ↓ri_19_37, ↓ri_19_40, ↓ri_19_41, ↓ri_19_42, ↓ri_19_45, ↓ri_19_46, ↓ri_19_47, ↓ri_19_50, ↓ri_19_51, ↓ri_19_52, ↓ri_19_55, ↓ri_19_58, ↓ri_19_59, ↓ri_19_60, ↓ri_19_61, ↓ri_19_64, ↓ri_19_65, ↓ri_19_67, ↓ri_19_68, ↓ri_19_69, ↓ri_19_72, ↓ri_19_75, ↓ri_19_76, ↓ri_19_79, ↓ri_19_80, Option.some.injEq, Prod.mk.injEq, exists_eq_left', exists_eq', exists_and_left, exists_and_right, true_and, and_true, true_or, or_true, and_self, and_assoc, Option.toList_some, Option.toList_none, List.cons_append, List.nil_append, ↓reduceIte, rz_x01, rz_x10]
        exact kk _ hO3 ((hs0.tr hs1).tr hs4)
set_option maxHeartbeats 4000000 in
set_option maxRecDepth 100000 in
theorem c_O_readOrder {d q t i : Nat} {tx : List Int32} {os : List rz_Or} {hp : rz_Hp} (hl : os.length < 30) (hqt : t + 2 ≤ q ∨ q + 4 ≤ t) (hi : i ≤ tx.length) (hT : rz_TX t tx hp) (hO : rz_OR q os (nI i) hp) {R : Option Value → rz_Hp → Prop} (kk : ∀ hp', rz_OR q (rz_os os (rz_ro tx i).1) (nI (rz_ro tx i).2) hp' → rz_sm q (q + 4) hp hp' → R (some (.int (rz_ob01 (rz_ro tx i).1))) hp') : rz_ev (d + 3) 18 0 [some (.ref q), some (.ref t), none] [] hp R := by
  obtain ⟨hL, p0, p1, p2, p3, p4, -⟩ := id hO
  have hle := hT.1
  have hco : rz_co hp q = some 2 := rz_co_fv p0
  have hcoT : rz_co hp t = some 7 := rz_co_fv hT.2.1
  have hh := fun R => c_X_signAt (d := d + 2) hT (i := i) (by omega) (R := R)
  unfold rz_ro at kk
  by_cases h1 : rz_sg tx i = 43
  · simp only [if_pos h1] at kk
    simp only [↓ri_18_0, ↓ri_18_1, ↓ri_18_2, ↓ri_18_5, ↓ri_18_8, ↓ri_18_9, ↓ri_18_10, ↓ri_18_52, ↓ri_18_53, ↓ri_18_54, ↓ri_18_57, ↓ri_18_58, ↓ri_18_59, ↓ri_18_62, ↓ri_18_63, ↓ri_18_64, ↓ri_18_65, ↓ri_18_68, ↓ri_18_69, ↓ri_18_70, ↓ri_18_71, ↓ri_18_74, ↓ri_18_75, ↓ri_18_76, Option.some.injEq, Prod.mk.injEq, exists_eq_left', exists_eq', exists_and_left, exists_and_right, true_and, and_true, true_or, or_true, and_self, and_assoc, Option.toList_some, Option.toList_none, List.cons_append, List.nil_append, ↓reduceIte, rz_x01, rz_x10, p4, hcoT, hh, ↓if_pos h1, hco]
    refine c_O_readComeIn (d := d) hl hqt (rz_sg_in (by rw [h1]; decide)) hT hO (fun h2 g1 g2 => ?_)
    have c : rz_ob01 (rz_rA tx (i + 1)).1 = 0 ∨ rz_ob01 (rz_rA tx (i + 1)).1 = 1 := by cases (rz_rA tx (i + 1)).1 <;> simp [rz_ob01]
    simp only [↓ri_18_0, ↓ri_18_1, ↓ri_18_2, ↓ri_18_5, ↓ri_18_8, ↓ri_18_9, ↓ri_18_10, ↓ri_18_52, ↓ri_18_53, ↓ri_18_54, ↓ri_18_57, ↓ri_18_58, ↓ri_18_59, ↓ri_18_62, ↓ri_18_63, ↓ri_18_64, ↓ri_18_65, ↓ri_18_68, ↓ri_18_69, ↓ri_18_70, ↓ri_18_71, ↓ri_18_74, ↓ri_18_75, ↓ri_18_76, Option.some.injEq, Prod.mk.injEq, exists_eq_left', exists_eq', exists_and_left, exists_and_right, true_and, and_true, true_or, or_true, and_self, and_assoc, Option.toList_some, Option.toList_none, List.cons_append, List.nil_append, ↓reduceIte, rz_x01, rz_x10, c]
    exact kk _ g1 g2
  · simp only [if_neg h1] at kk
    by_cases h2 : rz_sg tx i = 45
    · simp only [if_pos h2, rz_os, rz_ob01] at kk
      simp only [↓ri_18_0, ↓ri_18_1, ↓ri_18_2, ↓ri_18_5, ↓ri_18_8, ↓ri_18_9, ↓ri_18_10, ↓ri_18_52, ↓ri_18_53, ↓ri_18_54, ↓ri_18_57, ↓ri_18_58, ↓ri_18_59, ↓ri_18_62, ↓ri_18_63, ↓ri_18_64, ↓ri_18_65, ↓ri_18_68, ↓ri_18_69, ↓ri_18_70, ↓ri_18_71, ↓ri_18_74, ↓ri_18_75, ↓ri_18_76, Option.some.injEq, Prod.mk.injEq, exists_eq_left', exists_eq', exists_and_left, exists_and_right, true_and, and_true, true_or, or_true, and_self, and_assoc, Option.toList_some, Option.toList_none, List.cons_append, List.nil_append, ↓reduceIte, rz_x01, rz_x10, p4, hcoT, hh, ↓if_neg h1, ↓if_pos h2, hco]
      refine c_O_readComeOut (d := d + 1) (t := t) (tx := tx) hl hO (fun h2 g1 g2 => ?_)
      simp only [↓ri_18_0, ↓ri_18_1, ↓ri_18_2, ↓ri_18_5, ↓ri_18_8, ↓ri_18_9, ↓ri_18_10, ↓ri_18_52, ↓ri_18_53, ↓ri_18_54, ↓ri_18_57, ↓ri_18_58, ↓ri_18_59, ↓ri_18_62, ↓ri_18_63, ↓ri_18_64, ↓ri_18_65, ↓ri_18_68, ↓ri_18_69, ↓ri_18_70, ↓ri_18_71, ↓ri_18_74, ↓ri_18_75, ↓ri_18_76, Option.some.injEq, Prod.mk.injEq, exists_eq_left', exists_eq', exists_and_left, exists_and_right, true_and, and_true, true_or, or_true, and_self, and_assoc, Option.toList_some, Option.toList_none, List.cons_append, List.nil_append, ↓reduceIte, rz_x01, rz_x10]
      exact kk _ g1 g2
    · simp only [if_neg h2] at kk
      by_cases h3 : rz_sg tx i = 60
      · simp only [if_pos h3] at kk
        simp only [↓ri_18_0, ↓ri_18_1, ↓ri_18_2, ↓ri_18_5, ↓ri_18_8, ↓ri_18_9, ↓ri_18_10, ↓ri_18_52, ↓ri_18_53, ↓ri_18_54, ↓ri_18_57, ↓ri_18_58, ↓ri_18_59, ↓ri_18_62, ↓ri_18_63, ↓ri_18_64, ↓ri_18_65, ↓ri_18_68, ↓ri_18_69, ↓ri_18_70, ↓ri_18_71, ↓ri_18_74, ↓ri_18_75, ↓ri_18_76, Option.some.injEq, Prod.mk.injEq, exists_eq_left', exists_eq', exists_and_left, exists_and_right, true_and, and_true, true_or, or_true, and_self, and_assoc, Option.toList_some, Option.toList_none, List.cons_append, List.nil_append, ↓reduceIte, rz_x01, rz_x10, p4, hcoT, hh, ↓if_neg h1, ↓if_neg h2, ↓if_pos h3, hco]
        refine c_O_readMakeLess (d := d) hl hqt (rz_sg_in (by rw [h3]; decide)) hT hO (fun h2 g1 g2 => ?_)
        have c : rz_ob01 (rz_rL tx (i + 1)).1 = 0 ∨ rz_ob01 (rz_rL tx (i + 1)).1 = 1 := by cases (rz_rL tx (i + 1)).1 <;> simp [rz_ob01]
        simp only [↓ri_18_0, ↓ri_18_1, ↓ri_18_2, ↓ri_18_5, ↓ri_18_8, ↓ri_18_9, ↓ri_18_10, ↓ri_18_52, ↓ri_18_53, ↓ri_18_54, ↓ri_18_57, ↓ri_18_58, ↓ri_18_59, ↓ri_18_62, ↓ri_18_63, ↓ri_18_64, ↓ri_18_65, ↓ri_18_68, ↓ri_18_69, ↓ri_18_70, ↓ri_18_71, ↓ri_18_74, ↓ri_18_75, ↓ri_18_76, Option.some.injEq, Prod.mk.injEq, exists_eq_left', exists_eq', exists_and_left, exists_and_right, true_and, and_true, true_or, or_true, and_self, and_assoc, Option.toList_some, Option.toList_none, List.cons_append, List.nil_append, ↓reduceIte, rz_x01, rz_x10, c]
        exact kk _ g1 g2
      · simp only [if_neg h3] at kk
        by_cases h4 : rz_sg tx i = 120
        · simp only [if_pos h4] at kk
          simp only [↓ri_18_0, ↓ri_18_1, ↓ri_18_2, ↓ri_18_5, ↓ri_18_8, ↓ri_18_9, ↓ri_18_10, ↓ri_18_52, ↓ri_18_53, ↓ri_18_54, ↓ri_18_57, ↓ri_18_58, ↓ri_18_59, ↓ri_18_62, ↓ri_18_63, ↓ri_18_64, ↓ri_18_65, ↓ri_18_68, ↓ri_18_69, ↓ri_18_70, ↓ri_18_71, ↓ri_18_74, ↓ri_18_75, ↓ri_18_76, Option.some.injEq, Prod.mk.injEq, exists_eq_left', exists_eq', exists_and_left, exists_and_right, true_and, and_true, true_or, or_true, and_self, and_assoc, Option.toList_some, Option.toList_none, List.cons_append, List.nil_append, ↓reduceIte, rz_x01, rz_x10, p4, hcoT, hh, ↓if_neg h1, ↓if_neg h2, ↓if_neg h3, ↓if_pos h4, hco]
          refine c_O_readTakeBack (d := d) hl hqt (rz_sg_in (by rw [h4]; decide)) hT hO (fun h2 g1 g2 => ?_)
          have c : rz_ob01 (rz_rX tx (i + 1)).1 = 0 ∨ rz_ob01 (rz_rX tx (i + 1)).1 = 1 := by cases (rz_rX tx (i + 1)).1 <;> simp [rz_ob01]
          simp only [↓ri_18_0, ↓ri_18_1, ↓ri_18_2, ↓ri_18_5, ↓ri_18_8, ↓ri_18_9, ↓ri_18_10, ↓ri_18_52, ↓ri_18_53, ↓ri_18_54, ↓ri_18_57, ↓ri_18_58, ↓ri_18_59, ↓ri_18_62, ↓ri_18_63, ↓ri_18_64, ↓ri_18_65, ↓ri_18_68, ↓ri_18_69, ↓ri_18_70, ↓ri_18_71, ↓ri_18_74, ↓ri_18_75, ↓ri_18_76, Option.some.injEq, Prod.mk.injEq, exists_eq_left', exists_eq', exists_and_left, exists_and_right, true_and, and_true, true_or, or_true, and_self, and_assoc, Option.toList_some, Option.toList_none, List.cons_append, List.nil_append, ↓reduceIte, rz_x01, rz_x10, c]
          exact kk _ g1 g2
        · simp only [if_neg h4, rz_os, rz_ob01] at kk
          simp only [↓ri_18_0, ↓ri_18_1, ↓ri_18_2, ↓ri_18_5, ↓ri_18_8, ↓ri_18_9, ↓ri_18_10, ↓ri_18_52, ↓ri_18_53, ↓ri_18_54, ↓ri_18_57, ↓ri_18_58, ↓ri_18_59, ↓ri_18_62, ↓ri_18_63, ↓ri_18_64, ↓ri_18_65, ↓ri_18_68, ↓ri_18_69, ↓ri_18_70, ↓ri_18_71, ↓ri_18_74, ↓ri_18_75, ↓ri_18_76, Option.some.injEq, Prod.mk.injEq, exists_eq_left', exists_eq', exists_and_left, exists_and_right, true_and, and_true, true_or, or_true, and_self, and_assoc, Option.toList_some, Option.toList_none, List.cons_append, List.nil_append, ↓reduceIte, rz_x01, rz_x10, p4, hcoT, hh, ↓if_neg h1, ↓if_neg h2, ↓if_neg h3, ↓if_neg h4]
          exact kk _ hO rz_sm.rf
/-- the text is read, from a place on: the fault's place, if there is one, and the orders -/
def rz_rt (tx : List Int32) : Nat → Nat → List rz_Or → Option Nat × List rz_Or
  | 0, i, os => (some i, os)
  | n + 1, i, os => match rz_ro tx i with
    | (none, j) => (some j, os)
    | (some o, j) => if rz_sg tx j = -1 then (none, os ++ [o]) else if rz_sg tx j = 44 then rz_rt tx n (j + 1) (os ++ [o]) else (some j, os ++ [o])
theorem rz_rt_len (tx : List Int32) (n i : Nat) (os : List rz_Or) : (rz_rt tx n i os).2.length ≤ os.length + n := by
  induction n generalizing i os with
  | zero => exact Nat.le_refl _
  | succ n ih =>
    unfold rz_rt
    split
    · exact Nat.le_add_right _ _
    · split
      · simp
      · split
        · refine Nat.le_trans (ih _ _) ?_
          simp
          omega
        · simp
set_option maxHeartbeats 4000000 in
set_option maxRecDepth 100000 in
theorem c_O_readFrom_loop {d q t : Nat} {tx : List Int32} {R : Option Value → rz_Hp → Prop} {hp : rz_Hp} (hqt : t + 2 ≤ q ∨ q + 4 ≤ t) : ∀ n, n ≤ 30 → ∀ (i : Nat) (os : List rz_Or) (hp1 : rz_Hp), os.length + n ≤ 30 → i ≤ tx.length → rz_TX t tx hp1 → rz_OR q os (nI i) hp1 → rz_sm q (q + 4) hp hp1 → (∀ hp' pl, rz_OR q (rz_rt tx n i os).2 pl hp' → rz_sm q (q + 4) hp hp' → R (some (.int (rz_oi (rz_rt tx n i os).1))) hp') → rz_ev (d + 4) 17 12 [some (.ref q), some (.ref t), some (.int (nI (30 - n)))] [] hp1 R := by
  intro n
  induction n with
  | zero =>
    intro _ i os hp1 hl hi hT hO hs kk
    have c1 : (30 : Int32) ≤ nI (30 - 0) := by decide
    obtain ⟨hL, p0, p1, p2, p3, p4, -⟩ := id hO
    rw [ri_17_12]
    simp only [↓ri_17_13, ↓ri_17_13N, ↓ri_17_16, ↓ri_17_17, ↓ri_17_19, ↓ri_17_22, ↓ri_17_23, ↓ri_17_24, ↓ri_17_27, ↓ri_17_30, ↓ri_17_31, ↓ri_17_34, ↓ri_17_35, ↓ri_17_36, ↓ri_17_37, ↓ri_17_40, ↓ri_17_43, ↓ri_17_44, ↓ri_17_47, ↓ri_17_48, ↓ri_17_49, ↓ri_17_50, ↓ri_17_51, ↓ri_17_54, ↓ri_17_57, ↓ri_17_59, ↓ri_17_62, ↓ri_17_63, ↓ri_17_66, ↓ri_17_67, ↓ri_17_68, ↓ri_17_69, ↓ri_17_72, ↓ri_17_73, ↓ri_17_74, ↓ri_17_77, ↓ri_17_80, ↓ri_17_83, ↓ri_17_84, ↓ri_17_87, Option.some.injEq, Prod.mk.injEq, exists_eq_left', exists_eq', exists_and_left, exists_and_right, true_and, and_true, true_or, or_true, and_self, and_assoc, Option.toList_some, Option.toList_none, List.cons_append, List.nil_append, ↓reduceIte, rz_x01, rz_x10, ↓if_pos c1, p4]
    exact kk _ _ hO hs
  | succ n ih =>
    intro hn i os hp1 hl hi hT hO hs kk
    have c1 : ¬ (30 : Int32) ≤ nI (30 - (n + 1)) := nI_ge (b := 30) (by omega) (by decide)
    have hco : rz_co hp1 q = some 2 := rz_co_fv hO.2.1
    have hle := hT.1
    rw [ri_17_12]
    simp only [↓ri_17_13, ↓ri_17_13N, ↓ri_17_16, ↓ri_17_17, ↓ri_17_19, ↓ri_17_22, ↓ri_17_23, ↓ri_17_24, Option.some.injEq, Prod.mk.injEq, exists_eq_left', exists_eq', exists_and_left, exists_and_right, true_and, and_true, true_or, or_true, and_self, and_assoc, Option.toList_some, Option.toList_none, List.cons_append, List.nil_append, ↓reduceIte, rz_x01, rz_x10, ↓if_neg c1, hco]
    refine c_O_readOrder (d := d) (by omega) hqt hi hT hO (fun h1 hO1 hs1 => ?_)
    have hT1 := rz_TX_sm hT hs1 (by omega)
    have hcoT : rz_co h1 t = some 7 := rz_co_fv hT1.2.1
    have hjl := rz_ro_le hi
    unfold rz_rt at kk
    cases hx : rz_ro tx i with
    | mk o j =>
      rw [hx] at hjl hO1
      dsimp only at hjl
      obtain ⟨gL, r0, r1, r2, r3, r4, -⟩ := id hO1
      cases o with
      | none =>
        simp only [hx, rz_os] at kk hO1 r4
        simp only [↓ri_17_27, ↓ri_17_30, ↓ri_17_31, ↓ri_17_34, ↓ri_17_35, ↓ri_17_36, ↓ri_17_37, ↓ri_17_40, ↓ri_17_43, ↓ri_17_44, ↓ri_17_47, ↓ri_17_48, ↓ri_17_49, ↓ri_17_50, ↓ri_17_51, ↓ri_17_54, ↓ri_17_57, ↓ri_17_59, ↓ri_17_62, ↓ri_17_63, ↓ri_17_66, ↓ri_17_67, ↓ri_17_68, ↓ri_17_69, ↓ri_17_72, ↓ri_17_73, ↓ri_17_74, ↓ri_17_77, ↓ri_17_80, ↓ri_17_83, ↓ri_17_84, ↓ri_17_87, Option.some.injEq, Prod.mk.injEq, exists_eq_left', exists_eq', exists_and_left, exists_and_right, true_and, and_true, true_or, or_true, and_self, and_assoc, Option.toList_some, Option.toList_none, List.cons_append, List.nil_append, ↓reduceIte, rz_x01, rz_x10, rz_ob01, r4]
        exact kk _ _ hO1 (hs.tr hs1)
      | some o =>
        simp only [hx] at kk hO1 r4
        have hh := fun R => c_X_signAt (d := d + 3) hT1 (i := j) (by omega) (R := R)
        have c2 : ¬ (1 : Int32) = 0 := by decide
        by_cases h1m : rz_sg tx j = -1
        · simp only [if_pos h1m] at kk
          simp only [↓ri_17_27, ↓ri_17_30, ↓ri_17_31, ↓ri_17_34, ↓ri_17_35, ↓ri_17_36, ↓ri_17_37, ↓ri_17_40, ↓ri_17_43, ↓ri_17_44, ↓ri_17_47, ↓ri_17_48, ↓ri_17_49, ↓ri_17_50, ↓ri_17_51, ↓ri_17_54, ↓ri_17_57, ↓ri_17_59, ↓ri_17_62, ↓ri_17_63, ↓ri_17_66, ↓ri_17_67, ↓ri_17_68, ↓ri_17_69, ↓ri_17_72, ↓ri_17_73, ↓ri_17_74, ↓ri_17_77, ↓ri_17_80, ↓ri_17_83, ↓ri_17_84, ↓ri_17_87, Option.some.injEq, Prod.mk.injEq, exists_eq_left', exists_eq', exists_and_left, exists_and_right, true_and, and_true, true_or, or_true, and_self, and_assoc, Option.toList_some, Option.toList_none, List.cons_append, List.nil_append, ↓reduceIte, rz_x01, rz_x10, rz_ob01, ↓if_neg c2, r4, hcoT, hh, ↓if_pos h1m]
          exact kk _ _ hO1 (hs.tr hs1)
        · simp only [if_neg h1m] at kk
          by_cases h44 : rz_sg tx j = 44
          · simp only [if_pos h44] at kk
            have hji := rz_sg_in h1m
            have hs2 : rz_sm q (q + 4) h1 (rz_pf h1 q 4 (.int (nI (j + 1)))) := rz_sm_pf (by omega) (by omega)
            simp only [↓ri_17_27, ↓ri_17_30, ↓ri_17_31, ↓ri_17_34, ↓ri_17_35, ↓ri_17_36, ↓ri_17_37, ↓ri_17_40, ↓ri_17_43, ↓ri_17_44, ↓ri_17_47, ↓ri_17_48, ↓ri_17_49, ↓ri_17_50, ↓ri_17_51, ↓ri_17_54, ↓ri_17_57, ↓ri_17_59, ↓ri_17_62, ↓ri_17_63, ↓ri_17_66, ↓ri_17_67, ↓ri_17_68, ↓ri_17_69, ↓ri_17_72, ↓ri_17_73, ↓ri_17_74, ↓ri_17_77, ↓ri_17_80, Option.some.injEq, Prod.mk.injEq, exists_eq_left', exists_eq', exists_and_left, exists_and_right, true_and, and_true, true_or, or_true, and_self, and_assoc, Option.toList_some, Option.toList_none, List.cons_append, List.nil_append, ↓reduceIte, rz_x01, rz_x10, rz_ob01, ↓if_neg c2, r4, hcoT, hh, ↓if_neg h1m, ↓if_pos h44, nI_1]
            have e1 : 30 - (n + 1) + 1 = 30 - n := by omega
            rw [e1]
            exact ih (by omega) (j + 1) (os ++ [o]) _ (by rw [List.length_append, List.length_singleton]; omega) hji (rz_TX_sm hT1 hs2 (by omega)) (rz_OR_pl hO1) ((hs.tr hs1).tr hs2) kk
          · simp only [if_neg h44] at kk
            simp only [↓ri_17_27, ↓ri_17_30, ↓ri_17_31, ↓ri_17_34, ↓ri_17_35, ↓ri_17_36, ↓ri_17_37, ↓ri_17_40, ↓ri_17_43, ↓ri_17_44, ↓ri_17_47, ↓ri_17_48, ↓ri_17_49, ↓ri_17_50, ↓ri_17_51, ↓ri_17_54, ↓ri_17_57, ↓ri_17_59, ↓ri_17_62, ↓ri_17_63, ↓ri_17_66, ↓ri_17_67, ↓ri_17_68, ↓ri_17_69, ↓ri_17_72, ↓ri_17_73, ↓ri_17_74, ↓ri_17_77, ↓ri_17_80, ↓ri_17_83, ↓ri_17_84, ↓ri_17_87, Option.some.injEq, Prod.mk.injEq, exists_eq_left', exists_eq', exists_and_left, exists_and_right, true_and, and_true, true_or, or_true, and_self, and_assoc, Option.toList_some, Option.toList_none, List.cons_append, List.nil_append, ↓reduceIte, rz_x01, rz_x10, rz_ob01, ↓if_neg c2, r4, hcoT, hh, ↓if_neg h1m, ↓if_neg h44]
            exact kk _ _ hO1 (hs.tr hs1)
set_option maxHeartbeats 4000000 in
set_option maxRecDepth 100000 in
theorem c_O_readFrom {d q t : Nat} {tx : List Int32} {os : List rz_Or} {pl : Int32} {hp : rz_Hp} (hqt : t + 2 ≤ q ∨ q + 4 ≤ t) (hT : rz_TX t tx hp) (hO : rz_OR q os pl hp) {R : Option Value → rz_Hp → Prop} (kk : ∀ hp' pl, rz_OR q (rz_rt tx 30 0 []).2 pl hp' → rz_sm q (q + 4) hp hp' → R (some (.int (rz_oi (rz_rt tx 30 0 []).1))) hp') : rz_ev (d + 4) 17 0 [some (.ref q), some (.ref t), none] [] hp R := by
  obtain ⟨hL, p0, p1, p2, p3, p4, f0, f1, f2, a0, a1, a2, hf⟩ := id hO
  have hs0 : rz_sm q (q + 4) hp (rz_pf (rz_pf hp q 3 (.int 0)) q 4 (.int 0)) := (rz_sm_pf (by omega) (by omega)).tr (rz_sm_pf (by omega) (by omega))
  have := c_O_readFrom_loop (d := d) (R := R) (hp := hp) hqt 30 (Nat.le_refl _) 0 [] (rz_pf (rz_pf hp q 3 (.int 0)) q 4 (.int 0)) (by decide) (Nat.zero_le _) (rz_TX_sm hT hs0 (by omega)) ⟨by decide, by simp only [rz_fv_pf, rz_av_pf, rz_qv_pf, rz_ln_pf, rz_co_pf, rz_fv_pa, rz_av_pa, rz_qv_pa, rz_ln_pa, rz_co_pa, rz_fv_pq, rz_av_pq, rz_qv_pq, rz_ln_pq, rz_co_pq, Nat.reduceEqDiff, Nat.add_eq_left, Nat.left_eq_add, Nat.one_ne_zero, Option.map_some, exists_const, Option.some.injEq, Prod.mk.injEq, exists_eq_left', exists_eq', exists_and_left, exists_and_right, true_and, and_true, true_or, or_true, and_self, and_assoc, Option.toList_some, Option.toList_none, List.cons_append, List.nil_append, ↓reduceIte, rz_x01, rz_x10, p0], by simp only [rz_fv_pf, rz_av_pf, rz_qv_pf, rz_ln_pf, rz_co_pf, rz_fv_pa, rz_av_pa, rz_qv_pa, rz_ln_pa, rz_co_pa, rz_fv_pq, rz_av_pq, rz_qv_pq, rz_ln_pq, rz_co_pq, Nat.reduceEqDiff, Nat.add_eq_left, Nat.left_eq_add, Nat.one_ne_zero, Option.map_some, exists_const, Option.some.injEq, Prod.mk.injEq, exists_eq_left', exists_eq', exists_and_left, exists_and_right, true_and, and_true, true_or, or_true, and_self, and_assoc, Option.toList_some, Option.toList_none, List.cons_append, List.nil_append, ↓reduceIte, rz_x01, rz_x10, p1], by simp only [rz_fv_pf, rz_av_pf, rz_qv_pf, rz_ln_pf, rz_co_pf, rz_fv_pa, rz_av_pa, rz_qv_pa, rz_ln_pa, rz_co_pa, rz_fv_pq, rz_av_pq, rz_qv_pq, rz_ln_pq, rz_co_pq, Nat.reduceEqDiff, Nat.add_eq_left, Nat.left_eq_add, Nat.one_ne_zero, Option.map_some, exists_const, Option.some.injEq, Prod.mk.injEq, exists_eq_left', exists_eq', exists_and_left, exists_and_right, true_and, and_true, true_or, or_true, and_self, and_assoc, Option.toList_some, Option.toList_none, List.cons_append, List.nil_append, ↓reduceIte, rz_x01, rz_x10, p2], by simp only [rz_fv_pf, rz_av_pf, rz_qv_pf, rz_ln_pf, rz_co_pf, rz_fv_pa, rz_av_pa, rz_qv_pa, rz_ln_pa, rz_co_pa, rz_fv_pq, rz_av_pq, rz_qv_pq, rz_ln_pq, rz_co_pq, Nat.reduceEqDiff, Nat.add_eq_left, Nat.left_eq_add, Nat.one_ne_zero, Option.map_some, exists_const, Option.some.injEq, Prod.mk.injEq, exists_eq_left', exists_eq', exists_and_left, exists_and_right, true_and, and_true, true_or, or_true, and_self, and_assoc, Option.toList_some, Option.toList_none, List.cons_append, List.nil_append, ↓reduceIte, rz_x01, rz_x10, p3]; rfl, by simp only [rz_fv_pf, rz_av_pf, rz_qv_pf, rz_ln_pf, rz_co_pf, rz_fv_pa, rz_av_pa, rz_qv_pa, rz_ln_pa, rz_co_pa, rz_fv_pq, rz_av_pq, rz_qv_pq, rz_ln_pq, rz_co_pq, Nat.reduceEqDiff, Nat.add_eq_left, Nat.left_eq_add, Nat.one_ne_zero, Option.map_some, exists_const, Option.some.injEq, Prod.mk.injEq, exists_eq_left', exists_eq', exists_and_left, exists_and_right, true_and, and_true, true_or, or_true, and_self, and_assoc, Option.toList_some, Option.toList_none, List.cons_append, List.nil_append, ↓reduceIte, rz_x01, rz_x10, p4]; rfl, f0, f1, f2, by simp only [rz_fv_pf, rz_av_pf, rz_qv_pf, rz_ln_pf, rz_co_pf, rz_fv_pa, rz_av_pa, rz_qv_pa, rz_ln_pa, rz_co_pa, rz_fv_pq, rz_av_pq, rz_qv_pq, rz_ln_pq, rz_co_pq, Nat.reduceEqDiff, Nat.add_eq_left, Nat.left_eq_add, Nat.one_ne_zero, Option.map_some, exists_const, Option.some.injEq, Prod.mk.injEq, exists_eq_left', exists_eq', exists_and_left, exists_and_right, true_and, and_true, true_or, or_true, and_self, and_assoc, Option.toList_some, Option.toList_none, List.cons_append, List.nil_append, ↓reduceIte, rz_x01, rz_x10, a0], by simp only [rz_fv_pf, rz_av_pf, rz_qv_pf, rz_ln_pf, rz_co_pf, rz_fv_pa, rz_av_pa, rz_qv_pa, rz_ln_pa, rz_co_pa, rz_fv_pq, rz_av_pq, rz_qv_pq, rz_ln_pq, rz_co_pq, Nat.reduceEqDiff, Nat.add_eq_left, Nat.left_eq_add, Nat.one_ne_zero, Option.map_some, exists_const, Option.some.injEq, Prod.mk.injEq, exists_eq_left', exists_eq', exists_and_left, exists_and_right, true_and, and_true, true_or, or_true, and_self, and_assoc, Option.toList_some, Option.toList_none, List.cons_append, List.nil_append, ↓reduceIte, rz_x01, rz_x10, a1], by simp only [rz_fv_pf, rz_av_pf, rz_qv_pf, rz_ln_pf, rz_co_pf, rz_fv_pa, rz_av_pa, rz_qv_pa, rz_ln_pa, rz_co_pa, rz_fv_pq, rz_av_pq, rz_qv_pq, rz_ln_pq, rz_co_pq, Nat.reduceEqDiff, Nat.add_eq_left, Nat.left_eq_add, Nat.one_ne_zero, Option.map_some, exists_const, Option.some.injEq, Prod.mk.injEq, exists_eq_left', exists_eq', exists_and_left, exists_and_right, true_and, and_true, true_or, or_true, and_self, and_assoc, Option.toList_some, Option.toList_none, List.cons_append, List.nil_append, ↓reduceIte, rz_x01, rz_x10, a2], fun i o ho => by simp at ho⟩ hs0 kk
  rw [nI_0] at this
  simp only [↓ri_17_0, ↓ri_17_1, ↓ri_17_2, ↓ri_17_5, ↓ri_17_6, ↓ri_17_7, ↓ri_17_10, ↓ri_17_11, Option.some.injEq, Prod.mk.injEq, exists_eq_left', exists_eq', exists_and_left, exists_and_right, true_and, and_true, true_or, or_true, and_self, and_assoc, Option.toList_some, Option.toList_none, List.cons_append, List.nil_append, ↓reduceIte, rz_x01, rz_x10, rz_fv_pf, rz_av_pf, rz_qv_pf, rz_ln_pf, rz_co_pf, rz_fv_pa, rz_av_pa, rz_qv_pa, rz_ln_pa, rz_co_pa, rz_fv_pq, rz_av_pq, rz_qv_pq, rz_ln_pq, rz_co_pq, Nat.reduceEqDiff, Nat.add_eq_left, Nat.left_eq_add, Nat.one_ne_zero, Option.map_some, exists_const, p3, p4]
  exact this
