/-! State: what undo and the snapshot bring back -/
/-- entries, floor, moves of all, the latest ones out, lengths of roads, how many roads, how many came in, came out, were taken back -/
abbrev rz_AS : Type := List rz_En × Int32 × Int32 × List rz_La × (Nat → Int32) × Int32 × Int32 × Int32 × Int32
def rz_SF (p : Nat) (ci co tb : Int32) (hp : rz_Hp) : Prop := rz_fv hp p 6 0 = some (.ref (p + 1)) ∧ rz_fv hp p 6 1 = some (.ref (p + 7)) ∧ rz_fv hp p 6 2 = some (.ref (p + 12)) ∧ rz_fv hp p 6 3 = some (.int ci) ∧ rz_fv hp p 6 4 = some (.int co) ∧ rz_fv hp p 6 5 = some (.int tb)
def rz_ST (p : Nat) : rz_AS → rz_Hp → Prop := fun (L, fl, am, lat, rd, laid, ci, co, tb) hp => rz_SF p ci co tb hp ∧ rz_PL (p + 1) L fl am hp ∧ rz_LT (p + 7) lat hp ∧ rz_RD (p + 12) rd laid hp
theorem rz_SF_sm {lo hi p : Nat} {ci co tb : Int32} {hp h1 : rz_Hp} (h : rz_SF p ci co tb hp) (s : rz_sm lo hi hp h1) (hd : p + 1 ≤ lo ∨ hi ≤ p) : rz_SF p ci co tb h1 := by
  obtain ⟨p0, p1, p2, p3, p4, p5⟩ := h
  refine ⟨?_, ?_, ?_, ?_, ?_, ?_⟩ <;> (rw [s.fv (by omega)]; assumption)
theorem rz_ST_sm {lo hi p : Nat} {s : rz_AS} {hp h1 : rz_Hp} (h : rz_ST p s hp) (q : rz_sm lo hi hp h1) (hd : p + 14 ≤ lo ∨ hi ≤ p) : rz_ST p s h1 := by
  obtain ⟨L, fl, am, lat, rd, laid, ci, co, tb⟩ := s
  exact ⟨rz_SF_sm h.1 q (by omega), rz_PL_sm h.2.1 q (by omega), rz_LT_sm h.2.2.1 q (by omega), rz_RD_sm h.2.2.2 q (by omega)⟩
/-- keys and the floor are in range -/
def rz_I0 : rz_AS → Prop := fun (L, fl, _) => rz_kr L ∧ ∃ c, c < 65536 ∧ fl = nI c
noncomputable def rz_in_ : rz_AS → Int32 → Int32 → Int32 × rz_AS := haveI : (p : Prop) → Decidable p := Classical.propDecidable; fun (L, fl, am, lat, rd, laid, ci, co, tb) key val =>
  if ¬ rz_key key ∨ val < 0 ∨ 999 < val then (-2, L, fl, am, lat, rd, laid, ci, co, tb) else if key < fl then (-4, L, fl, am, lat, rd, laid, ci, co, tb) else
  if ¬ L.length < 40 ∨ 1000 ≤ ci then (-3, L, fl, am, lat, rd, laid, ci, co, tb) else (ci, L ++ [(ci, key, val, 0, rz_pl fl key)], fl, am, lat, rd, laid, ci + 1, co, tb)
set_option maxHeartbeats 4000000 in
set_option maxRecDepth 100000 in
theorem c_T_bringIn {d p : Nat} {s : rz_AS} {key val : Int32} {hp : rz_Hp} (h : rz_ST p s hp) (hI : rz_I0 s) {R : Option Value → rz_Hp → Prop} (kk : ∀ hp', rz_ST p (rz_in_ s key val).2 hp' → rz_sm p (p + 14) hp hp' → R (some (.int (rz_in_ s key val).1)) hp') : rz_ev (d + 2) 76 0 [some (.ref p), some (.int key), some (.int val), none] [] hp R := by
  obtain ⟨L, fl, am, lat, rd, laid, ci, co, tb⟩ := s
  obtain ⟨hkr, c, hc, hf⟩ := hI
  obtain ⟨⟨p0, p1, p2, p3, p4, p5⟩, hP, hT, hR⟩ := id h
  have hqf := fun R => c_P_floor (d := d + 1) hP (R := R)
  have hqu := fun R => c_P_isFull (d := d + 1) hP (R := R)
  have hco : rz_co hp (p + 1) = some 3 := rz_co_fv hP.2.1.1
  unfold rz_in_ at kk
  by_cases hk : rz_key key
  · have tk := fun R => (c_C_isKey (d := d + 1) (hp := hp) (R := R)).1 hk
    obtain ⟨a, ha, hka⟩ := rz_key_of hk
    by_cases h1 : val < 0
    · simp only [hk, h1, true_or, or_true, not_true_eq_false, false_or, if_true] at kk
      simp only [↓ri_76_0, ↓ri_76_1, ↓ri_76_4, ↓ri_76_7, ↓ri_76_8, ↓ri_76_11, ↓ri_76_12, ↓ri_76_15, ↓ri_76_18, ↓ri_76_20, ↓ri_76_21, ↓ri_76_22, ↓ri_76_23, ↓ri_76_26, ↓ri_76_29, ↓ri_76_32, ↓ri_76_34, ↓ri_76_35, ↓ri_76_36, ↓ri_76_39, ↓ri_76_42, ↓ri_76_45, ↓ri_76_46, ↓ri_76_49, ↓ri_76_52, ↓ri_76_55, ↓ri_76_57, ↓ri_76_58, ↓ri_76_59, ↓ri_76_62, ↓ri_76_63, ↓ri_76_64, ↓ri_76_67, ↓ri_76_68, ↓ri_76_69, ↓ri_76_70, ↓ri_76_71, ↓ri_76_74, ↓ri_76_75, ↓ri_76_76, ↓ri_76_79, ↓ri_76_80, ↓ri_76_81, ↓ri_76_84, ↓ri_76_85, Option.some.injEq, Prod.mk.injEq, exists_eq_left', exists_eq', exists_and_left, exists_and_right, true_and, and_true, true_or, or_true, and_self, and_assoc, Option.toList_some, Option.toList_none, List.cons_append, List.nil_append, ↓reduceIte, rz_x01, rz_x10, tk, ↓if_pos h1]
      exact kk _ h rz_sm.rf
    · by_cases h2 : 999 < val
      · simp only [hk, h1, h2, true_or, or_true, not_true_eq_false, false_or, if_true] at kk
        simp only [↓ri_76_0, ↓ri_76_1, ↓ri_76_4, ↓ri_76_7, ↓ri_76_8, ↓ri_76_11, ↓ri_76_12, ↓ri_76_15, ↓ri_76_18, ↓ri_76_20, ↓ri_76_21, ↓ri_76_22, ↓ri_76_23, ↓ri_76_26, ↓ri_76_29, ↓ri_76_32, ↓ri_76_34, ↓ri_76_35, ↓ri_76_36, ↓ri_76_39, ↓ri_76_42, ↓ri_76_45, ↓ri_76_46, ↓ri_76_49, ↓ri_76_52, ↓ri_76_55, ↓ri_76_57, ↓ri_76_58, ↓ri_76_59, ↓ri_76_62, ↓ri_76_63, ↓ri_76_64, ↓ri_76_67, ↓ri_76_68, ↓ri_76_69, ↓ri_76_70, ↓ri_76_71, ↓ri_76_74, ↓ri_76_75, ↓ri_76_76, ↓ri_76_79, ↓ri_76_80, ↓ri_76_81, ↓ri_76_84, ↓ri_76_85, Option.some.injEq, Prod.mk.injEq, exists_eq_left', exists_eq', exists_and_left, exists_and_right, true_and, and_true, true_or, or_true, and_self, and_assoc, Option.toList_some, Option.toList_none, List.cons_append, List.nil_append, ↓reduceIte, rz_x01, rz_x10, tk, ↓if_neg h1, ↓if_neg (Int32.not_le.mpr h2)]
        exact kk _ h rz_sm.rf
      · simp only [hk, h1, h2, not_true_eq_false, false_or, or_false, if_false] at kk
        by_cases h3 : key < fl
        · simp only [h3, if_true] at kk
          simp only [↓ri_76_0, ↓ri_76_1, ↓ri_76_4, ↓ri_76_7, ↓ri_76_8, ↓ri_76_11, ↓ri_76_12, ↓ri_76_15, ↓ri_76_18, ↓ri_76_20, ↓ri_76_21, ↓ri_76_22, ↓ri_76_23, ↓ri_76_26, ↓ri_76_29, ↓ri_76_32, ↓ri_76_34, ↓ri_76_35, ↓ri_76_36, ↓ri_76_39, ↓ri_76_42, ↓ri_76_45, ↓ri_76_46, ↓ri_76_49, ↓ri_76_52, ↓ri_76_55, ↓ri_76_57, ↓ri_76_58, ↓ri_76_59, ↓ri_76_62, ↓ri_76_63, ↓ri_76_64, ↓ri_76_67, ↓ri_76_68, ↓ri_76_69, ↓ri_76_70, ↓ri_76_71, ↓ri_76_74, ↓ri_76_75, ↓ri_76_76, ↓ri_76_79, ↓ri_76_80, ↓ri_76_81, ↓ri_76_84, ↓ri_76_85, Option.some.injEq, Prod.mk.injEq, exists_eq_left', exists_eq', exists_and_left, exists_and_right, true_and, and_true, true_or, or_true, and_self, and_assoc, Option.toList_some, Option.toList_none, List.cons_append, List.nil_append, ↓reduceIte, rz_x01, rz_x10, tk, ↓if_neg h1, ↓if_pos (Int32.not_lt.mp h2), p0, hco, hqf, ↓if_neg (Int32.not_le.mpr h3)]
          exact kk _ h rz_sm.rf
        · simp only [h3, if_false] at kk
          by_cases h4 : L.length < 40
          · simp only [h4, not_true_eq_false, false_or] at kk
            simp only [h4, if_true] at hqu
            by_cases h5 : ci < 1000
            · simp only [if_neg (Int32.not_le.mpr h5)] at kk
              simp only [↓ri_76_0, ↓ri_76_1, ↓ri_76_4, ↓ri_76_7, ↓ri_76_8, ↓ri_76_11, ↓ri_76_12, ↓ri_76_15, ↓ri_76_18, ↓ri_76_20, ↓ri_76_21, ↓ri_76_22, ↓ri_76_23, ↓ri_76_26, ↓ri_76_29, ↓ri_76_32, ↓ri_76_34, ↓ri_76_35, ↓ri_76_36, ↓ri_76_39, ↓ri_76_42, ↓ri_76_45, ↓ri_76_46, ↓ri_76_49, ↓ri_76_52, ↓ri_76_55, ↓ri_76_57, ↓ri_76_58, ↓ri_76_59, ↓ri_76_62, ↓ri_76_63, ↓ri_76_64, ↓ri_76_67, ↓ri_76_68, ↓ri_76_69, ↓ri_76_70, ↓ri_76_71, ↓ri_76_74, ↓ri_76_75, ↓ri_76_76, ↓ri_76_79, ↓ri_76_80, ↓ri_76_81, ↓ri_76_84, ↓ri_76_85, Option.some.injEq, Prod.mk.injEq, exists_eq_left', exists_eq', exists_and_left, exists_and_right, true_and, and_true, true_or, or_true, and_self, and_assoc, Option.toList_some, Option.toList_none, List.cons_append, List.nil_append, ↓reduceIte, rz_x01, rz_x10, tk, ↓if_neg h1, ↓if_pos (Int32.not_lt.mp h2), p0, p3, hco, hqf, hqu, ↓if_pos (Int32.not_lt.mp h3), ↓if_pos h5]
              refine c_P_append (d := d) hP h4 hka hf ha hc (fun h1 hP1 hs1 => ?_)
              have g3 := hs1.fv (a := p) (ci := 6) (j := 3) (by omega)
              rw [p3] at g3
              simp only [↓ri_76_0, ↓ri_76_1, ↓ri_76_4, ↓ri_76_7, ↓ri_76_8, ↓ri_76_11, ↓ri_76_12, ↓ri_76_15, ↓ri_76_18, ↓ri_76_20, ↓ri_76_21, ↓ri_76_22, ↓ri_76_23, ↓ri_76_26, ↓ri_76_29, ↓ri_76_32, ↓ri_76_34, ↓ri_76_35, ↓ri_76_36, ↓ri_76_39, ↓ri_76_42, ↓ri_76_45, ↓ri_76_46, ↓ri_76_49, ↓ri_76_52, ↓ri_76_55, ↓ri_76_57, ↓ri_76_58, ↓ri_76_59, ↓ri_76_62, ↓ri_76_63, ↓ri_76_64, ↓ri_76_67, ↓ri_76_68, ↓ri_76_69, ↓ri_76_70, ↓ri_76_71, ↓ri_76_74, ↓ri_76_75, ↓ri_76_76, ↓ri_76_79, ↓ri_76_80, ↓ri_76_81, ↓ri_76_84, ↓ri_76_85, Option.some.injEq, Prod.mk.injEq, exists_eq_left', exists_eq', exists_and_left, exists_and_right, true_and, and_true, true_or, or_true, and_self, and_assoc, Option.toList_some, Option.toList_none, List.cons_append, List.nil_append, ↓reduceIte, rz_x01, rz_x10, g3]
              have hs2 : rz_sm (p + 1) (p + 1 + 6) hp h1 := hs1
              have hs3 : rz_sm p (p + 1) h1 (rz_pf h1 p 3 (.int (ci + 1))) := rz_sm_pf (by omega) (by omega)
              obtain ⟨r0, r1, r2, r3, r4, r5⟩ := rz_SF_sm (p := p) ⟨p0, p1, p2, p3, p4, p5⟩ hs1 (by omega)
              refine kk _ ⟨?_, rz_PL_sm hP1 hs3 (by omega), rz_LT_sm (rz_LT_sm hT hs1 (by omega)) hs3 (by omega), rz_RD_sm (rz_RD_sm hR hs1 (by omega)) hs3 (by omega)⟩ ((hs1.wd (by omega) (by omega)).tr (hs3.wd (by omega) (by omega)))
              simp only [rz_SF, rz_fv_pf, rz_av_pf, rz_qv_pf, rz_ln_pf, rz_co_pf, rz_fv_pa, rz_av_pa, rz_qv_pa, rz_ln_pa, rz_co_pa, rz_fv_pq, rz_av_pq, rz_qv_pq, rz_ln_pq, rz_co_pq, Nat.reduceEqDiff, Nat.add_eq_left, Nat.left_eq_add, Nat.one_ne_zero, Option.map_some, exists_const, Option.some.injEq, Prod.mk.injEq, exists_eq_left', exists_eq', exists_and_left, exists_and_right, true_and, and_true, true_or, or_true, and_self, and_assoc, Option.toList_some, Option.toList_none, List.cons_append, List.nil_append, ↓reduceIte, rz_x01, rz_x10, r0, r1, r2, r3, r4, r5]
            · simp only [if_pos (Int32.not_lt.mp h5)] at kk
              simp only [↓ri_76_0, ↓ri_76_1, ↓ri_76_4, ↓ri_76_7, ↓ri_76_8, ↓ri_76_11, ↓ri_76_12, ↓ri_76_15, ↓ri_76_18, ↓ri_76_20, ↓ri_76_21, ↓ri_76_22, ↓ri_76_23, ↓ri_76_26, ↓ri_76_29, ↓ri_76_32, ↓ri_76_34, ↓ri_76_35, ↓ri_76_36, ↓ri_76_39, ↓ri_76_42, ↓ri_76_45, ↓ri_76_46, ↓ri_76_49, ↓ri_76_52, ↓ri_76_55, ↓ri_76_57, ↓ri_76_58, ↓ri_76_59, ↓ri_76_62, ↓ri_76_63, ↓ri_76_64, ↓ri_76_67, ↓ri_76_68, ↓ri_76_69, ↓ri_76_70, ↓ri_76_71, ↓ri_76_74, ↓ri_76_75, ↓ri_76_76, ↓ri_76_79, ↓ri_76_80, ↓ri_76_81, ↓ri_76_84, ↓ri_76_85, Option.some.injEq, Prod.mk.injEq, exists_eq_left', exists_eq', exists_and_left, exists_and_right, true_and, and_true, true_or, or_true, and_self, and_assoc, Option.toList_some, Option.toList_none, List.cons_append, List.nil_append, ↓reduceIte, rz_x01, rz_x10, tk, ↓if_neg h1, ↓if_pos (Int32.not_lt.mp h2), p0, p3, hco, hqf, hqu, ↓if_pos (Int32.not_lt.mp h3), ↓if_neg h5]
              exact kk _ h rz_sm.rf
          · simp only [h4, not_false_eq_true, true_or, if_true] at kk
            simp only [h4, if_false] at hqu
            simp only [↓ri_76_0, ↓ri_76_1, ↓ri_76_4, ↓ri_76_7, ↓ri_76_8, ↓ri_76_11, ↓ri_76_12, ↓ri_76_15, ↓ri_76_18, ↓ri_76_20, ↓ri_76_21, ↓ri_76_22, ↓ri_76_23, ↓ri_76_26, ↓ri_76_29, ↓ri_76_32, ↓ri_76_34, ↓ri_76_35, ↓ri_76_36, ↓ri_76_39, ↓ri_76_42, ↓ri_76_45, ↓ri_76_46, ↓ri_76_49, ↓ri_76_52, ↓ri_76_55, ↓ri_76_57, ↓ri_76_58, ↓ri_76_59, ↓ri_76_62, ↓ri_76_63, ↓ri_76_64, ↓ri_76_67, ↓ri_76_68, ↓ri_76_69, ↓ri_76_70, ↓ri_76_71, ↓ri_76_74, ↓ri_76_75, ↓ri_76_76, ↓ri_76_79, ↓ri_76_80, ↓ri_76_81, ↓ri_76_84, ↓ri_76_85, Option.some.injEq, Prod.mk.injEq, exists_eq_left', exists_eq', exists_and_left, exists_and_right, true_and, and_true, true_or, or_true, and_self, and_assoc, Option.toList_some, Option.toList_none, List.cons_append, List.nil_append, ↓reduceIte, rz_x01, rz_x10, tk, ↓if_neg h1, ↓if_pos (Int32.not_lt.mp h2), p0, p3, hco, hqf, hqu, ↓if_pos (Int32.not_lt.mp h3)]
            exact kk _ h rz_sm.rf
  · have tk := fun R => (c_C_isKey (d := d + 1) (hp := hp) (R := R)).2 hk
    simp only [hk, not_false_eq_true, true_or, if_true] at kk
    simp only [↓ri_76_0, ↓ri_76_1, ↓ri_76_4, ↓ri_76_7, ↓ri_76_8, ↓ri_76_11, ↓ri_76_12, ↓ri_76_15, ↓ri_76_18, ↓ri_76_20, ↓ri_76_21, ↓ri_76_22, ↓ri_76_23, ↓ri_76_26, ↓ri_76_29, ↓ri_76_32, ↓ri_76_34, ↓ri_76_35, ↓ri_76_36, ↓ri_76_39, ↓ri_76_42, ↓ri_76_45, ↓ri_76_46, ↓ri_76_49, ↓ri_76_52, ↓ri_76_55, ↓ri_76_57, ↓ri_76_58, ↓ri_76_59, ↓ri_76_62, ↓ri_76_63, ↓ri_76_64, ↓ri_76_67, ↓ri_76_68, ↓ri_76_69, ↓ri_76_70, ↓ri_76_71, ↓ri_76_74, ↓ri_76_75, ↓ri_76_76, ↓ri_76_79, ↓ri_76_80, ↓ri_76_81, ↓ri_76_84, ↓ri_76_85, Option.some.injEq, Prod.mk.injEq, exists_eq_left', exists_eq', exists_and_left, exists_and_right, true_and, and_true, true_or, or_true, and_self, and_assoc, Option.toList_some, Option.toList_none, List.cons_append, List.nil_append, ↓reduceIte, rz_x01, rz_x10, tk]
    exact kk _ h rz_sm.rf
/-- the place of the next entry -/
def rz_nxf (L : List rz_En) : Option Nat := L.findIdx? (fun e => L.all (fun x => decide (e.2.1 ≤ x.2.1)))
theorem rz_nxf_some {L : List rz_En} {j : Nat} (h : rz_nxf L = some j) : rz_nx L j := by
  unfold rz_nxf at h
  rw [List.findIdx?_eq_some_iff_getElem] at h
  obtain ⟨hj, h1, h2⟩ := h
  have hall : ∀ x ∈ L, L[j].2.1 ≤ x.2.1 := by simpa using h1
  refine ⟨L[j], List.getElem?_eq_getElem hj, fun i x hx => hall x (List.mem_of_getElem? hx), fun i x hi hx => ?_⟩
  have h3 := h2 i hi
  have hxi : L[i]'(by omega) = x := (List.getElem?_eq_some_iff.mp hx).2
  rw [hxi] at h3
  refine Int32.not_le.mp (fun q => h3 ?_)
  simp only [List.all_eq_true, decide_eq_true_eq]
  exact fun y hy => Int32.le_trans q (hall y hy)
theorem rz_nxf_none {L : List rz_En} (h : rz_nxf L = none) : L = [] := by
  by_cases h0 : L = []
  · exact h0
  · obtain ⟨j, e, he, h1, -⟩ := rz_nx_ex h0
    unfold rz_nxf at h
    rw [List.findIdx?_eq_none_iff] at h
    have := h e (List.mem_of_getElem? he)
    have h2 : (L.all fun x => decide (e.2.1 ≤ x.2.1)) = true := by
      simp only [List.all_eq_true, decide_eq_true_eq]
      intro y hy
      obtain ⟨i, hi⟩ := List.getElem?_of_mem hy
      exact h1 i y hi
    rw [h2] at this
    cases this
theorem rz_nxf_nil : rz_nxf [] = none := rfl
/-- an entry comes out -/
def rz_out_ : rz_AS → Int32 × rz_AS := fun (L, fl, am, lat, rd, laid, ci, co, tb) => match rz_nxf L with
  | none => (-5, L, fl, am, lat, rd, laid, ci, co, tb)
  | some j => match L[j]?, (rz_re L (L.getD j (0, 0, 0, 0, 0)))[j]? with
    | some e, some e1 => (e.1, (rz_re L e).eraseIdx j, rz_reF fl e, rz_reM am L e, (((e1.1, e1.2.1, e1.2.2.1, e1.2.2.2.1) :: lat).take 8), rd, laid, ci, co + 1, tb)
    | _, _ => (-5, L, fl, am, lat, rd, laid, ci, co, tb)
theorem rz_re_len (L : List rz_En) (e : rz_En) : (rz_re L e).length = L.length := by
  unfold rz_re
  split
  · rfl
  · rw [List.length_map]
theorem rz_re_at {L : List rz_En} {e : rz_En} {j : Nat} (he : L[j]? = some e) : ∃ e1, (rz_re L e)[j]? = some e1 ∧ e1.1 = e.1 ∧ e1.2.1 = e.2.1 ∧ e1.2.2.1 = e.2.2.1 := by
  unfold rz_re
  split
  · exact ⟨e, he, rfl, rfl, rfl⟩
  · rw [List.getElem?_map, he]
    refine ⟨rz_mo e.2.2.2.2 e.2.1 e, rfl, ?_⟩
    unfold rz_mo
    split <;> exact ⟨rfl, rfl, rfl⟩
theorem rz_out_eq {L : List rz_En} {fl am : Int32} {lat : List rz_La} {rd : Nat → Int32} {laid ci co tb : Int32} {j : Nat} {e e1 : rz_En} (hn : rz_nxf L = some j) (he : L[j]? = some e) (he1 : (rz_re L e)[j]? = some e1) : rz_out_ (L, fl, am, lat, rd, laid, ci, co, tb) = (e.1, (rz_re L e).eraseIdx j, rz_reF fl e, rz_reM am L e, (((e1.1, e1.2.1, e1.2.2.1, e1.2.2.2.1) :: lat).take 8), rd, laid, ci, co + 1, tb) := by
  unfold rz_out_
  have hd : L.getD j (0, 0, 0, 0, 0) = e := by rw [List.getD_eq_getElem?_getD, he]; rfl
  simp only [hn, he, hd, he1]
theorem rz_out_none {fl am : Int32} {lat : List rz_La} {rd : Nat → Int32} {laid ci co tb : Int32} : rz_out_ ([], fl, am, lat, rd, laid, ci, co, tb) = (-5, [], fl, am, lat, rd, laid, ci, co, tb) := rfl
set_option maxHeartbeats 4000000 in
set_option maxRecDepth 100000 in
theorem c_T_letOut {d p : Nat} {s : rz_AS} {hp : rz_Hp} (h : rz_ST p s hp) (hI : rz_I0 s) {R : Option Value → rz_Hp → Prop} (kk : ∀ hp', rz_ST p (rz_out_ s).2 hp' → rz_sm p (p + 14) hp hp' → R (some (.int (rz_out_ s).1)) hp') : rz_ev (d + 3) 77 0 [some (.ref p), none, none] [] hp R := by
  obtain ⟨L, fl, am, lat, rd, laid, ci, co, tb⟩ := s
  obtain ⟨hkr, c, hc, hf⟩ := hI
  obtain ⟨⟨p0, p1, p2, p3, p4, p5⟩, hP, hT, hR⟩ := id h
  have hco : rz_co hp (p + 1) = some 3 := rz_co_fv hP.2.1.1
  cases hn : rz_nxf L with
  | none =>
    have h0 := rz_nxf_none hn
    subst h0
    rw [rz_out_none] at kk
    have hq := fun R => c_P_indexOfNext0 (d := d) hP (R := R)
    simp only [↓ri_77_0, ↓ri_77_1, ↓ri_77_4, ↓ri_77_7, ↓ri_77_8, ↓ri_77_9, ↓ri_77_10, ↓ri_77_13, ↓ri_77_15, ↓ri_77_16, ↓ri_77_17, ↓ri_77_20, ↓ri_77_21, ↓ri_77_24, ↓ri_77_25, ↓ri_77_28, ↓ri_77_29, ↓ri_77_32, ↓ri_77_33, ↓ri_77_34, ↓ri_77_37, ↓ri_77_38, ↓ri_77_39, ↓ri_77_42, ↓ri_77_43, ↓ri_77_46, ↓ri_77_47, ↓ri_77_50, ↓ri_77_51, ↓ri_77_54, ↓ri_77_55, ↓ri_77_58, ↓ri_77_59, ↓ri_77_62, ↓ri_77_65, ↓ri_77_66, ↓ri_77_69, ↓ri_77_70, ↓ri_77_73, ↓ri_77_74, ↓ri_77_75, ↓ri_77_78, ↓ri_77_79, ↓ri_77_80, ↓ri_77_83, ↓ri_77_84, Option.some.injEq, Prod.mk.injEq, exists_eq_left', exists_eq', exists_and_left, exists_and_right, true_and, and_true, true_or, or_true, and_self, and_assoc, Option.toList_some, Option.toList_none, List.cons_append, List.nil_append, ↓reduceIte, rz_x01, rz_x10, p0, hco, hq]
    exact kk _ h rz_sm.rf
  | some j =>
    have hnx := rz_nxf_some hn
    obtain ⟨e, he, -, -⟩ := id hnx
    obtain ⟨e1, he1, i1, i2, i3⟩ := rz_re_at he
    rw [rz_out_eq hn he he1] at kk
    have hj := (List.getElem?_eq_some_iff.mp he).1
    have hL := hP.1
    have hq := fun R => c_P_indexOfNext (d := d) hP hnx (R := R)
    have c1 : ¬ nI j = -1 := fun q => nI_pos (show j < 2 ^ 31 by omega) (by rw [q]; decide)
    simp only [↓ri_77_0, ↓ri_77_1, ↓ri_77_4, ↓ri_77_7, ↓ri_77_8, ↓ri_77_9, ↓ri_77_10, ↓ri_77_13, ↓ri_77_15, ↓ri_77_16, ↓ri_77_17, ↓ri_77_20, ↓ri_77_21, ↓ri_77_24, ↓ri_77_25, ↓ri_77_28, ↓ri_77_29, ↓ri_77_32, ↓ri_77_33, ↓ri_77_34, ↓ri_77_37, ↓ri_77_38, ↓ri_77_39, ↓ri_77_42, ↓ri_77_43, ↓ri_77_46, ↓ri_77_47, ↓ri_77_50, ↓ri_77_51, ↓ri_77_54, ↓ri_77_55, ↓ri_77_58, ↓ri_77_59, ↓ri_77_62, ↓ri_77_65, ↓ri_77_66, ↓ri_77_69, ↓ri_77_70, ↓ri_77_73, ↓ri_77_74, ↓ri_77_75, ↓ri_77_78, ↓ri_77_79, ↓ri_77_80, ↓ri_77_83, ↓ri_77_84, Option.some.injEq, Prod.mk.injEq, exists_eq_left', exists_eq', exists_and_left, exists_and_right, true_and, and_true, true_or, or_true, and_self, and_assoc, Option.toList_some, Option.toList_none, List.cons_append, List.nil_append, ↓reduceIte, rz_x01, rz_x10, p0, hco, hq, ↓if_neg c1]
    refine c_P_reach (d := d) hP he hkr (fun h1 hP1 hs1 => ?_)
    have hco1 : rz_co h1 (p + 1) = some 3 := rz_co_fv hP1.2.1.1
    obtain ⟨r0, r1, r2, r3, r4, r5⟩ := rz_SF_sm (p := p) ⟨p0, p1, p2, p3, p4, p5⟩ hs1 (by omega)
    have hT1 := rz_LT_sm hT hs1 (by omega)
    have hR1 := rz_RD_sm hR hs1 (by omega)
    have g1 := fun R => c_P_numberAt (d := d + 1) hP1 he1 (R := R)
    have g2 := fun R => c_P_keyAt (d := d + 1) hP1 he1 (R := R)
    have g3 := fun R => c_P_valueAt (d := d + 1) hP1 he1 (R := R)
    have g4 := fun R => c_P_movesAt (d := d + 1) hP1 he1 (R := R)
    have hcoT : rz_co h1 (p + 7) = some 1 := rz_co_fv hT1.2.1.1
    simp only [↓ri_77_0, ↓ri_77_1, ↓ri_77_4, ↓ri_77_7, ↓ri_77_8, ↓ri_77_9, ↓ri_77_10, ↓ri_77_13, ↓ri_77_15, ↓ri_77_16, ↓ri_77_17, ↓ri_77_20, ↓ri_77_21, ↓ri_77_24, ↓ri_77_25, ↓ri_77_28, ↓ri_77_29, ↓ri_77_32, ↓ri_77_33, ↓ri_77_34, ↓ri_77_37, ↓ri_77_38, ↓ri_77_39, ↓ri_77_42, ↓ri_77_43, ↓ri_77_46, ↓ri_77_47, ↓ri_77_50, ↓ri_77_51, ↓ri_77_54, ↓ri_77_55, ↓ri_77_58, ↓ri_77_59, ↓ri_77_62, ↓ri_77_65, ↓ri_77_66, ↓ri_77_69, ↓ri_77_70, ↓ri_77_73, ↓ri_77_74, ↓ri_77_75, ↓ri_77_78, ↓ri_77_79, ↓ri_77_80, ↓ri_77_83, ↓ri_77_84, Option.some.injEq, Prod.mk.injEq, exists_eq_left', exists_eq', exists_and_left, exists_and_right, true_and, and_true, true_or, or_true, and_self, and_assoc, Option.toList_some, Option.toList_none, List.cons_append, List.nil_append, ↓reduceIte, rz_x01, rz_x10, r0, r1, hco1, hcoT, g1, g2, g3, g4]
    refine c_L_put (d := d) hT1 (fun h2 hT2 hs2 => ?_)
    have hP2 := rz_PL_sm hP1 hs2 (by omega)
    obtain ⟨t0, t1, t2, t3, t4, t5⟩ := rz_SF_sm (p := p) ⟨r0, r1, r2, r3, r4, r5⟩ hs2 (by omega)
    have hR2 := rz_RD_sm hR1 hs2 (by omega)
    have hco2 : rz_co h2 (p + 1) = some 3 := rz_co_fv hP2.2.1.1
    simp only [↓ri_77_0, ↓ri_77_1, ↓ri_77_4, ↓ri_77_7, ↓ri_77_8, ↓ri_77_9, ↓ri_77_10, ↓ri_77_13, ↓ri_77_15, ↓ri_77_16, ↓ri_77_17, ↓ri_77_20, ↓ri_77_21, ↓ri_77_24, ↓ri_77_25, ↓ri_77_28, ↓ri_77_29, ↓ri_77_32, ↓ri_77_33, ↓ri_77_34, ↓ri_77_37, ↓ri_77_38, ↓ri_77_39, ↓ri_77_42, ↓ri_77_43, ↓ri_77_46, ↓ri_77_47, ↓ri_77_50, ↓ri_77_51, ↓ri_77_54, ↓ri_77_55, ↓ri_77_58, ↓ri_77_59, ↓ri_77_62, ↓ri_77_65, ↓ri_77_66, ↓ri_77_69, ↓ri_77_70, ↓ri_77_73, ↓ri_77_74, ↓ri_77_75, ↓ri_77_78, ↓ri_77_79, ↓ri_77_80, ↓ri_77_83, ↓ri_77_84, Option.some.injEq, Prod.mk.injEq, exists_eq_left', exists_eq', exists_and_left, exists_and_right, true_and, and_true, true_or, or_true, and_self, and_assoc, Option.toList_some, Option.toList_none, List.cons_append, List.nil_append, ↓reduceIte, rz_x01, rz_x10, t0, hco2]
    refine c_P_removeAt (d := d + 1) hP2 (by rw [rz_re_len]; exact hj) (fun h3 hP3 hs3 => ?_)
    obtain ⟨v0, v1, v2, v3, v4, v5⟩ := rz_SF_sm (p := p) ⟨t0, t1, t2, t3, t4, t5⟩ hs3 (by omega)
    have hT3 := rz_LT_sm hT2 hs3 (by omega)
    have hR3 := rz_RD_sm hR2 hs3 (by omega)
    simp only [↓ri_77_0, ↓ri_77_1, ↓ri_77_4, ↓ri_77_7, ↓ri_77_8, ↓ri_77_9, ↓ri_77_10, ↓ri_77_13, ↓ri_77_15, ↓ri_77_16, ↓ri_77_17, ↓ri_77_20, ↓ri_77_21, ↓ri_77_24, ↓ri_77_25, ↓ri_77_28, ↓ri_77_29, ↓ri_77_32, ↓ri_77_33, ↓ri_77_34, ↓ri_77_37, ↓ri_77_38, ↓ri_77_39, ↓ri_77_42, ↓ri_77_43, ↓ri_77_46, ↓ri_77_47, ↓ri_77_50, ↓ri_77_51, ↓ri_77_54, ↓ri_77_55, ↓ri_77_58, ↓ri_77_59, ↓ri_77_62, ↓ri_77_65, ↓ri_77_66, ↓ri_77_69, ↓ri_77_70, ↓ri_77_73, ↓ri_77_74, ↓ri_77_75, ↓ri_77_78, ↓ri_77_79, ↓ri_77_80, ↓ri_77_83, ↓ri_77_84, Option.some.injEq, Prod.mk.injEq, exists_eq_left', exists_eq', exists_and_left, exists_and_right, true_and, and_true, true_or, or_true, and_self, and_assoc, Option.toList_some, Option.toList_none, List.cons_append, List.nil_append, ↓reduceIte, rz_x01, rz_x10, v4, i1]
    have hs4 : rz_sm p (p + 1) h3 (rz_pf h3 p 4 (.int (co + 1))) := rz_sm_pf (by omega) (by omega)
    refine kk _ ⟨?_, rz_PL_sm hP3 hs4 (by omega), ?_, rz_RD_sm hR3 hs4 (by omega)⟩ ((((hs1.wd (by omega) (by omega)).tr (hs2.wd (by omega) (by omega))).tr (hs3.wd (by omega) (by omega))).tr (hs4.wd (by omega) (by omega)))
    · simp only [rz_SF, rz_fv_pf, rz_av_pf, rz_qv_pf, rz_ln_pf, rz_co_pf, rz_fv_pa, rz_av_pa, rz_qv_pa, rz_ln_pa, rz_co_pa, rz_fv_pq, rz_av_pq, rz_qv_pq, rz_ln_pq, rz_co_pq, Nat.reduceEqDiff, Nat.add_eq_left, Nat.left_eq_add, Nat.one_ne_zero, Option.map_some, exists_const, Option.some.injEq, Prod.mk.injEq, exists_eq_left', exists_eq', exists_and_left, exists_and_right, true_and, and_true, true_or, or_true, and_self, and_assoc, Option.toList_some, Option.toList_none, List.cons_append, List.nil_append, ↓reduceIte, rz_x01, rz_x10, v0, v1, v2, v3, v4, v5]
    · have := rz_LT_sm hT3 hs4 (by omega)
      rw [i1] at this
      rw [i1]
      exact this
