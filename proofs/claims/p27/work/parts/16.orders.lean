/-! Orders: the text is read -/
abbrev rz_Or : Type := Int32 × Int32 × Int32
/-- an Orders object: the orders, and the place in the text -/
def rz_OR (q : Nat) (os : List rz_Or) (pl : Int32) (hp : rz_Hp) : Prop := os.length ≤ 30 ∧ rz_fv hp q 2 0 = some (.ref (q + 1)) ∧ rz_fv hp q 2 1 = some (.ref (q + 2)) ∧ rz_fv hp q 2 2 = some (.ref (q + 3)) ∧ rz_fv hp q 2 3 = some (.int (nI os.length)) ∧ rz_fv hp q 2 4 = some (.int pl) ∧
  ∃ f0 f1 f2, rz_av hp (q + 1) = some (1, 30, f0) ∧ rz_av hp (q + 2) = some (0, 30, f1) ∧ rz_av hp (q + 3) = some (0, 30, f2) ∧ ∀ (i : Nat) (o : rz_Or), os[i]? = some o → f0 i = o.1 ∧ f1 i = o.2.1 ∧ f2 i = o.2.2
theorem rz_OR_sm {lo hi q : Nat} {os : List rz_Or} {pl : Int32} {hp h1 : rz_Hp} (h : rz_OR q os pl hp) (s : rz_sm lo hi hp h1) (hd : q + 4 ≤ lo ∨ hi ≤ q) : rz_OR q os pl h1 := by
  obtain ⟨hL, p0, p1, p2, p3, p4, f0, f1, f2, a0, a1, a2, hf⟩ := h
  refine ⟨hL, ?_, ?_, ?_, ?_, ?_, f0, f1, f2, ?_, ?_, ?_, hf⟩
  all_goals first | (rw [s.fv (by omega)]; assumption) | (rw [s.av (by omega)]; assumption)
set_option maxHeartbeats 4000000 in
set_option maxRecDepth 100000 in
theorem c_O_size {d q : Nat} {os : List rz_Or} {pl : Int32} {hp : rz_Hp} (h : rz_OR q os pl hp) {R : Option Value → rz_Hp → Prop} : rz_ev d 12 0 [some (.ref q)] [] hp R ↔ R (some (.int (nI os.length))) hp := by
  obtain ⟨hL, p0, p1, p2, p3, p4, -⟩ := h
  simp only [↓ri_12_0, ↓ri_12_1, ↓ri_12_4, Option.some.injEq, Prod.mk.injEq, exists_eq_left', exists_eq', exists_and_left, exists_and_right, true_and, and_true, true_or, or_true, and_self, and_assoc, Option.toList_some, Option.toList_none, List.cons_append, List.nil_append, ↓reduceIte, rz_x01, rz_x10, p3]
set_option maxHeartbeats 4000000 in
set_option maxRecDepth 100000 in
theorem c_O_has {d q j : Nat} {os : List rz_Or} {pl : Int32} {hp : rz_Hp} (h : rz_OR q os pl hp) (hj : j < os.length) {R : Option Value → rz_Hp → Prop} : rz_ev d 13 0 [some (.ref q), some (.int (nI j))] [] hp R ↔ R (some (.int 1)) hp := by
  obtain ⟨hL, p0, p1, p2, p3, p4, -⟩ := h
  have c0 : ¬ nI j < 0 := nI_pos (by omega)
  have c1 : ¬ nI os.length ≤ nI j := nI_ge hj (by omega)
  have c2 : ¬ 30 ≤ nI j := nI_ge (b := 30) (by omega) (by decide)
  simp only [↓ri_13_0, ↓ri_13_1, ↓ri_13_4, ↓ri_13_5, ↓ri_13_6, ↓ri_13_9, ↓ri_13_12, ↓ri_13_13, ↓ri_13_15, ↓ri_13_18, ↓ri_13_19, ↓ri_13_22, ↓ri_13_23, Option.some.injEq, Prod.mk.injEq, exists_eq_left', exists_eq', exists_and_left, exists_and_right, true_and, and_true, true_or, or_true, and_self, and_assoc, Option.toList_some, Option.toList_none, List.cons_append, List.nil_append, ↓reduceIte, rz_x01, rz_x10, p3, ↓if_neg c0, ↓if_neg c1, ↓if_neg c2]
set_option maxHeartbeats 4000000 in
set_option maxRecDepth 100000 in
theorem c_O_kindAt {d q j : Nat} {os : List rz_Or} {pl : Int32} {hp : rz_Hp} {o : rz_Or} (h : rz_OR q os pl hp) (ho : os[j]? = some o) {R : Option Value → rz_Hp → Prop} : rz_ev (d + 1) 14 0 [some (.ref q), some (.int (nI j))] [] hp R ↔ R (some (.int o.1)) hp := by
  have hj := (List.getElem?_eq_some_iff.mp ho).1
  have hh := fun R => c_O_has (d := d) h hj (R := R)
  obtain ⟨hL, p0, p1, p2, p3, p4, f0, f1, f2, a0, a1, a2, hf⟩ := h
  have hv : vp_in (nI j) 30 := vp_in_nI (by omega) (by decide)
  obtain ⟨g0, g1, g2⟩ := hf j o ho
  simp only [↓ri_14_0, ↓ri_14_1, ↓ri_14_2, ↓ri_14_5, ↓ri_14_8, ↓ri_14_9, ↓ri_14_12, ↓ri_14_13, ↓ri_14_14, ↓ri_14_17, ↓ri_14_18, Option.some.injEq, Prod.mk.injEq, exists_eq_left', exists_eq', exists_and_left, exists_and_right, true_and, and_true, true_or, or_true, and_self, and_assoc, Option.toList_some, Option.toList_none, List.cons_append, List.nil_append, ↓reduceIte, rz_x01, rz_x10, rz_co_fv p0, hh, p0, a0, hv, nI_clamp (show j < 2 ^ 31 by omega), g0]
set_option maxHeartbeats 4000000 in
set_option maxRecDepth 100000 in
theorem c_O_firstAt {d q j : Nat} {os : List rz_Or} {pl : Int32} {hp : rz_Hp} {o : rz_Or} (h : rz_OR q os pl hp) (ho : os[j]? = some o) {R : Option Value → rz_Hp → Prop} : rz_ev (d + 1) 15 0 [some (.ref q), some (.int (nI j))] [] hp R ↔ R (some (.int o.2.1)) hp := by
  have hj := (List.getElem?_eq_some_iff.mp ho).1
  have hh := fun R => c_O_has (d := d) h hj (R := R)
  obtain ⟨hL, p0, p1, p2, p3, p4, f0, f1, f2, a0, a1, a2, hf⟩ := h
  have hv : vp_in (nI j) 30 := vp_in_nI (by omega) (by decide)
  obtain ⟨g0, g1, g2⟩ := hf j o ho
  simp only [↓ri_15_0, ↓ri_15_1, ↓ri_15_2, ↓ri_15_5, ↓ri_15_8, ↓ri_15_9, ↓ri_15_12, ↓ri_15_13, ↓ri_15_14, ↓ri_15_17, ↓ri_15_18, Option.some.injEq, Prod.mk.injEq, exists_eq_left', exists_eq', exists_and_left, exists_and_right, true_and, and_true, true_or, or_true, and_self, and_assoc, Option.toList_some, Option.toList_none, List.cons_append, List.nil_append, ↓reduceIte, rz_x01, rz_x10, rz_co_fv p0, hh, p1, a1, hv, nI_clamp (show j < 2 ^ 31 by omega), g1]
set_option maxHeartbeats 4000000 in
set_option maxRecDepth 100000 in
theorem c_O_secondAt {d q j : Nat} {os : List rz_Or} {pl : Int32} {hp : rz_Hp} {o : rz_Or} (h : rz_OR q os pl hp) (ho : os[j]? = some o) {R : Option Value → rz_Hp → Prop} : rz_ev (d + 1) 16 0 [some (.ref q), some (.int (nI j))] [] hp R ↔ R (some (.int o.2.2)) hp := by
  have hj := (List.getElem?_eq_some_iff.mp ho).1
  have hh := fun R => c_O_has (d := d) h hj (R := R)
  obtain ⟨hL, p0, p1, p2, p3, p4, f0, f1, f2, a0, a1, a2, hf⟩ := h
  have hv : vp_in (nI j) 30 := vp_in_nI (by omega) (by decide)
  obtain ⟨g0, g1, g2⟩ := hf j o ho
  simp only [↓ri_16_0, ↓ri_16_1, ↓ri_16_2, ↓ri_16_5, ↓ri_16_8, ↓ri_16_9, ↓ri_16_12, ↓ri_16_13, ↓ri_16_14, ↓ri_16_17, ↓ri_16_18, Option.some.injEq, Prod.mk.injEq, exists_eq_left', exists_eq', exists_and_left, exists_and_right, true_and, and_true, true_or, or_true, and_self, and_assoc, Option.toList_some, Option.toList_none, List.cons_append, List.nil_append, ↓reduceIte, rz_x01, rz_x10, rz_co_fv p0, hh, p2, a2, hv, nI_clamp (show j < 2 ^ 31 by omega), g2]
set_option maxHeartbeats 4000000 in
set_option maxRecDepth 100000 in
theorem c_O_put {d q : Nat} {os : List rz_Or} {pl a b c : Int32} {hp : rz_Hp} (h : rz_OR q os pl hp) (hl : os.length < 30) (ha : vp_nar .char a = a) {R : Option Value → rz_Hp → Prop} (kk : ∀ hp', rz_OR q (os ++ [(a, b, c)]) pl hp' → rz_sm q (q + 4) hp hp' → R (some (.int 1)) hp') : rz_ev d 25 0 [some (.ref q), some (.int a), some (.int b), some (.int c)] [] hp R := by
  obtain ⟨hL, p0, p1, p2, p3, p4, f0, f1, f2, a0, a1, a2, hf⟩ := h
  have hv : vp_in (nI os.length) 30 := vp_in_nI hl (by decide)
  have c0 : ¬ nI os.length < 0 := nI_pos (by omega)
  have c1 : nI os.length < 30 := nI_lt (b := 30) hl (by decide)
  simp only [↓ri_25_0, ↓ri_25_1, ↓ri_25_4, ↓ri_25_7, ↓ri_25_8, ↓ri_25_11, ↓ri_25_13, ↓ri_25_16, ↓ri_25_17, ↓ri_25_18, ↓ri_25_19, ↓ri_25_22, ↓ri_25_23, ↓ri_25_26, ↓ri_25_27, ↓ri_25_28, ↓ri_25_29, ↓ri_25_32, ↓ri_25_33, ↓ri_25_36, ↓ri_25_37, ↓ri_25_38, ↓ri_25_39, ↓ri_25_42, ↓ri_25_43, ↓ri_25_46, ↓ri_25_47, ↓ri_25_48, ↓ri_25_49, ↓ri_25_50, ↓ri_25_53, ↓ri_25_54, ↓ri_25_55, ↓ri_25_58, ↓ri_25_59, Option.some.injEq, Prod.mk.injEq, exists_eq_left', exists_eq', exists_and_left, exists_and_right, true_and, and_true, true_or, or_true, and_self, and_assoc, Option.toList_some, Option.toList_none, List.cons_append, List.nil_append, ↓reduceIte, rz_x01, rz_x10, rz_fv_pf, rz_av_pf, rz_qv_pf, rz_ln_pf, rz_co_pf, rz_fv_pa, rz_av_pa, rz_qv_pa, rz_ln_pa, rz_co_pa, rz_fv_pq, rz_av_pq, rz_qv_pq, rz_ln_pq, rz_co_pq, Nat.reduceEqDiff, Nat.add_eq_left, Nat.left_eq_add, Nat.one_ne_zero, Option.map_some, exists_const, p0, p1, p2, p3, a0, a1, a2, ↓if_neg c0, ↓if_pos c1, hv, nI_clamp (show os.length < 2 ^ 31 by omega), ha, nI_1]
  refine kk _ ⟨by rw [List.length_append, List.length_singleton]; omega, by simp only [rz_fv_pf, rz_av_pf, rz_qv_pf, rz_ln_pf, rz_co_pf, rz_fv_pa, rz_av_pa, rz_qv_pa, rz_ln_pa, rz_co_pa, rz_fv_pq, rz_av_pq, rz_qv_pq, rz_ln_pq, rz_co_pq, Nat.reduceEqDiff, Nat.add_eq_left, Nat.left_eq_add, Nat.one_ne_zero, Option.map_some, exists_const, Option.some.injEq, Prod.mk.injEq, exists_eq_left', exists_eq', exists_and_left, exists_and_right, true_and, and_true, true_or, or_true, and_self, and_assoc, Option.toList_some, Option.toList_none, List.cons_append, List.nil_append, ↓reduceIte, rz_x01, rz_x10, p0], by simp only [rz_fv_pf, rz_av_pf, rz_qv_pf, rz_ln_pf, rz_co_pf, rz_fv_pa, rz_av_pa, rz_qv_pa, rz_ln_pa, rz_co_pa, rz_fv_pq, rz_av_pq, rz_qv_pq, rz_ln_pq, rz_co_pq, Nat.reduceEqDiff, Nat.add_eq_left, Nat.left_eq_add, Nat.one_ne_zero, Option.map_some, exists_const, Option.some.injEq, Prod.mk.injEq, exists_eq_left', exists_eq', exists_and_left, exists_and_right, true_and, and_true, true_or, or_true, and_self, and_assoc, Option.toList_some, Option.toList_none, List.cons_append, List.nil_append, ↓reduceIte, rz_x01, rz_x10, p1], by simp only [rz_fv_pf, rz_av_pf, rz_qv_pf, rz_ln_pf, rz_co_pf, rz_fv_pa, rz_av_pa, rz_qv_pa, rz_ln_pa, rz_co_pa, rz_fv_pq, rz_av_pq, rz_qv_pq, rz_ln_pq, rz_co_pq, Nat.reduceEqDiff, Nat.add_eq_left, Nat.left_eq_add, Nat.one_ne_zero, Option.map_some, exists_const, Option.some.injEq, Prod.mk.injEq, exists_eq_left', exists_eq', exists_and_left, exists_and_right, true_and, and_true, true_or, or_true, and_self, and_assoc, Option.toList_some, Option.toList_none, List.cons_append, List.nil_append, ↓reduceIte, rz_x01, rz_x10, p2], by simp only [rz_fv_pf, rz_av_pf, rz_qv_pf, rz_ln_pf, rz_co_pf, rz_fv_pa, rz_av_pa, rz_qv_pa, rz_ln_pa, rz_co_pa, rz_fv_pq, rz_av_pq, rz_qv_pq, rz_ln_pq, rz_co_pq, Nat.reduceEqDiff, Nat.add_eq_left, Nat.left_eq_add, Nat.one_ne_zero, Option.map_some, exists_const, Option.some.injEq, Prod.mk.injEq, exists_eq_left', exists_eq', exists_and_left, exists_and_right, true_and, and_true, true_or, or_true, and_self, and_assoc, Option.toList_some, Option.toList_none, List.cons_append, List.nil_append, ↓reduceIte, rz_x01, rz_x10, p3, List.length_append, List.length_singleton], by simp only [rz_fv_pf, rz_av_pf, rz_qv_pf, rz_ln_pf, rz_co_pf, rz_fv_pa, rz_av_pa, rz_qv_pa, rz_ln_pa, rz_co_pa, rz_fv_pq, rz_av_pq, rz_qv_pq, rz_ln_pq, rz_co_pq, Nat.reduceEqDiff, Nat.add_eq_left, Nat.left_eq_add, Nat.one_ne_zero, Option.map_some, exists_const, Option.some.injEq, Prod.mk.injEq, exists_eq_left', exists_eq', exists_and_left, exists_and_right, true_and, and_true, true_or, or_true, and_self, and_assoc, Option.toList_some, Option.toList_none, List.cons_append, List.nil_append, ↓reduceIte, rz_x01, rz_x10, p4], upd f0 os.length a, upd f1 os.length b, upd f2 os.length c, by simp only [rz_fv_pf, rz_av_pf, rz_qv_pf, rz_ln_pf, rz_co_pf, rz_fv_pa, rz_av_pa, rz_qv_pa, rz_ln_pa, rz_co_pa, rz_fv_pq, rz_av_pq, rz_qv_pq, rz_ln_pq, rz_co_pq, Nat.reduceEqDiff, Nat.add_eq_left, Nat.left_eq_add, Nat.one_ne_zero, Option.map_some, exists_const, Option.some.injEq, Prod.mk.injEq, exists_eq_left', exists_eq', exists_and_left, exists_and_right, true_and, and_true, true_or, or_true, and_self, and_assoc, Option.toList_some, Option.toList_none, List.cons_append, List.nil_append, ↓reduceIte, rz_x01, rz_x10, a0], by simp only [rz_fv_pf, rz_av_pf, rz_qv_pf, rz_ln_pf, rz_co_pf, rz_fv_pa, rz_av_pa, rz_qv_pa, rz_ln_pa, rz_co_pa, rz_fv_pq, rz_av_pq, rz_qv_pq, rz_ln_pq, rz_co_pq, Nat.reduceEqDiff, Nat.add_eq_left, Nat.left_eq_add, Nat.one_ne_zero, Option.map_some, exists_const, Option.some.injEq, Prod.mk.injEq, exists_eq_left', exists_eq', exists_and_left, exists_and_right, true_and, and_true, true_or, or_true, and_self, and_assoc, Option.toList_some, Option.toList_none, List.cons_append, List.nil_append, ↓reduceIte, rz_x01, rz_x10, a1], by simp only [rz_fv_pf, rz_av_pf, rz_qv_pf, rz_ln_pf, rz_co_pf, rz_fv_pa, rz_av_pa, rz_qv_pa, rz_ln_pa, rz_co_pa, rz_fv_pq, rz_av_pq, rz_qv_pq, rz_ln_pq, rz_co_pq, Nat.reduceEqDiff, Nat.add_eq_left, Nat.left_eq_add, Nat.one_ne_zero, Option.map_some, exists_const, Option.some.injEq, Prod.mk.injEq, exists_eq_left', exists_eq', exists_and_left, exists_and_right, true_and, and_true, true_or, or_true, and_self, and_assoc, Option.toList_some, Option.toList_none, List.cons_append, List.nil_append, ↓reduceIte, rz_x01, rz_x10, a2], fun i o ho => ?_⟩ ?_
  · by_cases hi : i < os.length
    · rw [List.getElem?_append_left hi] at ho
      rw [pk_un (by omega), pk_un (by omega), pk_un (by omega)]
      exact hf i o ho
    · have hl2 := (List.getElem?_eq_some_iff.mp ho).1
      rw [List.length_append, List.length_singleton] at hl2
      have hi2 : i = os.length := by omega
      subst hi2
      rw [List.getElem?_append_right (Nat.le_refl _), Nat.sub_self] at ho
      cases ho
      exact ⟨pk_us, pk_us, pk_us⟩
  · repeat' first | exact rz_sm.rf | refine rz_sm.tr ?_ (rz_sm_pf (by omega) (by omega)) | refine rz_sm.tr ?_ (rz_sm_pa (by omega) (by omega))
/-- the place alone is set -/
theorem rz_OR_pl {q : Nat} {os : List rz_Or} {pl pl2 : Int32} {hp : rz_Hp} (h : rz_OR q os pl hp) : rz_OR q os pl2 (rz_pf hp q 4 (.int pl2)) := by
  obtain ⟨hL, p0, p1, p2, p3, p4, f0, f1, f2, a0, a1, a2, hf⟩ := h
  exact ⟨hL, by simp only [rz_fv_pf, rz_av_pf, rz_qv_pf, rz_ln_pf, rz_co_pf, rz_fv_pa, rz_av_pa, rz_qv_pa, rz_ln_pa, rz_co_pa, rz_fv_pq, rz_av_pq, rz_qv_pq, rz_ln_pq, rz_co_pq, Nat.reduceEqDiff, Nat.add_eq_left, Nat.left_eq_add, Nat.one_ne_zero, Option.map_some, exists_const, Option.some.injEq, Prod.mk.injEq, exists_eq_left', exists_eq', exists_and_left, exists_and_right, true_and, and_true, true_or, or_true, and_self, and_assoc, Option.toList_some, Option.toList_none, List.cons_append, List.nil_append, ↓reduceIte, rz_x01, rz_x10, p0], by simp only [rz_fv_pf, rz_av_pf, rz_qv_pf, rz_ln_pf, rz_co_pf, rz_fv_pa, rz_av_pa, rz_qv_pa, rz_ln_pa, rz_co_pa, rz_fv_pq, rz_av_pq, rz_qv_pq, rz_ln_pq, rz_co_pq, Nat.reduceEqDiff, Nat.add_eq_left, Nat.left_eq_add, Nat.one_ne_zero, Option.map_some, exists_const, Option.some.injEq, Prod.mk.injEq, exists_eq_left', exists_eq', exists_and_left, exists_and_right, true_and, and_true, true_or, or_true, and_self, and_assoc, Option.toList_some, Option.toList_none, List.cons_append, List.nil_append, ↓reduceIte, rz_x01, rz_x10, p1], by simp only [rz_fv_pf, rz_av_pf, rz_qv_pf, rz_ln_pf, rz_co_pf, rz_fv_pa, rz_av_pa, rz_qv_pa, rz_ln_pa, rz_co_pa, rz_fv_pq, rz_av_pq, rz_qv_pq, rz_ln_pq, rz_co_pq, Nat.reduceEqDiff, Nat.add_eq_left, Nat.left_eq_add, Nat.one_ne_zero, Option.map_some, exists_const, Option.some.injEq, Prod.mk.injEq, exists_eq_left', exists_eq', exists_and_left, exists_and_right, true_and, and_true, true_or, or_true, and_self, and_assoc, Option.toList_some, Option.toList_none, List.cons_append, List.nil_append, ↓reduceIte, rz_x01, rz_x10, p2], by simp only [rz_fv_pf, rz_av_pf, rz_qv_pf, rz_ln_pf, rz_co_pf, rz_fv_pa, rz_av_pa, rz_qv_pa, rz_ln_pa, rz_co_pa, rz_fv_pq, rz_av_pq, rz_qv_pq, rz_ln_pq, rz_co_pq, Nat.reduceEqDiff, Nat.add_eq_left, Nat.left_eq_add, Nat.one_ne_zero, Option.map_some, exists_const, Option.some.injEq, Prod.mk.injEq, exists_eq_left', exists_eq', exists_and_left, exists_and_right, true_and, and_true, true_or, or_true, and_self, and_assoc, Option.toList_some, Option.toList_none, List.cons_append, List.nil_append, ↓reduceIte, rz_x01, rz_x10, p3], by simp only [rz_fv_pf, rz_av_pf, rz_qv_pf, rz_ln_pf, rz_co_pf, rz_fv_pa, rz_av_pa, rz_qv_pa, rz_ln_pa, rz_co_pa, rz_fv_pq, rz_av_pq, rz_qv_pq, rz_ln_pq, rz_co_pq, Nat.reduceEqDiff, Nat.add_eq_left, Nat.left_eq_add, Nat.one_ne_zero, Option.map_some, exists_const, Option.some.injEq, Prod.mk.injEq, exists_eq_left', exists_eq', exists_and_left, exists_and_right, true_and, and_true, true_or, or_true, and_self, and_assoc, Option.toList_some, Option.toList_none, List.cons_append, List.nil_append, ↓reduceIte, rz_x01, rz_x10, p4], f0, f1, f2, by simp only [rz_fv_pf, rz_av_pf, rz_qv_pf, rz_ln_pf, rz_co_pf, rz_fv_pa, rz_av_pa, rz_qv_pa, rz_ln_pa, rz_co_pa, rz_fv_pq, rz_av_pq, rz_qv_pq, rz_ln_pq, rz_co_pq, Nat.reduceEqDiff, Nat.add_eq_left, Nat.left_eq_add, Nat.one_ne_zero, Option.map_some, exists_const, Option.some.injEq, Prod.mk.injEq, exists_eq_left', exists_eq', exists_and_left, exists_and_right, true_and, and_true, true_or, or_true, and_self, and_assoc, Option.toList_some, Option.toList_none, List.cons_append, List.nil_append, ↓reduceIte, rz_x01, rz_x10, a0], by simp only [rz_fv_pf, rz_av_pf, rz_qv_pf, rz_ln_pf, rz_co_pf, rz_fv_pa, rz_av_pa, rz_qv_pa, rz_ln_pa, rz_co_pa, rz_fv_pq, rz_av_pq, rz_qv_pq, rz_ln_pq, rz_co_pq, Nat.reduceEqDiff, Nat.add_eq_left, Nat.left_eq_add, Nat.one_ne_zero, Option.map_some, exists_const, Option.some.injEq, Prod.mk.injEq, exists_eq_left', exists_eq', exists_and_left, exists_and_right, true_and, and_true, true_or, or_true, and_self, and_assoc, Option.toList_some, Option.toList_none, List.cons_append, List.nil_append, ↓reduceIte, rz_x01, rz_x10, a1], by simp only [rz_fv_pf, rz_av_pf, rz_qv_pf, rz_ln_pf, rz_co_pf, rz_fv_pa, rz_av_pa, rz_qv_pa, rz_ln_pa, rz_co_pa, rz_fv_pq, rz_av_pq, rz_qv_pq, rz_ln_pq, rz_co_pq, Nat.reduceEqDiff, Nat.add_eq_left, Nat.left_eq_add, Nat.one_ne_zero, Option.map_some, exists_const, Option.some.injEq, Prod.mk.injEq, exists_eq_left', exists_eq', exists_and_left, exists_and_right, true_and, and_true, true_or, or_true, and_self, and_assoc, Option.toList_some, Option.toList_none, List.cons_append, List.nil_append, ↓reduceIte, rz_x01, rz_x10, a2], hf⟩
theorem rz_oi_n : rz_oi none = -1 := rfl
theorem rz_oi_s (w : Nat) : rz_oi (some w) = nI w := rfl
/-- a digit behind a number -/
def rz_wg (v : Option Nat) (c : Int32) : Option Nat := if c < 48 ∨ 57 < c ∨ v = some 0 then none else some (10 * v.getD 0 + (c - 48).toNatClampNeg)
theorem rz_dig {c : Int32} (h1 : ¬ c < 48) (h2 : ¬ 57 < c) : ∃ k : Nat, k < 10 ∧ c - 48 = nI k ∧ c = nI (k + 48) := by
  obtain ⟨j, hj, rfl⟩ := nI_of (x := c) (fun q => h1 (Int32.lt_of_lt_of_le q (by decide)))
  have g1 : ¬ j < 48 := fun q => h1 (nI_lt (b := 48) q (by decide))
  have g2 : ¬ 57 < j := fun q => h2 (nI_lt (a := 57) q hj)
  refine ⟨j - 48, by omega, ?_, by rw [show j - 48 + 48 = j by omega]⟩
  rw [show (48 : Int32) = nI 48 from rfl, pk_sub (by omega)]
set_option maxHeartbeats 4000000 in
set_option maxRecDepth 100000 in
theorem c_O_withDigit {d : Nat} {v : Option Nat} {c : Int32} {hp : rz_Hp} (hb : ∀ n, v = some n → n ≤ 65535) {R : Option Value → rz_Hp → Prop} : rz_ev d 24 0 [some (.int (rz_oi v)), some (.int c), none] [] hp R ↔ R (some (.int (rz_oi (rz_wg v c)))) hp := by
  unfold rz_wg
  by_cases h1 : c < 48
  · simp only [↓ri_24_0, ↓ri_24_1, ↓ri_24_3, ↓ri_24_6, ↓ri_24_7, ↓ri_24_9, ↓ri_24_12, ↓ri_24_13, ↓ri_24_16, ↓ri_24_17, ↓ri_24_18, ↓ri_24_19, ↓ri_24_21, ↓ri_24_22, ↓ri_24_23, ↓ri_24_24, ↓ri_24_25, ↓ri_24_28, ↓ri_24_29, ↓ri_24_32, ↓ri_24_33, ↓ri_24_35, ↓ri_24_36, ↓ri_24_37, ↓ri_24_38, Option.some.injEq, Prod.mk.injEq, exists_eq_left', exists_eq', exists_and_left, exists_and_right, true_and, and_true, true_or, or_true, and_self, and_assoc, Option.toList_some, Option.toList_none, List.cons_append, List.nil_append, ↓reduceIte, rz_x01, rz_x10, ↓if_pos h1, h1, rz_oi]
  · by_cases h2 : 57 < c
    · simp only [↓ri_24_0, ↓ri_24_1, ↓ri_24_3, ↓ri_24_6, ↓ri_24_7, ↓ri_24_9, ↓ri_24_12, ↓ri_24_13, ↓ri_24_16, ↓ri_24_17, ↓ri_24_18, ↓ri_24_19, ↓ri_24_21, ↓ri_24_22, ↓ri_24_23, ↓ri_24_24, ↓ri_24_25, ↓ri_24_28, ↓ri_24_29, ↓ri_24_32, ↓ri_24_33, ↓ri_24_35, ↓ri_24_36, ↓ri_24_37, ↓ri_24_38, Option.some.injEq, Prod.mk.injEq, exists_eq_left', exists_eq', exists_and_left, exists_and_right, true_and, and_true, true_or, or_true, and_self, and_assoc, Option.toList_some, Option.toList_none, List.cons_append, List.nil_append, ↓reduceIte, rz_x01, rz_x10, ↓if_neg h1, ↓if_neg (Int32.not_le.mpr h2), h1, h2, rz_oi, false_or]
    · obtain ⟨k, hk, e1, e2⟩ := rz_dig h1 h2
      cases v with
      | none =>
        have c3 : ¬ (-1 : Int32) = 0 := by decide
        simp only [↓ri_24_0, ↓ri_24_1, ↓ri_24_3, ↓ri_24_6, ↓ri_24_7, ↓ri_24_9, ↓ri_24_12, ↓ri_24_13, ↓ri_24_16, ↓ri_24_17, ↓ri_24_18, ↓ri_24_19, ↓ri_24_21, ↓ri_24_22, ↓ri_24_23, ↓ri_24_24, ↓ri_24_25, ↓ri_24_28, ↓ri_24_29, ↓ri_24_32, ↓ri_24_33, ↓ri_24_35, ↓ri_24_36, ↓ri_24_37, ↓ri_24_38, Option.some.injEq, Prod.mk.injEq, exists_eq_left', exists_eq', exists_and_left, exists_and_right, true_and, and_true, true_or, or_true, and_self, and_assoc, Option.toList_some, Option.toList_none, List.cons_append, List.nil_append, ↓reduceIte, rz_x01, rz_x10, ↓if_neg h1, ↓if_pos (Int32.not_lt.mp h2), h1, h2, rz_oi, false_or, ↓if_neg c3, reduceCtorEq, e1, Option.getD_none, Nat.mul_zero, Nat.zero_add, nI_clamp (show k < 2 ^ 31 by omega)]
      | some n =>
        have hn := hb n rfl
        by_cases h0 : n = 0
        · subst h0
          simp only [↓ri_24_0, ↓ri_24_1, ↓ri_24_3, ↓ri_24_6, ↓ri_24_7, ↓ri_24_9, ↓ri_24_12, ↓ri_24_13, ↓ri_24_16, ↓ri_24_17, ↓ri_24_18, ↓ri_24_19, ↓ri_24_21, ↓ri_24_22, ↓ri_24_23, ↓ri_24_24, ↓ri_24_25, ↓ri_24_28, ↓ri_24_29, ↓ri_24_32, ↓ri_24_33, ↓ri_24_35, ↓ri_24_36, ↓ri_24_37, ↓ri_24_38, Option.some.injEq, Prod.mk.injEq, exists_eq_left', exists_eq', exists_and_left, exists_and_right, true_and, and_true, true_or, or_true, and_self, and_assoc, Option.toList_some, Option.toList_none, List.cons_append, List.nil_append, ↓reduceIte, rz_x01, rz_x10, ↓if_neg h1, ↓if_pos (Int32.not_lt.mp h2), h1, h2, rz_oi, false_or, nI_0]
        · have c3 : ¬ nI n = 0 := nI_ne0 (by omega) (by omega)
          have c4 : ¬ nI n = -1 := fun q => nI_pos (show n < 2 ^ 31 by omega) (by rw [q]; decide)
          have e3 : nI n * 10 + nI k = nI (10 * n + k) := by rw [show (10 : Int32) = nI 10 from rfl, pk_mul, nI_add, Nat.mul_comm]
          simp only [↓ri_24_0, ↓ri_24_1, ↓ri_24_3, ↓ri_24_6, ↓ri_24_7, ↓ri_24_9, ↓ri_24_12, ↓ri_24_13, ↓ri_24_16, ↓ri_24_17, ↓ri_24_18, ↓ri_24_19, ↓ri_24_21, ↓ri_24_22, ↓ri_24_23, ↓ri_24_24, ↓ri_24_25, ↓ri_24_28, ↓ri_24_29, ↓ri_24_32, ↓ri_24_33, ↓ri_24_35, ↓ri_24_36, ↓ri_24_37, ↓ri_24_38, Option.some.injEq, Prod.mk.injEq, exists_eq_left', exists_eq', exists_and_left, exists_and_right, true_and, and_true, true_or, or_true, and_self, and_assoc, Option.toList_some, Option.toList_none, List.cons_append, List.nil_append, ↓reduceIte, rz_x01, rz_x10, ↓if_neg h1, ↓if_pos (Int32.not_lt.mp h2), h1, h2, h0, rz_oi, false_or, ↓if_neg c3, ↓if_neg c4, e1, Option.getD_some, nI_clamp (show k < 2 ^ 31 by omega), e3]
/-- digits are taken as long as they are allowed: the number, and the place behind it -/
def rz_rn (tx : List Int32) (most : Nat) : Nat → Option Nat → Nat → Option Nat × Nat
  | 0, v, i => (v, i)
  | n + 1, v, i => match rz_wg v (rz_sg tx i) with
    | none => (v, i)
    | some w => if most < w then (v, i) else rz_rn tx most n (some w) (i + 1)
theorem rz_wg_le {tx : List Int32} {v : Option Nat} {i w : Nat} (h : rz_wg v (rz_sg tx i) = some w) : i < tx.length := by
  by_cases hi : i < tx.length
  · exact hi
  · unfold rz_sg rz_wg at h
    rw [List.getD_eq_getElem?_getD, List.getElem?_eq_none (by omega), Option.getD_none, if_pos (Or.inl (by decide))] at h
    cases h
theorem rz_rn_le (tx : List Int32) (most n : Nat) (v : Option Nat) (i : Nat) (hi : i ≤ tx.length) : (rz_rn tx most n v i).2 ≤ tx.length := by
  induction n generalizing v i with
  | zero => exact hi
  | succ n ih =>
    unfold rz_rn
    split
    · exact hi
    · next w hw =>
      split
      · exact hi
      · exact ih _ _ (rz_wg_le hw)
theorem rz_rn_most (tx : List Int32) (most n : Nat) (v : Option Nat) (i : Nat) (hv : ∀ x, v = some x → x ≤ most) : ∀ x, (rz_rn tx most n v i).1 = some x → x ≤ most := by
  induction n generalizing v i with
  | zero => exact hv
  | succ n ih =>
    unfold rz_rn
    split
    · exact hv
    · next w hw =>
      split
      · exact hv
      · exact ih _ _ (fun x hx => by cases hx; omega)
set_option maxHeartbeats 4000000 in
set_option maxRecDepth 100000 in
theorem c_O_readNumber_loop {d q t most : Nat} {tx : List Int32} {os : List rz_Or} {R : Option Value → rz_Hp → Prop} {hp : rz_Hp} (hm : most ≤ 65535) (hqt : t + 2 ≤ q ∨ q + 4 ≤ t) : ∀ n, n ≤ 60 → ∀ (v : Option Nat) (i : Nat) (hp1 : rz_Hp) (l5 : Option Value), i ≤ tx.length → (∀ x, v = some x → x ≤ most) → rz_TX t tx hp1 → rz_OR q os (nI i) hp1 → rz_sm q (q + 4) hp hp1 → (∀ hp', rz_OR q os (nI (rz_rn tx most n v i).2) hp' → rz_sm q (q + 4) hp hp' → R (some (.int (rz_oi (rz_rn tx most n v i).1))) hp') → rz_ev (d + 1) 23 5 [some (.ref q), some (.ref t), some (.int (nI most)), some (.int (rz_oi v)), some (.int (nI (60 - n))), l5] [] hp1 R := by
  intro n
  induction n with
  | zero =>
    intro _ v i hp1 l5 hi hv hT hO hs kk
    have c1 : (60 : Int32) ≤ nI (60 - 0) := by decide
    rw [ri_23_5]
    simp only [↓ri_23_7, ↓ri_23_9, ↓ri_23_12, ↓ri_23_13, ↓ri_23_14, ↓ri_23_15, ↓ri_23_18, ↓ri_23_21, ↓ri_23_24, ↓ri_23_26, ↓ri_23_28, ↓ri_23_29, ↓ri_23_32, ↓ri_23_34, ↓ri_23_35, ↓ri_23_38, ↓ri_23_41, ↓ri_23_43, ↓ri_23_44, ↓ri_23_45, ↓ri_23_46, ↓ri_23_49, ↓ri_23_50, ↓ri_23_51, ↓ri_23_54, ↓ri_23_57, ↓ri_23_60, ↓ri_23_61, Option.some.injEq, Prod.mk.injEq, exists_eq_left', exists_eq', exists_and_left, exists_and_right, true_and, and_true, true_or, or_true, and_self, and_assoc, Option.toList_some, Option.toList_none, List.cons_append, List.nil_append, ↓reduceIte, rz_x01, rz_x10, ↓if_pos c1]
    exact kk _ hO hs
  | succ n ih =>
    intro hn v i hp1 l5 hi hv hT hO hs kk
    have hl := hT.1
    have c1 : ¬ (60 : Int32) ≤ nI (60 - (n + 1)) := nI_ge (b := 60) (by omega) (by decide)
    have hh := fun R => c_X_signAt (d := d) hT (i := i) (by omega) (R := R)
    have hw := fun R => c_O_withDigit (d := d) (v := v) (c := rz_sg tx i) (hp := hp1) (fun n h => by have := hv n h; omega) (R := R)
    have hco : rz_co hp1 t = some 7 := rz_co_fv hT.2.1
    obtain ⟨hL, p0, p1, p2, p3, p4, f0, f1, f2, a0, a1, a2, hf⟩ := id hO
    unfold rz_rn at kk
    rw [ri_23_5]
    cases hx : rz_wg v (rz_sg tx i) with
    | none =>
      simp only [hx] at kk hw
      simp only [↓ri_23_7, ↓ri_23_9, ↓ri_23_12, ↓ri_23_13, ↓ri_23_14, ↓ri_23_15, ↓ri_23_18, ↓ri_23_21, ↓ri_23_24, ↓ri_23_26, ↓ri_23_28, ↓ri_23_29, ↓ri_23_32, ↓ri_23_34, ↓ri_23_35, ↓ri_23_38, ↓ri_23_41, ↓ri_23_43, ↓ri_23_44, ↓ri_23_45, ↓ri_23_46, ↓ri_23_49, ↓ri_23_50, ↓ri_23_51, ↓ri_23_54, ↓ri_23_57, ↓ri_23_60, ↓ri_23_61, Option.some.injEq, Prod.mk.injEq, exists_eq_left', exists_eq', exists_and_left, exists_and_right, true_and, and_true, true_or, or_true, and_self, and_assoc, Option.toList_some, Option.toList_none, List.cons_append, List.nil_append, ↓reduceIte, rz_x01, rz_x10, ↓if_neg c1, p4, hco, hh, hw, rz_oi_n, rz_oi_s]
      exact kk _ hO hs
    | some w =>
      simp only [hx] at kk hw
      have hwi := rz_wg_le hx
      have hwb : w < 2 ^ 30 := by
        unfold rz_wg at hx
        split at hx
        · cases hx
        · next hc =>
          obtain ⟨k, hk, e1, -⟩ := rz_dig (fun q => hc (Or.inl q)) (fun q => hc (Or.inr (Or.inl q)))
          cases hx
          rw [e1, nI_clamp (by omega)]
          cases v with
          | none => simp only [Option.getD_none]; omega
          | some x => have := hv x rfl; simp only [Option.getD_some]; omega
      have c2 : ¬ nI w = -1 := fun q => nI_pos (show w < 2 ^ 31 by omega) (by rw [q]; decide)
      by_cases h1 : most < w
      · simp only [if_pos h1] at kk
        have c3 : ¬ nI w ≤ nI most := nI_ge h1 (by omega)
        simp only [↓ri_23_7, ↓ri_23_9, ↓ri_23_12, ↓ri_23_13, ↓ri_23_14, ↓ri_23_15, ↓ri_23_18, ↓ri_23_21, ↓ri_23_24, ↓ri_23_26, ↓ri_23_28, ↓ri_23_29, ↓ri_23_32, ↓ri_23_34, ↓ri_23_35, ↓ri_23_38, ↓ri_23_41, ↓ri_23_43, ↓ri_23_44, ↓ri_23_45, ↓ri_23_46, ↓ri_23_49, ↓ri_23_50, ↓ri_23_51, ↓ri_23_54, ↓ri_23_57, ↓ri_23_60, ↓ri_23_61, Option.some.injEq, Prod.mk.injEq, exists_eq_left', exists_eq', exists_and_left, exists_and_right, true_and, and_true, true_or, or_true, and_self, and_assoc, Option.toList_some, Option.toList_none, List.cons_append, List.nil_append, ↓reduceIte, rz_x01, rz_x10, ↓if_neg c1, p4, hco, hh, hw, rz_oi_n, rz_oi_s, ↓if_neg c2, ↓if_neg c3]
        exact kk _ hO hs
      · simp only [if_neg h1] at kk
        have c3 : nI w ≤ nI most := nI_le (by omega) (by omega)
        simp only [↓ri_23_7, ↓ri_23_9, ↓ri_23_12, ↓ri_23_13, ↓ri_23_14, ↓ri_23_15, ↓ri_23_18, ↓ri_23_21, ↓ri_23_24, ↓ri_23_26, ↓ri_23_28, ↓ri_23_29, ↓ri_23_32, ↓ri_23_34, ↓ri_23_35, ↓ri_23_38, ↓ri_23_41, ↓ri_23_43, ↓ri_23_44, ↓ri_23_45, ↓ri_23_46, ↓ri_23_49, ↓ri_23_50, ↓ri_23_51, ↓ri_23_54, ↓ri_23_57, Option.some.injEq, Prod.mk.injEq, exists_eq_left', exists_eq', exists_and_left, exists_and_right, true_and, and_true, true_or, or_true, and_self, and_assoc, Option.toList_some, Option.toList_none, List.cons_append, List.nil_append, ↓reduceIte, rz_x01, rz_x10, ↓if_neg c1, p4, hco, hh, hw, rz_oi_n, rz_oi_s, ↓if_neg c2, ↓if_pos c3, nI_1]
        have e1 : 60 - (n + 1) + 1 = 60 - n := by omega
        rw [e1]
        have hs2 : rz_sm q (q + 4) hp1 (rz_pf hp1 q 4 (.int (nI (i + 1)))) := rz_sm_pf (by omega) (by omega)
        exact ih (by omega) (some w) (i + 1) _ _ hwi (fun x hx => by cases hx; omega) (rz_TX_sm hT hs2 (by omega)) (rz_OR_pl hO) (hs.tr hs2) kk
set_option maxHeartbeats 4000000 in
set_option maxRecDepth 100000 in
theorem c_O_readNumber {d q t i most : Nat} {tx : List Int32} {os : List rz_Or} {hp : rz_Hp} (hm : most ≤ 65535) (hqt : t + 2 ≤ q ∨ q + 4 ≤ t) (hi : i ≤ tx.length) (hT : rz_TX t tx hp) (hO : rz_OR q os (nI i) hp) {R : Option Value → rz_Hp → Prop} (kk : ∀ hp', rz_OR q os (nI (rz_rn tx most 60 none i).2) hp' → rz_sm q (q + 4) hp hp' → R (some (.int (rz_oi (rz_rn tx most 60 none i).1))) hp') : rz_ev (d + 1) 23 0 [some (.ref q), some (.ref t), some (.int (nI most)), none, none, none] [] hp R := by
  have := c_O_readNumber_loop (d := d) (R := R) (hp := hp) hm hqt 60 (Nat.le_refl _) none i hp none hi (fun x hx => by cases hx) hT hO rz_sm.rf kk
  rw [nI_0] at this
  simp only [↓ri_23_0, ↓ri_23_1, ↓ri_23_2, ↓ri_23_3]
  exact this
/-- one order is read: the order, if it is one, and the place then -/
def rz_rA (tx : List Int32) (i : Nat) : Option rz_Or × Nat := match rz_rn tx 65535 60 none i with
  | (none, j) => (none, j)
  | (some k, j) => if rz_sg tx j = 58 then (match rz_rn tx 999 60 none (j + 1) with
    | (none, m) => (none, m)
    | (some v, m) => (some (43, nI k, nI v), m)) else (some (43, nI k, 0), j)
def rz_rX (tx : List Int32) (i : Nat) : Option rz_Or × Nat := match rz_rn tx 999 60 none i with
  | (none, j) => (none, j)
  | (some k, j) => (some (120, nI k, 0), j)
def rz_rL (tx : List Int32) (i : Nat) : Option rz_Or × Nat := match rz_rn tx 999 60 none i with
  | (none, j) => (none, j)
  | (some k, j) => if rz_sg tx j = 61 then (match rz_rn tx 65535 60 none (j + 1) with
    | (none, m) => (none, m)
    | (some v, m) => (some (60, nI k, nI v), m)) else (none, j)
def rz_ro (tx : List Int32) (i : Nat) : Option rz_Or × Nat := if rz_sg tx i = 43 then rz_rA tx (i + 1) else if rz_sg tx i = 45 then (some (45, 0, 0), i + 1) else if rz_sg tx i = 60 then rz_rL tx (i + 1) else if rz_sg tx i = 120 then rz_rX tx (i + 1) else (none, i)
theorem rz_sg_in {tx : List Int32} {i : Nat} (h : ¬ rz_sg tx i = -1) : i < tx.length := by
  by_cases hi : i < tx.length
  · exact hi
  · refine absurd ?_ h
    unfold rz_sg
    rw [List.getD_eq_getElem?_getD, List.getElem?_eq_none (by omega)]; rfl
theorem rz_ro_le {tx : List Int32} {i : Nat} (hi : i ≤ tx.length) : (rz_ro tx i).2 ≤ tx.length := by
  have key : ∀ c : Int32, ¬ c = -1 → rz_sg tx i = c → i + 1 ≤ tx.length := fun c hc h => rz_sg_in (by rw [h]; exact hc)
  have key2 : ∀ (c : Int32) (j : Nat), ¬ c = -1 → rz_sg tx j = c → j + 1 ≤ tx.length := fun c j hc h => rz_sg_in (by rw [h]; exact hc)
  unfold rz_ro
  split
  · next h =>
    have h1 := rz_rn_le tx 65535 60 none (i + 1) (key _ (by decide) h)
    unfold rz_rA
    split
    · next j e => rw [e] at h1; exact h1
    · next k j e =>
      rw [e] at h1
      split
      · next h2 =>
        have h3 := rz_rn_le tx 999 60 none (j + 1) (key2 _ j (by decide) h2)
        split
        · next m e2 => rw [e2] at h3; exact h3
        · next v m e2 => rw [e2] at h3; exact h3
      · exact h1
  · split
    · next h => exact key _ (by decide) h
    · split
      · next h =>
        have h1 := rz_rn_le tx 999 60 none (i + 1) (key _ (by decide) h)
        unfold rz_rL
        split
        · next j e => rw [e] at h1; exact h1
        · next k j e =>
          rw [e] at h1
          split
          · next h2 =>
            have h3 := rz_rn_le tx 65535 60 none (j + 1) (key2 _ j (by decide) h2)
            split
            · next m e2 => rw [e2] at h3; exact h3
            · next v m e2 => rw [e2] at h3; exact h3
          · exact h1
      · split
        · next h =>
          have h1 := rz_rn_le tx 999 60 none (i + 1) (key _ (by decide) h)
          unfold rz_rX
          split
          · next j e => rw [e] at h1; exact h1
          · next k j e => rw [e] at h1; exact h1
        · exact hi
def rz_os (os : List rz_Or) : Option rz_Or → List rz_Or
  | none => os
  | some o => os ++ [o]
def rz_ob01 : Option rz_Or → Int32
  | none => 0
  | some _ => 1
set_option maxHeartbeats 4000000 in
set_option maxRecDepth 100000 in
theorem c_O_readComeOut {d q t i : Nat} {tx : List Int32} {os : List rz_Or} {hp : rz_Hp} (hl : os.length < 30) (hO : rz_OR q os (nI i) hp) {R : Option Value → rz_Hp → Prop} (kk : ∀ hp', rz_OR q (os ++ [(45, 0, 0)]) (nI (i + 1)) hp' → rz_sm q (q + 4) hp hp' → R (some (.int 1)) hp') : rz_ev (d + 1) 20 0 [some (.ref q)] [] hp R := by
  obtain ⟨hL, p0, p1, p2, p3, p4, -⟩ := id hO
  simp only [↓ri_20_0, ↓ri_20_1, ↓ri_20_2, ↓ri_20_5, ↓ri_20_6, ↓ri_20_7, ↓ri_20_10, ↓ri_20_11, ↓ri_20_13, ↓ri_20_14, ↓ri_20_15, ↓ri_20_18, Option.some.injEq, Prod.mk.injEq, exists_eq_left', exists_eq', exists_and_left, exists_and_right, true_and, and_true, true_or, or_true, and_self, and_assoc, Option.toList_some, Option.toList_none, List.cons_append, List.nil_append, ↓reduceIte, rz_x01, rz_x10, rz_fv_pf, rz_av_pf, rz_qv_pf, rz_ln_pf, rz_co_pf, rz_fv_pa, rz_av_pa, rz_qv_pa, rz_ln_pa, rz_co_pa, rz_fv_pq, rz_av_pq, rz_qv_pq, rz_ln_pq, rz_co_pq, Nat.reduceEqDiff, Nat.add_eq_left, Nat.left_eq_add, Nat.one_ne_zero, Option.map_some, exists_const, p4, nI_1, rz_co_fv p0]
  refine c_O_put (d := d) (rz_OR_pl hO) hl (by decide) (fun h1 hO1 hs1 => ?_)
  simp only [↓ri_20_0, ↓ri_20_1, ↓ri_20_2, ↓ri_20_5, ↓ri_20_6, ↓ri_20_7, ↓ri_20_10, ↓ri_20_11, ↓ri_20_13, ↓ri_20_14, ↓ri_20_15, ↓ri_20_18, Option.some.injEq, Prod.mk.injEq, exists_eq_left', exists_eq', exists_and_left, exists_and_right, true_and, and_true, true_or, or_true, and_self, and_assoc, Option.toList_some, Option.toList_none, List.cons_append, List.nil_append, ↓reduceIte, rz_x01, rz_x10]
  exact kk _ hO1 ((rz_sm_pf (by omega) (by omega)).tr hs1)
set_option maxHeartbeats 4000000 in
set_option maxRecDepth 100000 in
theorem c_O_readTakeBack {d q t i : Nat} {tx : List Int32} {os : List rz_Or} {hp : rz_Hp} (hl : os.length < 30) (hqt : t + 2 ≤ q ∨ q + 4 ≤ t) (hi : i < tx.length) (hT : rz_TX t tx hp) (hO : rz_OR q os (nI i) hp) {R : Option Value → rz_Hp → Prop} (kk : ∀ hp', rz_OR q (rz_os os (rz_rX tx (i + 1)).1) (nI (rz_rX tx (i + 1)).2) hp' → rz_sm q (q + 4) hp hp' → R (some (.int (rz_ob01 (rz_rX tx (i + 1)).1))) hp') : rz_ev (d + 2) 21 0 [some (.ref q), some (.ref t), none] [] hp R := by
  obtain ⟨hL, p0, p1, p2, p3, p4, -⟩ := id hO
  have hs0 : rz_sm q (q + 4) hp (rz_pf hp q 4 (.int (nI (i + 1)))) := rz_sm_pf (by omega) (by omega)
  simp only [↓ri_21_0, ↓ri_21_1, ↓ri_21_2, ↓ri_21_5, ↓ri_21_6, ↓ri_21_7, ↓ri_21_10, ↓ri_21_11, ↓ri_21_12, ↓ri_21_15, ↓ri_21_18, ↓ri_21_19, ↓ri_21_20, ↓ri_21_21, ↓ri_21_24, ↓ri_21_25, ↓ri_21_27, ↓ri_21_28, ↓ri_21_29, ↓ri_21_32, ↓ri_21_35, ↓ri_21_36, ↓ri_21_39, ↓ri_21_40, Option.some.injEq, Prod.mk.injEq, exists_eq_left', exists_eq', exists_and_left, exists_and_right, true_and, and_true, true_or, or_true, and_self, and_assoc, Option.toList_some, Option.toList_none, List.cons_append, List.nil_append, ↓reduceIte, rz_x01, rz_x10, rz_fv_pf, rz_av_pf, rz_qv_pf, rz_ln_pf, rz_co_pf, rz_fv_pa, rz_av_pa, rz_qv_pa, rz_ln_pa, rz_co_pa, rz_fv_pq, rz_av_pq, rz_qv_pq, rz_ln_pq, rz_co_pq, Nat.reduceEqDiff, Nat.add_eq_left, Nat.left_eq_add, Nat.one_ne_zero, Option.map_some, exists_const, p4, nI_1, rz_co_fv p0]
  refine c_O_readNumber (d := d) (most := 999) (by decide) hqt hi (rz_TX_sm hT hs0 (by omega)) (rz_OR_pl hO) (fun h1 hO1 hs1 => ?_)
  have hco : rz_co h1 q = some 2 := rz_co_fv hO1.2.1
  have hbd := rz_rn_most tx 999 60 none (i + 1) (fun x hx => by cases hx)
  unfold rz_rX at kk
  cases hx : rz_rn tx 999 60 none (i + 1) with
  | mk v j =>
    cases v with
    | none =>
      simp only [hx, rz_os, rz_ob01] at kk hO1
      simp only [↓ri_21_0, ↓ri_21_1, ↓ri_21_2, ↓ri_21_5, ↓ri_21_6, ↓ri_21_7, ↓ri_21_10, ↓ri_21_11, ↓ri_21_12, ↓ri_21_15, ↓ri_21_18, ↓ri_21_19, ↓ri_21_20, ↓ri_21_21, ↓ri_21_24, ↓ri_21_25, ↓ri_21_27, ↓ri_21_28, ↓ri_21_29, ↓ri_21_32, ↓ri_21_35, ↓ri_21_36, ↓ri_21_39, ↓ri_21_40, Option.some.injEq, Prod.mk.injEq, exists_eq_left', exists_eq', exists_and_left, exists_and_right, true_and, and_true, true_or, or_true, and_self, and_assoc, Option.toList_some, Option.toList_none, List.cons_append, List.nil_append, ↓reduceIte, rz_x01, rz_x10, rz_oi]
      exact kk _ hO1 (hs0.tr hs1)
    | some k =>
      have hk : k ≤ 999 := hbd k (by rw [hx])
      simp only [hx, rz_os, rz_ob01] at kk hO1
      have c2 : ¬ nI k = -1 := fun q => nI_pos (show k < 2 ^ 31 by omega) (by rw [q]; decide)
      simp only [↓ri_21_0, ↓ri_21_1, ↓ri_21_2, ↓ri_21_5, ↓ri_21_6, ↓ri_21_7, ↓ri_21_10, ↓ri_21_11, ↓ri_21_12, ↓ri_21_15, ↓ri_21_18, ↓ri_21_19, ↓ri_21_20, ↓ri_21_21, ↓ri_21_24, ↓ri_21_25, ↓ri_21_27, ↓ri_21_28, ↓ri_21_29, ↓ri_21_32, ↓ri_21_35, ↓ri_21_36, ↓ri_21_39, ↓ri_21_40, Option.some.injEq, Prod.mk.injEq, exists_eq_left', exists_eq', exists_and_left, exists_and_right, true_and, and_true, true_or, or_true, and_self, and_assoc, Option.toList_some, Option.toList_none, List.cons_append, List.nil_append, ↓reduceIte, rz_x01, rz_x10, rz_oi, ↓if_neg c2, hco]
      refine c_O_put (d := d + 1) hO1 hl (by decide) (fun h2 hO2 hs2 => ?_)
      simp only [↓ri_21_0, ↓ri_21_1, ↓ri_21_2, ↓ri_21_5, ↓ri_21_6, ↓ri_21_7, ↓ri_21_10, ↓ri_21_11, ↓ri_21_12, ↓ri_21_15, ↓ri_21_18, ↓ri_21_19, ↓ri_21_20, ↓ri_21_21, ↓ri_21_24, ↓ri_21_25, ↓ri_21_27, ↓ri_21_28, ↓ri_21_29, ↓ri_21_32, ↓ri_21_35, ↓ri_21_36, ↓ri_21_39, ↓ri_21_40, Option.some.injEq, Prod.mk.injEq, exists_eq_left', exists_eq', exists_and_left, exists_and_right, true_and, and_true, true_or, or_true, and_self, and_assoc, Option.toList_some, Option.toList_none, List.cons_append, List.nil_append, ↓reduceIte, rz_x01, rz_x10]
      exact kk _ hO2 ((hs0.tr hs1).tr hs2)
