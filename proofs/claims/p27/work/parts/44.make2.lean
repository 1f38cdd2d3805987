/-! the constructors go on -/
section RZML
variable {d b : Nat} {hp : rz_Hp} {R : Option Value → rz_Hp → Prop}
set_option maxHeartbeats 4000000 in
set_option maxRecDepth 100000 in
theorem c_X_init (h : rz_nw b 7 hp) (kk : ∀ hp', rz_TX b [] hp' → hp'.2 = (b + 2, hp.2.2 + 60) → rz_ex b hp hp' → R none hp') : rz_ev (d + 1) 82 0 [some (.ref b)] [] hp R := by
  have g := fun j => h.fv (j := j)
  have g0 : rz_fv hp b 7 0 = some .null := g 0
  have g1 : rz_fv hp b 7 1 = some (.int 0) := g 1
  have n40 : ¬ (60 : Int32) < 0 := by decide
  have t40 : (60 : Int32).toNatClampNeg = 60 := rfl
  have l40 : 60 ≤ 4096 := by decide
  simp only [↓ri_82_0, ↓ri_82_1, ↓ri_82_4, ↓ri_82_5, ↓ri_82_7, ↓ri_82_9, ↓ri_82_12, Option.some.injEq, Prod.mk.injEq, exists_eq_left', exists_eq', exists_and_left, exists_and_right, true_and, and_true, true_or, or_true, and_self, and_assoc, Option.toList_some, Option.toList_none, List.cons_append, List.nil_append, ↓reduceIte, rz_x01, rz_x10, rz_fv_pf, rz_av_pf, rz_qv_pf, rz_ln_pf, rz_co_pf, rz_fv_pa, rz_av_pa, rz_qv_pa, rz_ln_pa, rz_co_pa, rz_fv_pq, rz_av_pq, rz_qv_pq, rz_ln_pq, rz_co_pq, Nat.reduceEqDiff, Nat.add_eq_left, Nat.left_eq_add, Nat.one_ne_zero, Option.map_some, exists_const, rz_fv_push, rz_av_push, rz_qv_push, rz_n_push, rz_n_pf, rz_n_pa, rz_n_pq, Nat.add_assoc, Nat.reduceAdd, Nat.reduceEqDiff, rz_p2, rz_p3, rz_p4, rz_p5, rz_p6, rz_p7, rz_p8, exists_eq', h.1, n40, t40, l40, not_false_eq_true, g0]
  refine kk _ ⟨by decide, ?_, ?_, fun _ => 0, ?_, fun i e he => by simp at he⟩ ?_ ?_
  · simp only [rz_fv_pf, rz_av_pf, rz_qv_pf, rz_ln_pf, rz_co_pf, rz_fv_pa, rz_av_pa, rz_qv_pa, rz_ln_pa, rz_co_pa, rz_fv_pq, rz_av_pq, rz_qv_pq, rz_ln_pq, rz_co_pq, Nat.reduceEqDiff, Nat.add_eq_left, Nat.left_eq_add, Nat.one_ne_zero, Option.map_some, exists_const, Option.some.injEq, Prod.mk.injEq, exists_eq_left', exists_eq', exists_and_left, exists_and_right, true_and, and_true, true_or, or_true, and_self, and_assoc, Option.toList_some, Option.toList_none, List.cons_append, List.nil_append, ↓reduceIte, rz_x01, rz_x10, rz_fv_push, rz_av_push, rz_qv_push, rz_n_push, rz_n_pf, rz_n_pa, rz_n_pq, Nat.add_assoc, Nat.reduceAdd, Nat.reduceEqDiff, rz_p2, rz_p3, rz_p4, rz_p5, rz_p6, rz_p7, rz_p8, exists_eq', h.1, g0]
  · simp only [rz_fv_pf, rz_av_pf, rz_qv_pf, rz_ln_pf, rz_co_pf, rz_fv_pa, rz_av_pa, rz_qv_pa, rz_ln_pa, rz_co_pa, rz_fv_pq, rz_av_pq, rz_qv_pq, rz_ln_pq, rz_co_pq, Nat.reduceEqDiff, Nat.add_eq_left, Nat.left_eq_add, Nat.one_ne_zero, Option.map_some, exists_const, Option.some.injEq, Prod.mk.injEq, exists_eq_left', exists_eq', exists_and_left, exists_and_right, true_and, and_true, true_or, or_true, and_self, and_assoc, Option.toList_some, Option.toList_none, List.cons_append, List.nil_append, ↓reduceIte, rz_x01, rz_x10, rz_fv_push, rz_av_push, rz_qv_push, rz_n_push, rz_n_pf, rz_n_pa, rz_n_pq, Nat.add_assoc, Nat.reduceAdd, Nat.reduceEqDiff, rz_p2, rz_p3, rz_p4, rz_p5, rz_p6, rz_p7, rz_p8, exists_eq', h.1, g1, List.length_nil, nI_0]
  · simp only [rz_fv_pf, rz_av_pf, rz_qv_pf, rz_ln_pf, rz_co_pf, rz_fv_pa, rz_av_pa, rz_qv_pa, rz_ln_pa, rz_co_pa, rz_fv_pq, rz_av_pq, rz_qv_pq, rz_ln_pq, rz_co_pq, Nat.reduceEqDiff, Nat.add_eq_left, Nat.left_eq_add, Nat.one_ne_zero, Option.map_some, exists_const, Option.some.injEq, Prod.mk.injEq, exists_eq_left', exists_eq', exists_and_left, exists_and_right, true_and, and_true, true_or, or_true, and_self, and_assoc, Option.toList_some, Option.toList_none, List.cons_append, List.nil_append, ↓reduceIte, rz_x01, rz_x10, rz_fv_push, rz_av_push, rz_qv_push, rz_n_push, rz_n_pf, rz_n_pa, rz_n_pq, Nat.add_assoc, Nat.reduceAdd, Nat.reduceEqDiff, rz_p2, rz_p3, rz_p4, rz_p5, rz_p6, rz_p7, rz_p8, exists_eq', h.1]
  · refine Prod.ext ?_ ?_
    · simp only [rz_fv_push, rz_av_push, rz_qv_push, rz_n_push, rz_n_pf, rz_n_pa, rz_n_pq, Nat.add_assoc, Nat.reduceAdd, Nat.reduceEqDiff, rz_p2, rz_p3, rz_p4, rz_p5, rz_p6, rz_p7, rz_p8, exists_eq', h.1]
    · simp only [Nat.add_assoc, Nat.reduceAdd, rz_w_push, rz_w_pf]
  · repeat' first | exact rz_ex.rf | refine rz_ex.tr ?_ (rz_ex_pf (Nat.le_refl _)) | refine rz_ex.tr ?_ (rz_ex_push (by simp only [rz_fv_push, rz_av_push, rz_qv_push, rz_n_push, rz_n_pf, rz_n_pa, rz_n_pq, Nat.add_assoc, Nat.reduceAdd, Nat.reduceEqDiff, rz_p2, rz_p3, rz_p4, rz_p5, rz_p6, rz_p7, rz_p8, exists_eq', h.1]; omega))
set_option maxHeartbeats 4000000 in
set_option maxRecDepth 100000 in
theorem c_O_init (h : rz_nw b 2 hp) (kk : ∀ hp', rz_OR b [] 0 hp' → hp'.2 = (b + 4, hp.2.2 + 90) → rz_ex b hp hp' → R none hp') : rz_ev (d + 1) 11 0 [some (.ref b)] [] hp R := by
  have g := fun j => h.fv (j := j)
  have g0 : rz_fv hp b 2 0 = some .null := g 0
  have g1 : rz_fv hp b 2 1 = some .null := g 1
  have g2 : rz_fv hp b 2 2 = some .null := g 2
  have g3 : rz_fv hp b 2 3 = some (.int 0) := g 3
  have g4 : rz_fv hp b 2 4 = some (.int 0) := g 4
  have n40 : ¬ (30 : Int32) < 0 := by decide
  have t40 : (30 : Int32).toNatClampNeg = 30 := rfl
  have l40 : 30 ≤ 4096 := by decide
  simp only [↓ri_11_0, ↓ri_11_1, ↓ri_11_4, ↓ri_11_5, ↓ri_11_7, ↓ri_11_9, ↓ri_11_12, ↓ri_11_13, ↓ri_11_15, ↓ri_11_17, ↓ri_11_20, ↓ri_11_21, ↓ri_11_23, ↓ri_11_25, ↓ri_11_28, Option.some.injEq, Prod.mk.injEq, exists_eq_left', exists_eq', exists_and_left, exists_and_right, true_and, and_true, true_or, or_true, and_self, and_assoc, Option.toList_some, Option.toList_none, List.cons_append, List.nil_append, ↓reduceIte, rz_x01, rz_x10, rz_fv_pf, rz_av_pf, rz_qv_pf, rz_ln_pf, rz_co_pf, rz_fv_pa, rz_av_pa, rz_qv_pa, rz_ln_pa, rz_co_pa, rz_fv_pq, rz_av_pq, rz_qv_pq, rz_ln_pq, rz_co_pq, Nat.reduceEqDiff, Nat.add_eq_left, Nat.left_eq_add, Nat.one_ne_zero, Option.map_some, exists_const, rz_fv_push, rz_av_push, rz_qv_push, rz_n_push, rz_n_pf, rz_n_pa, rz_n_pq, Nat.add_assoc, Nat.reduceAdd, Nat.reduceEqDiff, rz_p2, rz_p3, rz_p4, rz_p5, rz_p6, rz_p7, rz_p8, exists_eq', h.1, n40, t40, l40, not_false_eq_true, g0, g1, g2]
  refine kk _ ⟨by decide, ?_, ?_, ?_, ?_, ?_, fun _ => 0, fun _ => 0, fun _ => 0, ?_, ?_, ?_, fun i e he => by simp at he⟩ ?_ ?_
  · simp only [rz_fv_pf, rz_av_pf, rz_qv_pf, rz_ln_pf, rz_co_pf, rz_fv_pa, rz_av_pa, rz_qv_pa, rz_ln_pa, rz_co_pa, rz_fv_pq, rz_av_pq, rz_qv_pq, rz_ln_pq, rz_co_pq, Nat.reduceEqDiff, Nat.add_eq_left, Nat.left_eq_add, Nat.one_ne_zero, Option.map_some, exists_const, Option.some.injEq, Prod.mk.injEq, exists_eq_left', exists_eq', exists_and_left, exists_and_right, true_and, and_true, true_or, or_true, and_self, and_assoc, Option.toList_some, Option.toList_none, List.cons_append, List.nil_append, ↓reduceIte, rz_x01, rz_x10, rz_fv_push, rz_av_push, rz_qv_push, rz_n_push, rz_n_pf, rz_n_pa, rz_n_pq, Nat.add_assoc, Nat.reduceAdd, Nat.reduceEqDiff, rz_p2, rz_p3, rz_p4, rz_p5, rz_p6, rz_p7, rz_p8, exists_eq', h.1, g0]
  · simp only [rz_fv_pf, rz_av_pf, rz_qv_pf, rz_ln_pf, rz_co_pf, rz_fv_pa, rz_av_pa, rz_qv_pa, rz_ln_pa, rz_co_pa, rz_fv_pq, rz_av_pq, rz_qv_pq, rz_ln_pq, rz_co_pq, Nat.reduceEqDiff, Nat.add_eq_left, Nat.left_eq_add, Nat.one_ne_zero, Option.map_some, exists_const, Option.some.injEq, Prod.mk.injEq, exists_eq_left', exists_eq', exists_and_left, exists_and_right, true_and, and_true, true_or, or_true, and_self, and_assoc, Option.toList_some, Option.toList_none, List.cons_append, List.nil_append, ↓reduceIte, rz_x01, rz_x10, rz_fv_push, rz_av_push, rz_qv_push, rz_n_push, rz_n_pf, rz_n_pa, rz_n_pq, Nat.add_assoc, Nat.reduceAdd, Nat.reduceEqDiff, rz_p2, rz_p3, rz_p4, rz_p5, rz_p6, rz_p7, rz_p8, exists_eq', h.1, g1]
  · simp only [rz_fv_pf, rz_av_pf, rz_qv_pf, rz_ln_pf, rz_co_pf, rz_fv_pa, rz_av_pa, rz_qv_pa, rz_ln_pa, rz_co_pa, rz_fv_pq, rz_av_pq, rz_qv_pq, rz_ln_pq, rz_co_pq, Nat.reduceEqDiff, Nat.add_eq_left, Nat.left_eq_add, Nat.one_ne_zero, Option.map_some, exists_const, Option.some.injEq, Prod.mk.injEq, exists_eq_left', exists_eq', exists_and_left, exists_and_right, true_and, and_true, true_or, or_true, and_self, and_assoc, Option.toList_some, Option.toList_none, List.cons_append, List.nil_append, ↓reduceIte, rz_x01, rz_x10, rz_fv_push, rz_av_push, rz_qv_push, rz_n_push, rz_n_pf, rz_n_pa, rz_n_pq, Nat.add_assoc, Nat.reduceAdd, Nat.reduceEqDiff, rz_p2, rz_p3, rz_p4, rz_p5, rz_p6, rz_p7, rz_p8, exists_eq', h.1, g2]
  · simp only [rz_fv_pf, rz_av_pf, rz_qv_pf, rz_ln_pf, rz_co_pf, rz_fv_pa, rz_av_pa, rz_qv_pa, rz_ln_pa, rz_co_pa, rz_fv_pq, rz_av_pq, rz_qv_pq, rz_ln_pq, rz_co_pq, Nat.reduceEqDiff, Nat.add_eq_left, Nat.left_eq_add, Nat.one_ne_zero, Option.map_some, exists_const, Option.some.injEq, Prod.mk.injEq, exists_eq_left', exists_eq', exists_and_left, exists_and_right, true_and, and_true, true_or, or_true, and_self, and_assoc, Option.toList_some, Option.toList_none, List.cons_append, List.nil_append, ↓reduceIte, rz_x01, rz_x10, rz_fv_push, rz_av_push, rz_qv_push, rz_n_push, rz_n_pf, rz_n_pa, rz_n_pq, Nat.add_assoc, Nat.reduceAdd, Nat.reduceEqDiff, rz_p2, rz_p3, rz_p4, rz_p5, rz_p6, rz_p7, rz_p8, exists_eq', h.1, g3, List.length_nil, nI_0]
  · simp only [rz_fv_pf, rz_av_pf, rz_qv_pf, rz_ln_pf, rz_co_pf, rz_fv_pa, rz_av_pa, rz_qv_pa, rz_ln_pa, rz_co_pa, rz_fv_pq, rz_av_pq, rz_qv_pq, rz_ln_pq, rz_co_pq, Nat.reduceEqDiff, Nat.add_eq_left, Nat.left_eq_add, Nat.one_ne_zero, Option.map_some, exists_const, Option.some.injEq, Prod.mk.injEq, exists_eq_left', exists_eq', exists_and_left, exists_and_right, true_and, and_true, true_or, or_true, and_self, and_assoc, Option.toList_some, Option.toList_none, List.cons_append, List.nil_append, ↓reduceIte, rz_x01, rz_x10, rz_fv_push, rz_av_push, rz_qv_push, rz_n_push, rz_n_pf, rz_n_pa, rz_n_pq, Nat.add_assoc, Nat.reduceAdd, Nat.reduceEqDiff, rz_p2, rz_p3, rz_p4, rz_p5, rz_p6, rz_p7, rz_p8, exists_eq', h.1, g4]
  · simp only [rz_fv_pf, rz_av_pf, rz_qv_pf, rz_ln_pf, rz_co_pf, rz_fv_pa, rz_av_pa, rz_qv_pa, rz_ln_pa, rz_co_pa, rz_fv_pq, rz_av_pq, rz_qv_pq, rz_ln_pq, rz_co_pq, Nat.reduceEqDiff, Nat.add_eq_left, Nat.left_eq_add, Nat.one_ne_zero, Option.map_some, exists_const, Option.some.injEq, Prod.mk.injEq, exists_eq_left', exists_eq', exists_and_left, exists_and_right, true_and, and_true, true_or, or_true, and_self, and_assoc, Option.toList_some, Option.toList_none, List.cons_append, List.nil_append, ↓reduceIte, rz_x01, rz_x10, rz_fv_push, rz_av_push, rz_qv_push, rz_n_push, rz_n_pf, rz_n_pa, rz_n_pq, Nat.add_assoc, Nat.reduceAdd, Nat.reduceEqDiff, rz_p2, rz_p3, rz_p4, rz_p5, rz_p6, rz_p7, rz_p8, exists_eq', h.1]
  · simp only [rz_fv_pf, rz_av_pf, rz_qv_pf, rz_ln_pf, rz_co_pf, rz_fv_pa, rz_av_pa, rz_qv_pa, rz_ln_pa, rz_co_pa, rz_fv_pq, rz_av_pq, rz_qv_pq, rz_ln_pq, rz_co_pq, Nat.reduceEqDiff, Nat.add_eq_left, Nat.left_eq_add, Nat.one_ne_zero, Option.map_some, exists_const, Option.some.injEq, Prod.mk.injEq, exists_eq_left', exists_eq', exists_and_left, exists_and_right, true_and, and_true, true_or, or_true, and_self, and_assoc, Option.toList_some, Option.toList_none, List.cons_append, List.nil_append, ↓reduceIte, rz_x01, rz_x10, rz_fv_push, rz_av_push, rz_qv_push, rz_n_push, rz_n_pf, rz_n_pa, rz_n_pq, Nat.add_assoc, Nat.reduceAdd, Nat.reduceEqDiff, rz_p2, rz_p3, rz_p4, rz_p5, rz_p6, rz_p7, rz_p8, exists_eq', h.1]
  · simp only [rz_fv_pf, rz_av_pf, rz_qv_pf, rz_ln_pf, rz_co_pf, rz_fv_pa, rz_av_pa, rz_qv_pa, rz_ln_pa, rz_co_pa, rz_fv_pq, rz_av_pq, rz_qv_pq, rz_ln_pq, rz_co_pq, Nat.reduceEqDiff, Nat.add_eq_left, Nat.left_eq_add, Nat.one_ne_zero, Option.map_some, exists_const, Option.some.injEq, Prod.mk.injEq, exists_eq_left', exists_eq', exists_and_left, exists_and_right, true_and, and_true, true_or, or_true, and_self, and_assoc, Option.toList_some, Option.toList_none, List.cons_append, List.nil_append, ↓reduceIte, rz_x01, rz_x10, rz_fv_push, rz_av_push, rz_qv_push, rz_n_push, rz_n_pf, rz_n_pa, rz_n_pq, Nat.add_assoc, Nat.reduceAdd, Nat.reduceEqDiff, rz_p2, rz_p3, rz_p4, rz_p5, rz_p6, rz_p7, rz_p8, exists_eq', h.1]
  · refine Prod.ext ?_ ?_
    · simp only [rz_fv_push, rz_av_push, rz_qv_push, rz_n_push, rz_n_pf, rz_n_pa, rz_n_pq, Nat.add_assoc, Nat.reduceAdd, Nat.reduceEqDiff, rz_p2, rz_p3, rz_p4, rz_p5, rz_p6, rz_p7, rz_p8, exists_eq', h.1]
    · simp only [Nat.add_assoc, Nat.reduceAdd, rz_w_push, rz_w_pf]
  · repeat' first | exact rz_ex.rf | refine rz_ex.tr ?_ (rz_ex_pf (Nat.le_refl _)) | refine rz_ex.tr ?_ (rz_ex_push (by simp only [rz_fv_push, rz_av_push, rz_qv_push, rz_n_push, rz_n_pf, rz_n_pa, rz_n_pq, Nat.add_assoc, Nat.reduceAdd, Nat.reduceEqDiff, rz_p2, rz_p3, rz_p4, rz_p5, rz_p6, rz_p7, rz_p8, exists_eq', h.1]; omega))
set_option maxHeartbeats 4000000 in
set_option maxRecDepth 100000 in
theorem c_S_init (h : rz_nw b 5 hp) (kk : ∀ hp', rz_SR b ([], 0, 0, fun _ => 0, 0, 0, 0) hp' → hp'.2 = (b + 8, hp.2.2 + 220) → rz_ex b hp hp' → R none hp') : rz_ev (d + 2) 63 0 [some (.ref b)] [] hp R := by
  have g := fun j => h.fv (j := j)
  have g0 : rz_fv hp b 5 0 = some .null := g 0
  have g1 : rz_fv hp b 5 1 = some .null := g 1
  have g2 : rz_fv hp b 5 2 = some (.int 0) := g 2
  have g3 : rz_fv hp b 5 3 = some (.int 0) := g 3
  have g4 : rz_fv hp b 5 4 = some (.int 0) := g 4
  have n40 : ¬ (12 : Int32) < 0 := by decide
  have t40 : (12 : Int32).toNatClampNeg = 12 := rfl
  have l40 : 12 ≤ 4096 := by decide
  simp only [↓ri_63_0, ↓ri_63_1, ↓ri_63_4, ↓ri_63_5, ↓ri_63_8, ↓ri_63_9, Option.some.injEq, Prod.mk.injEq, exists_eq_left', exists_eq', exists_and_left, exists_and_right, true_and, and_true, true_or, or_true, and_self, and_assoc, Option.toList_some, Option.toList_none, List.cons_append, List.nil_append, ↓reduceIte, rz_x01, rz_x10, h.1]
  refine c_P_init (d := d) (rz_nw_push h.1) (fun h1 k1 e1 x1 => ?_)
  have y1 : rz_ex (b + 1) hp h1 := (rz_ex_push (by rw [h.1]; exact Nat.le_refl _)).tr x1
  have n1 : h1.2.1 = b + 7 := by rw [e1]
  have u0 := y1.fv (Nat.lt_succ_self b) g0
  have u1 := y1.fv (Nat.lt_succ_self b) g1
  have u2 := y1.fv (Nat.lt_succ_self b) g2
  have u3 := y1.fv (Nat.lt_succ_self b) g3
  have u4 := y1.fv (Nat.lt_succ_self b) g4
  simp only [↓ri_63_12, ↓ri_63_15, ↓ri_63_16, ↓ri_63_18, ↓ri_63_20, ↓ri_63_23, Option.some.injEq, Prod.mk.injEq, exists_eq_left', exists_eq', exists_and_left, exists_and_right, true_and, and_true, true_or, or_true, and_self, and_assoc, Option.toList_some, Option.toList_none, List.cons_append, List.nil_append, ↓reduceIte, rz_x01, rz_x10, rz_fv_pf, rz_av_pf, rz_qv_pf, rz_ln_pf, rz_co_pf, rz_fv_pa, rz_av_pa, rz_qv_pa, rz_ln_pa, rz_co_pa, rz_fv_pq, rz_av_pq, rz_qv_pq, rz_ln_pq, rz_co_pq, Nat.reduceEqDiff, Nat.add_eq_left, Nat.left_eq_add, Nat.one_ne_zero, Option.map_some, exists_const, rz_fv_push, rz_av_push, rz_qv_push, rz_n_push, rz_n_pf, rz_n_pa, rz_n_pq, Nat.add_assoc, Nat.reduceAdd, Nat.reduceEqDiff, rz_p2, rz_p3, rz_p4, rz_p5, rz_p6, rz_p7, rz_p8, exists_eq', n40, t40, l40, not_false_eq_true, u0, u1, n1]
  have s1 : rz_sm b (b + 1) h1 (rz_pf h1 b 0 (.ref (b + 1))) := rz_sm_pf (by omega) (by omega)
  have y2 : rz_ex (b + 7) (rz_pf h1 b 0 (.ref (b + 1))) (rz_push (rz_pf h1 b 0 (.ref (b + 1))) (.inl (0, 12, fun _ => 0)) 12) := rz_ex_push (by rw [rz_n_pf, n1]; exact Nat.le_refl _)
  have s2 : rz_sm b (b + 1) (rz_push (rz_pf h1 b 0 (.ref (b + 1))) (.inl (0, 12, fun _ => 0)) 12) (rz_pf (rz_push (rz_pf h1 b 0 (.ref (b + 1))) (.inl (0, 12, fun _ => 0)) 12) b 1 (.ref (b + 7))) := rz_sm_pf (by omega) (by omega)
  refine kk _ ⟨?_, rz_PL_sm (rz_PL_ex (rz_PL_sm k1 s1 (by omega)) y2 (by omega)) s2 (by omega), fun _ => 0, ?_, fun i hi => rfl⟩ ?_ ?_
  · simp only [rz_SRF, rz_fv_pf, rz_av_pf, rz_qv_pf, rz_ln_pf, rz_co_pf, rz_fv_pa, rz_av_pa, rz_qv_pa, rz_ln_pa, rz_co_pa, rz_fv_pq, rz_av_pq, rz_qv_pq, rz_ln_pq, rz_co_pq, Nat.reduceEqDiff, Nat.add_eq_left, Nat.left_eq_add, Nat.one_ne_zero, Option.map_some, exists_const, Option.some.injEq, Prod.mk.injEq, exists_eq_left', exists_eq', exists_and_left, exists_and_right, true_and, and_true, true_or, or_true, and_self, and_assoc, Option.toList_some, Option.toList_none, List.cons_append, List.nil_append, ↓reduceIte, rz_x01, rz_x10, rz_fv_push, rz_av_push, rz_qv_push, rz_n_push, rz_n_pf, rz_n_pa, rz_n_pq, Nat.add_assoc, Nat.reduceAdd, Nat.reduceEqDiff, rz_p2, rz_p3, rz_p4, rz_p5, rz_p6, rz_p7, rz_p8, exists_eq', n1, u0, u1, u2, u3, u4, nI_0]
  · simp only [rz_fv_pf, rz_av_pf, rz_qv_pf, rz_ln_pf, rz_co_pf, rz_fv_pa, rz_av_pa, rz_qv_pa, rz_ln_pa, rz_co_pa, rz_fv_pq, rz_av_pq, rz_qv_pq, rz_ln_pq, rz_co_pq, Nat.reduceEqDiff, Nat.add_eq_left, Nat.left_eq_add, Nat.one_ne_zero, Option.map_some, exists_const, Option.some.injEq, Prod.mk.injEq, exists_eq_left', exists_eq', exists_and_left, exists_and_right, true_and, and_true, true_or, or_true, and_self, and_assoc, Option.toList_some, Option.toList_none, List.cons_append, List.nil_append, ↓reduceIte, rz_x01, rz_x10, rz_fv_push, rz_av_push, rz_qv_push, rz_n_push, rz_n_pf, rz_n_pa, rz_n_pq, Nat.add_assoc, Nat.reduceAdd, Nat.reduceEqDiff, rz_p2, rz_p3, rz_p4, rz_p5, rz_p6, rz_p7, rz_p8, exists_eq', n1]
  · refine Prod.ext ?_ ?_
    · simp only [rz_fv_push, rz_av_push, rz_qv_push, rz_n_push, rz_n_pf, rz_n_pa, rz_n_pq, Nat.add_assoc, Nat.reduceAdd, Nat.reduceEqDiff, rz_p2, rz_p3, rz_p4, rz_p5, rz_p6, rz_p7, rz_p8, exists_eq', n1]
    · show h1.2.2 + 12 = _
      rw [e1]
      show hp.2.2 + 8 + 200 + 12 = _
      rw [Nat.add_assoc, Nat.add_assoc]
  · exact ((((y1.wd (by omega)).tr (rz_ex_sm s1 (Nat.le_refl _))).tr (y2.wd (by omega))).tr (rz_ex_sm s2 (Nat.le_refl _)))
set_option maxHeartbeats 4000000 in
set_option maxRecDepth 100000 in
theorem c_H_init (h : rz_nw b 0 hp) (kk : ∀ hp', rz_HI b [] hp' → hp'.2 = (b + 58, hp.2.2 + 1592) → rz_ex b hp hp' → R none hp') : rz_ev (d + 3) 0 0 [some (.ref b), none] [] hp R := by
  have g := fun j => h.fv (j := j)
  have g0 : rz_fv hp b 0 0 = some .null := g 0
  have g1 : rz_fv hp b 0 1 = some (.int 0) := g 1
  have n40 : ¬ (4 : Int32) < 0 := by decide
  have t40 : (4 : Int32).toNatClampNeg = 4 := rfl
  have l40 : 4 ≤ 4096 := by decide
  have hl : ∀ i, i ≤ 4 → ∀ hp1 f, rz_fv hp1 b 0 0 = some (.ref (b + 1)) → rz_fv hp1 b 0 1 = some (.int 0) → rz_qv hp1 (b + 1) = some (4, f) → (∀ k, k < i → f k = some (b + 2 + 14 * k)) → (∀ k, k < i → rz_ST (b + 2 + 14 * k) rz_st0 hp1) → hp1.2 = (b + 2 + 14 * i, hp.2.2 + 4 + 397 * i) → rz_ex b hp hp1 → rz_ev (d + 3) 0 14 [some (.ref b), some (.int (nI i))] [] hp1 R := by
    refine rz_down 4 ?_ ?_
    · intro hp1 f q0 q1 q2 q3 q4 q5 q6
      have hln : rz_ln hp1 (b + 1) = some 4 := rz_ln_qv q2
      have c1 : nI 4 ≤ nI 4 := by decide
      rw [ri_0_14]
      simp only [↓ri_0_15, ↓ri_0_16, ↓ri_0_19, ↓ri_0_20, ↓ri_0_42, Option.some.injEq, Prod.mk.injEq, exists_eq_left', exists_eq', exists_and_left, exists_and_right, true_and, and_true, true_or, or_true, and_self, and_assoc, Option.toList_some, Option.toList_none, List.cons_append, List.nil_append, ↓reduceIte, rz_x01, rz_x10, q0, hln, ↓if_pos c1]
      exact kk hp1 ⟨by decide, q0, q1, f, id, fun _ => rz_st0, q2, fun i hi => ⟨q3 i hi, hi⟩, fun i j _ _ e => e, q4, fun i s hs => by simp at hs⟩ q5 q6
    · intro i hi ih hp1 f q0 q1 q2 q3 q4 q5 q6
      have hln : rz_ln hp1 (b + 1) = some 4 := rz_ln_qv q2
      have c1 : ¬ nI 4 ≤ nI i := nI_ge hi (by decide)
      have hv : vp_in (nI i) 4 := vp_in_nI hi (by decide)
      have n1 : hp1.2.1 = b + 2 + 14 * i := by rw [q5]
      rw [ri_0_14]
      simp only [↓ri_0_15, ↓ri_0_16, ↓ri_0_19, ↓ri_0_20, ↓ri_0_23, ↓ri_0_24, ↓ri_0_27, ↓ri_0_28, ↓ri_0_31, ↓ri_0_32, Option.some.injEq, Prod.mk.injEq, exists_eq_left', exists_eq', exists_and_left, exists_and_right, true_and, and_true, true_or, or_true, and_self, and_assoc, Option.toList_some, Option.toList_none, List.cons_append, List.nil_append, ↓reduceIte, rz_x01, rz_x10, q0, hln, ↓if_neg c1, n1]
      refine c_T_init (d := d) (rz_nw_push n1) (fun h2 k2 e2 x2 => ?_)
      have y2 : rz_ex (b + 2 + 14 * i) hp1 h2 := (rz_ex_push (by rw [n1]; exact Nat.le_refl _)).tr x2
      have a2 : rz_qv h2 (b + 1) = some (4, f) := y2.qv (by omega) q2
      have hco : rz_co h2 (b + 2 + 14 * i) = some 6 := rz_co_fv k2.1.1
      have s3 : rz_sm (b + 1) (b + 2) h2 (rz_pq h2 (b + 1) (fun j => if j = i then some (b + 2 + 14 * i) else f j)) := rz_sm_pq (by omega) (by omega)
      simp only [↓ri_0_35, ↓ri_0_36, ↓ri_0_39, Option.some.injEq, Prod.mk.injEq, exists_eq_left', exists_eq', exists_and_left, exists_and_right, true_and, and_true, true_or, or_true, and_self, and_assoc, Option.toList_some, Option.toList_none, List.cons_append, List.nil_append, ↓reduceIte, rz_x01, rz_x10, a2, hv, nI_clamp (show i < 2 ^ 31 by omega), hco, nI_1]
      refine ih _ (fun j => if j = i then some (b + 2 + 14 * i) else f j) (by rw [rz_fv_pq]; exact y2.fv (by omega) q0) (by rw [rz_fv_pq]; exact y2.fv (by omega) q1) (by rw [rz_qv_pq, if_pos rfl, a2]; rfl) (fun k hk => ?_) (fun k hk => ?_) ?_ ((q6.tr (y2.wd (by omega))).tr (rz_ex_sm s3 (by omega)))
      · by_cases q : k = i
        · subst q; exact if_pos rfl
        · show (if k = i then _ else _) = _
          rw [if_neg q]; exact q3 k (by omega)
      · by_cases q : k = i
        · subst q; exact rz_ST_sm k2 s3 (by omega)
        · exact rz_ST_sm (rz_ST_ex (q4 k (by omega)) y2 (by omega)) s3 (by omega)
      · show h2.2 = _
        rw [e2]
        refine Prod.ext ?_ ?_
        · show b + 2 + 14 * i + 14 = b + 2 + 14 * (i + 1)
          omega
        · show hp1.2.2 + 6 + 391 = hp.2.2 + 4 + 397 * (i + 1)
          rw [q5]
          show hp.2.2 + 4 + 397 * i + 6 + 391 = _
          omega
  have := hl 0 (Nat.zero_le _) (rz_pf (rz_push hp (.inr (.inl (4, fun _ => none))) 4) b 0 (.ref (b + 1))) (fun _ => none) (by simp only [rz_fv_pf, rz_av_pf, rz_qv_pf, rz_ln_pf, rz_co_pf, rz_fv_pa, rz_av_pa, rz_qv_pa, rz_ln_pa, rz_co_pa, rz_fv_pq, rz_av_pq, rz_qv_pq, rz_ln_pq, rz_co_pq, Nat.reduceEqDiff, Nat.add_eq_left, Nat.left_eq_add, Nat.one_ne_zero, Option.map_some, exists_const, Option.some.injEq, Prod.mk.injEq, exists_eq_left', exists_eq', exists_and_left, exists_and_right, true_and, and_true, true_or, or_true, and_self, and_assoc, Option.toList_some, Option.toList_none, List.cons_append, List.nil_append, ↓reduceIte, rz_x01, rz_x10, rz_fv_push, rz_av_push, rz_qv_push, rz_n_push, rz_n_pf, rz_n_pa, rz_n_pq, Nat.add_assoc, Nat.reduceAdd, Nat.reduceEqDiff, rz_p2, rz_p3, rz_p4, rz_p5, rz_p6, rz_p7, rz_p8, exists_eq', h.1, g0]) (by simp only [rz_fv_pf, rz_av_pf, rz_qv_pf, rz_ln_pf, rz_co_pf, rz_fv_pa, rz_av_pa, rz_qv_pa, rz_ln_pa, rz_co_pa, rz_fv_pq, rz_av_pq, rz_qv_pq, rz_ln_pq, rz_co_pq, Nat.reduceEqDiff, Nat.add_eq_left, Nat.left_eq_add, Nat.one_ne_zero, Option.map_some, exists_const, Option.some.injEq, Prod.mk.injEq, exists_eq_left', exists_eq', exists_and_left, exists_and_right, true_and, and_true, true_or, or_true, and_self, and_assoc, Option.toList_some, Option.toList_none, List.cons_append, List.nil_append, ↓reduceIte, rz_x01, rz_x10, rz_fv_push, rz_av_push, rz_qv_push, rz_n_push, rz_n_pf, rz_n_pa, rz_n_pq, Nat.add_assoc, Nat.reduceAdd, Nat.reduceEqDiff, rz_p2, rz_p3, rz_p4, rz_p5, rz_p6, rz_p7, rz_p8, exists_eq', h.1, g1]) (by simp only [rz_fv_pf, rz_av_pf, rz_qv_pf, rz_ln_pf, rz_co_pf, rz_fv_pa, rz_av_pa, rz_qv_pa, rz_ln_pa, rz_co_pa, rz_fv_pq, rz_av_pq, rz_qv_pq, rz_ln_pq, rz_co_pq, Nat.reduceEqDiff, Nat.add_eq_left, Nat.left_eq_add, Nat.one_ne_zero, Option.map_some, exists_const, Option.some.injEq, Prod.mk.injEq, exists_eq_left', exists_eq', exists_and_left, exists_and_right, true_and, and_true, true_or, or_true, and_self, and_assoc, Option.toList_some, Option.toList_none, List.cons_append, List.nil_append, ↓reduceIte, rz_x01, rz_x10, rz_fv_push, rz_av_push, rz_qv_push, rz_n_push, rz_n_pf, rz_n_pa, rz_n_pq, Nat.add_assoc, Nat.reduceAdd, Nat.reduceEqDiff, rz_p2, rz_p3, rz_p4, rz_p5, rz_p6, rz_p7, rz_p8, exists_eq', h.1]) (fun k hk => absurd hk (Nat.not_lt_zero _)) (fun k hk => absurd hk (Nat.not_lt_zero _)) (Prod.ext (by simp only [rz_fv_push, rz_av_push, rz_qv_push, rz_n_push, rz_n_pf, rz_n_pa, rz_n_pq, Nat.add_assoc, Nat.reduceAdd, Nat.reduceEqDiff, rz_p2, rz_p3, rz_p4, rz_p5, rz_p6, rz_p7, rz_p8, exists_eq', h.1]) rfl) ((rz_ex_push (by have := h.1; omega)).tr (rz_ex_pf (Nat.le_refl _)))
  rw [nI_0] at this
  simp only [↓ri_0_0, ↓ri_0_1, ↓ri_0_4, ↓ri_0_5, ↓ri_0_6, ↓ri_0_9, ↓ri_0_12, ↓ri_0_13, Option.some.injEq, Prod.mk.injEq, exists_eq_left', exists_eq', exists_and_left, exists_and_right, true_and, and_true, true_or, or_true, and_self, and_assoc, Option.toList_some, Option.toList_none, List.cons_append, List.nil_append, ↓reduceIte, rz_x01, rz_x10, rz_fv_pf, rz_av_pf, rz_qv_pf, rz_ln_pf, rz_co_pf, rz_fv_pa, rz_av_pa, rz_qv_pa, rz_ln_pa, rz_co_pa, rz_fv_pq, rz_av_pq, rz_qv_pq, rz_ln_pq, rz_co_pq, Nat.reduceEqDiff, Nat.add_eq_left, Nat.left_eq_add, Nat.one_ne_zero, Option.map_some, exists_const, rz_fv_push, rz_av_push, rz_qv_push, rz_n_push, rz_n_pf, rz_n_pa, rz_n_pq, Nat.add_assoc, Nat.reduceAdd, Nat.reduceEqDiff, rz_p2, rz_p3, rz_p4, rz_p5, rz_p6, rz_p7, rz_p8, exists_eq', h.1, n40, t40, l40, not_false_eq_true, g0]
  exact this
/-- what the fields of an object hold -/
def rz_Fs (b ci N : Nat) (v : Nat → Value) (hp : rz_Hp) : Prop := ∀ j, j < N → rz_fv hp b ci j = some (v j)
theorem rz_Fs.ex {lo ci N : Nat} {v : Nat → Value} {h1 : rz_Hp} (h : rz_Fs b ci N v hp) (s : rz_ex lo hp h1) (hb : b < lo) : rz_Fs b ci N v h1 := fun j hj => s.fv hb (h j hj)
theorem rz_Fs.pf {ci N i : Nat} {v : Nat → Value} {x : Value} (h : rz_Fs b ci N v hp) : rz_Fs b ci N (fun j => if i = j then x else v j) (rz_pf hp b i x) := fun j hj => by
  rw [rz_fv_pf, if_pos rfl]
  by_cases q : j = i
  · subst q; rw [if_pos rfl, h j hj]; simp
  · rw [if_neg q, h j hj]; simp only [if_neg (show ¬ i = j from fun e => q e.symm)]
theorem rz_Fs.of {ci N : Nat} {v w : Nat → Value} (h : rz_Fs b ci N v hp) (e : ∀ j, j < N → v j = w j) : rz_Fs b ci N w hp := fun j hj => by rw [h j hj, e j hj]
theorem rz_HI_ex {lo h : Nat} {hist : List rz_AS} {h1 : rz_Hp} (k : rz_HI h hist hp) (s : rz_ex lo hp h1) (hd : h + 58 ≤ lo) : rz_HI h hist h1 := by
  obtain ⟨p0, p1, p2, f, σ, A, q, k1, k2, k3, k4⟩ := k
  exact ⟨p0, s.fv (by omega) p1, s.fv (by omega) p2, f, σ, A, s.qv (by omega) q, k1, k2, fun i hi => rz_ST_ex (k3 i hi) s (by have := (k1 i hi).2; omega), k4⟩
theorem rz_TX_ex {lo t : Nat} {tx : List Int32} {h1 : rz_Hp} (k : rz_TX t tx hp) (s : rz_ex lo hp h1) (hd : t + 2 ≤ lo) : rz_TX t tx h1 := by
  obtain ⟨hL, p0, p1, f, a0, hf⟩ := k
  exact ⟨hL, s.fv (by omega) p0, s.fv (by omega) p1, f, s.av (by omega) a0, hf⟩
theorem rz_OR_ex {lo q : Nat} {os : List rz_Or} {pl : Int32} {h1 : rz_Hp} (k : rz_OR q os pl hp) (s : rz_ex lo hp h1) (hd : q + 4 ≤ lo) : rz_OR q os pl h1 := by
  obtain ⟨hL, p0, p1, p2, p3, p4, f0, f1, f2, a0, a1, a2, hf⟩ := k
  exact ⟨hL, s.fv (by omega) p0, s.fv (by omega) p1, s.fv (by omega) p2, s.fv (by omega) p3, s.fv (by omega) p4, f0, f1, f2, s.av (by omega) a0, s.av (by omega) a1, s.av (by omega) a2, hf⟩
set_option maxHeartbeats 4000000 in
set_option maxRecDepth 100000 in
theorem c_C_init (h : rz_nw b 8 hp) (kk : ∀ hp', rz_RP b rz_st0 rz_st0 rz_st0 [] [] [] 0 ([], 0, 0, fun _ => 0, 0, 0, 0) 0 0 0 hp' → hp'.2 = (b + 115, hp.2.2 + 3167) → rz_ex b hp hp' → R none hp') : rz_ev (d + 4) 87 0 [some (.ref b)] [] hp R := by
  have F0 : rz_Fs b 8 10 (fun j => if j < 7 then .null else .int 0) hp := by
    intro j hj
    rw [h.fv]
    have : ∀ j, j < 10 → (rz_dv 8)[j]? = some (if j < 7 then .null else .int 0) := by decide
    exact this j hj
  simp only [↓ri_87_0, ↓ri_87_1, ↓ri_87_4, ↓ri_87_5, ↓ri_87_8, ↓ri_87_9, Option.some.injEq, Prod.mk.injEq, exists_eq_left', exists_eq', exists_and_left, exists_and_right, true_and, and_true, true_or, or_true, and_self, and_assoc, Option.toList_some, Option.toList_none, List.cons_append, List.nil_append, ↓reduceIte, rz_x01, rz_x10, h.1]
  refine c_T_init (d := d + 1) (rz_nw_push h.1) (fun h1 k1 e1 x1 => ?_)
  have y1 : rz_ex (b + 1) hp h1 := (rz_ex_push (by rw [h.1]; exact Nat.le_refl _)).tr x1
  have F1 := F0.ex y1 (by omega)
  have n1 : h1.2.1 = b + 15 := by rw [e1]
  have q1 : rz_fv h1 b 8 0 = some .null := F1 0 (by decide)
  simp only [↓ri_87_12, ↓ri_87_15, ↓ri_87_16, ↓ri_87_19, ↓ri_87_20, Option.some.injEq, Prod.mk.injEq, exists_eq_left', exists_eq', exists_and_left, exists_and_right, true_and, and_true, true_or, or_true, and_self, and_assoc, Option.toList_some, Option.toList_none, List.cons_append, List.nil_append, ↓reduceIte, rz_x01, rz_x10, q1, rz_n_pf, n1]
  have s1 : rz_sm b (b + 1) h1 (rz_pf h1 b 0 (.ref (b + 1))) := rz_sm_pf (by omega) (by omega)
  have G1 := F1.pf (i := 0) (x := .ref (b + 1))
  refine c_T_init (d := d + 1) (rz_nw_push (hp := rz_pf h1 b 0 (.ref (b + 1))) n1) (fun h2 k2 e2 x2 => ?_)
  have y2 : rz_ex (b + 15) (rz_pf h1 b 0 (.ref (b + 1))) h2 := (rz_ex_push (by rw [rz_n_pf, n1]; exact Nat.le_refl _)).tr x2
  have F2 := G1.ex y2 (by omega)
  have n2 : h2.2.1 = b + 29 := by rw [e2]
  have q2 : rz_fv h2 b 8 1 = some .null := F2 1 (by decide)
  simp only [↓ri_87_23, ↓ri_87_26, ↓ri_87_27, ↓ri_87_30, ↓ri_87_31, Option.some.injEq, Prod.mk.injEq, exists_eq_left', exists_eq', exists_and_left, exists_and_right, true_and, and_true, true_or, or_true, and_self, and_assoc, Option.toList_some, Option.toList_none, List.cons_append, List.nil_append, ↓reduceIte, rz_x01, rz_x10, q2, rz_n_pf, n2]
  have s2 : rz_sm b (b + 1) h2 (rz_pf h2 b 1 (.ref (b + 15))) := rz_sm_pf (by omega) (by omega)
  have G2 := F2.pf (i := 1) (x := .ref (b + 15))
  refine c_T_init (d := d + 1) (rz_nw_push (hp := rz_pf h2 b 1 (.ref (b + 15))) n2) (fun h3 k3 e3 x3 => ?_)
  have y3 : rz_ex (b + 29) (rz_pf h2 b 1 (.ref (b + 15))) h3 := (rz_ex_push (by rw [rz_n_pf, n2]; exact Nat.le_refl _)).tr x3
  have F3 := G2.ex y3 (by omega)
  have n3 : h3.2.1 = b + 43 := by rw [e3]
  have q3 : rz_fv h3 b 8 2 = some .null := F3 2 (by decide)
  simp only [↓ri_87_34, ↓ri_87_37, ↓ri_87_38, ↓ri_87_41, ↓ri_87_42, Option.some.injEq, Prod.mk.injEq, exists_eq_left', exists_eq', exists_and_left, exists_and_right, true_and, and_true, true_or, or_true, and_self, and_assoc, Option.toList_some, Option.toList_none, List.cons_append, List.nil_append, ↓reduceIte, rz_x01, rz_x10, q3, rz_n_pf, n3]
  have s3 : rz_sm b (b + 1) h3 (rz_pf h3 b 2 (.ref (b + 29))) := rz_sm_pf (by omega) (by omega)
  have G3 := F3.pf (i := 2) (x := .ref (b + 29))
  refine c_H_init (d := d) (rz_nw_push (hp := rz_pf h3 b 2 (.ref (b + 29))) n3) (fun h4 k4 e4 x4 => ?_)
  have y4 : rz_ex (b + 43) (rz_pf h3 b 2 (.ref (b + 29))) h4 := (rz_ex_push (by rw [rz_n_pf, n3]; exact Nat.le_refl _)).tr x4
  have F4 := G3.ex y4 (by omega)
  have n4 : h4.2.1 = b + 101 := by rw [e4]
  have q4 : rz_fv h4 b 8 3 = some .null := F4 3 (by decide)
  simp only [↓ri_87_45, ↓ri_87_48, ↓ri_87_49, ↓ri_87_52, ↓ri_87_53, Option.some.injEq, Prod.mk.injEq, exists_eq_left', exists_eq', exists_and_left, exists_and_right, true_and, and_true, true_or, or_true, and_self, and_assoc, Option.toList_some, Option.toList_none, List.cons_append, List.nil_append, ↓reduceIte, rz_x01, rz_x10, q4, rz_n_pf, n4]
  have s4 : rz_sm b (b + 1) h4 (rz_pf h4 b 3 (.ref (b + 43))) := rz_sm_pf (by omega) (by omega)
  have G4 := F4.pf (i := 3) (x := .ref (b + 43))
  refine c_X_init (d := d + 2) (rz_nw_push (hp := rz_pf h4 b 3 (.ref (b + 43))) n4) (fun h5 k5 e5 x5 => ?_)
  have y5 : rz_ex (b + 101) (rz_pf h4 b 3 (.ref (b + 43))) h5 := (rz_ex_push (by rw [rz_n_pf, n4]; exact Nat.le_refl _)).tr x5
  have F5 := G4.ex y5 (by omega)
  have n5 : h5.2.1 = b + 103 := by rw [e5]
  have q5 : rz_fv h5 b 8 4 = some .null := F5 4 (by decide)
  simp only [↓ri_87_56, ↓ri_87_59, ↓ri_87_60, ↓ri_87_63, ↓ri_87_64, Option.some.injEq, Prod.mk.injEq, exists_eq_left', exists_eq', exists_and_left, exists_and_right, true_and, and_true, true_or, or_true, and_self, and_assoc, Option.toList_some, Option.toList_none, List.cons_append, List.nil_append, ↓reduceIte, rz_x01, rz_x10, q5, rz_n_pf, n5]
  have s5 : rz_sm b (b + 1) h5 (rz_pf h5 b 4 (.ref (b + 101))) := rz_sm_pf (by omega) (by omega)
  have G5 := F5.pf (i := 4) (x := .ref (b + 101))
  refine c_O_init (d := d + 2) (rz_nw_push (hp := rz_pf h5 b 4 (.ref (b + 101))) n5) (fun h6 k6 e6 x6 => ?_)
  have y6 : rz_ex (b + 103) (rz_pf h5 b 4 (.ref (b + 101))) h6 := (rz_ex_push (by rw [rz_n_pf, n5]; exact Nat.le_refl _)).tr x6
  have F6 := G5.ex y6 (by omega)
  have n6 : h6.2.1 = b + 107 := by rw [e6]
  have q6 : rz_fv h6 b 8 5 = some .null := F6 5 (by decide)
  simp only [↓ri_87_67, ↓ri_87_70, ↓ri_87_71, ↓ri_87_74, ↓ri_87_75, Option.some.injEq, Prod.mk.injEq, exists_eq_left', exists_eq', exists_and_left, exists_and_right, true_and, and_true, true_or, or_true, and_self, and_assoc, Option.toList_some, Option.toList_none, List.cons_append, List.nil_append, ↓reduceIte, rz_x01, rz_x10, q6, rz_n_pf, n6]
  have s6 : rz_sm b (b + 1) h6 (rz_pf h6 b 5 (.ref (b + 103))) := rz_sm_pf (by omega) (by omega)
  have G6 := F6.pf (i := 5) (x := .ref (b + 103))
  refine c_S_init (d := d + 1) (rz_nw_push (hp := rz_pf h6 b 5 (.ref (b + 103))) n6) (fun h7 k7 e7 x7 => ?_)
  have y7 : rz_ex (b + 107) (rz_pf h6 b 5 (.ref (b + 103))) h7 := (rz_ex_push (by rw [rz_n_pf, n6]; exact Nat.le_refl _)).tr x7
  have F7 := G6.ex y7 (by omega)
  have q7 : rz_fv h7 b 8 6 = some .null := F7 6 (by decide)
  have G7 := F7.pf (i := 6) (x := .ref (b + 107))
  have q8 : rz_fv (rz_pf h7 b 6 (.ref (b + 107))) b 8 9 = some (.int 0) := G7 9 (by decide)
  have G8 := G7.pf (i := 9) (x := .int 0)
  simp only [↓ri_87_78, ↓ri_87_81, ↓ri_87_82, ↓ri_87_83, ↓ri_87_86, Option.some.injEq, Prod.mk.injEq, exists_eq_left', exists_eq', exists_and_left, exists_and_right, true_and, and_true, true_or, or_true, and_self, and_assoc, Option.toList_some, Option.toList_none, List.cons_append, List.nil_append, ↓reduceIte, rz_x01, rz_x10, q7, q8]
  have s7 : rz_sm b (b + 1) h7 (rz_pf (rz_pf h7 b 6 (.ref (b + 107))) b 9 (.int 0)) := (rz_sm_pf (by omega) (by omega)).tr (rz_sm_pf (by omega) (by omega))
  have z2 := fun {p : Nat} {s : rz_AS} (k : rz_ST p s h2) (hp : b + 1 ≤ p) (hq : p + 14 ≤ b + 29) => rz_ST_ex (rz_ST_sm k s2 (by omega)) y3 hq
  have z3 := fun {p : Nat} {s : rz_AS} (k : rz_ST p s h3) (hp : b + 1 ≤ p) (hq : p + 14 ≤ b + 43) => rz_ST_sm (rz_ST_ex (rz_ST_sm (rz_ST_ex (rz_ST_sm (rz_ST_ex (rz_ST_sm (rz_ST_ex (rz_ST_sm k s3 (by omega)) y4 hq) s4 (by omega)) y5 (by omega)) s5 (by omega)) y6 (by omega)) s6 (by omega)) y7 (by omega)) s7 (by omega)
  refine kk _ ⟨⟨G8 0 (by decide), G8 1 (by decide), G8 2 (by decide), G8 3 (by decide), G8 4 (by decide), G8 5 (by decide), G8 6 (by decide), G8 7 (by decide), G8 8 (by decide), G8 9 (by decide)⟩, z3 (z2 (rz_ST_ex (rz_ST_sm k1 s1 (by omega)) y2 (by omega)) (by omega) (by omega)) (by omega) (by omega), z3 (z2 k2 (by omega) (by omega)) (by omega) (by omega), z3 k3 (by omega) (by omega), ?_, ?_, ?_, rz_SR_sm k7 s7 (by omega)⟩ ?_ ?_
  · exact rz_HI_sm (rz_HI_ex (rz_HI_sm (rz_HI_ex (rz_HI_sm (rz_HI_ex (rz_HI_sm k4 s4 (by omega)) y5 (by omega)) s5 (by omega)) y6 (by omega)) s6 (by omega)) y7 (by omega)) s7 (by omega)
  · exact rz_TX_sm (rz_TX_ex (rz_TX_sm (rz_TX_ex (rz_TX_sm k5 s5 (by omega)) y6 (by omega)) s6 (by omega)) y7 (by omega)) s7 (by omega)
  · exact rz_OR_sm (rz_OR_ex (rz_OR_sm k6 s6 (by omega)) y7 (by omega)) s7 (by omega)
  · show h7.2 = _
    rw [e7]
    refine Prod.ext rfl ?_
    show (h6.2.2 + 5) + 220 = _
    rw [e6]
    show ((h5.2.2 + 5 + 90) + 5) + 220 = _
    rw [e5]
    show (((h4.2.2 + 2 + 60) + 5 + 90) + 5) + 220 = _
    rw [e4]
    show ((((h3.2.2 + 2 + 1592) + 2 + 60) + 5 + 90) + 5) + 220 = _
    rw [e3]
    show ((((h2.2.2 + 6 + 391 + 2 + 1592) + 2 + 60) + 5 + 90) + 5) + 220 = _
    rw [e2]
    show ((((h1.2.2 + 6 + 391 + 6 + 391 + 2 + 1592) + 2 + 60) + 5 + 90) + 5) + 220 = _
    rw [e1]
    show ((((hp.2.2 + 6 + 391 + 6 + 391 + 6 + 391 + 2 + 1592) + 2 + 60) + 5 + 90) + 5) + 220 = hp.2.2 + 3167
    omega
  · exact (((((((((((((y1.wd (by omega)).tr (rz_ex_sm s1 (Nat.le_refl _))).tr (y2.wd (by omega))).tr (rz_ex_sm s2 (Nat.le_refl _))).tr (y3.wd (by omega))).tr (rz_ex_sm s3 (Nat.le_refl _))).tr (y4.wd (by omega))).tr (rz_ex_sm s4 (Nat.le_refl _))).tr (y5.wd (by omega))).tr (rz_ex_sm s5 (Nat.le_refl _))).tr (y6.wd (by omega))).tr (rz_ex_sm s6 (Nat.le_refl _))).tr (y7.wd (by omega))).tr (rz_ex_sm s7 (Nat.le_refl _))
end RZML
