/-! piles() as a whole -/
theorem rz_ex_new {hp h1 : rz_Hp} {c : rz_Cl} {n : Nat} (x : rz_ex hp.2.1 (rz_push hp c n) h1) : rz_ex hp.2.1 hp h1 := (rz_ex_push (Nat.le_refl _)).tr x
set_option maxHeartbeats 4000000 in
set_option maxRecDepth 100000 in
theorem q_piles {d : Nat} {hp : rz_Hp} {R : Option Value → rz_Hp → Prop} (kk : ∀ hp', rz_ex hp.2.1 hp hp' → hp'.2 = (hp.2.1 + 230, hp.2.2 + 6354) → R (some (.int 1)) hp') : rz_ev (d + 9) 122 0 [none, none, none] [] hp R := by
  simp only [↓ri_122_0, ↓ri_122_3, ↓ri_122_4, Option.some.injEq, Prod.mk.injEq, exists_eq_left', exists_eq', exists_and_left, exists_and_right, true_and, and_true, true_or, or_true, and_self, and_assoc, Option.toList_some, Option.toList_none, List.cons_append, List.nil_append, ↓reduceIte, rz_x01, rz_x10]
  refine q_init (d := d + 4) (b := hp.2.1) (rz_nw_push rfl) (fun hp1 h1 e1 x1 => ?_)
  simp only [↓ri_122_7, Option.some.injEq, Prod.mk.injEq, exists_eq_left', exists_eq', exists_and_left, exists_and_right, true_and, and_true, true_or, or_true, and_self, and_assoc, Option.toList_some, Option.toList_none, List.cons_append, List.nil_append, ↓reduceIte, rz_x01, rz_x10]
  refine pa_A (d := d) (o := hp.2.1) h1 (fun hp2 h2 s2 => ?_)
  refine pa_B (d := d) (o := hp.2.1) h2 (fun hp3 h3 s3 => ?_)
  refine pa_C (d := d) (o := hp.2.1) h3 (fun hp4 h4 s4 => ?_)
  have n4 : hp4.2 = (hp.2.1 + 115, hp.2.2 + 3177) := by
    rw [s4.1, s3.1, s2.1, e1]
    rfl
  have m4 : hp4.2.1 = hp.2.1 + 115 := by rw [n4]
  have w4 : hp4.2.2 = hp.2.2 + 3177 := by rw [n4]
  simp only [↓ri_122_711, ↓ri_122_714, ↓ri_122_715, Option.some.injEq, Prod.mk.injEq, exists_eq_left', exists_eq', exists_and_left, exists_and_right, true_and, and_true, true_or, or_true, and_self, and_assoc, Option.toList_some, Option.toList_none, List.cons_append, List.nil_append, ↓reduceIte, rz_x01, rz_x10]
  refine q_init (d := d + 4) (b := hp4.2.1) (rz_nw_push rfl) (fun hp5 h5 e5 x5 => ?_)
  simp only [↓ri_122_718, ↓ri_122_719, ↓ri_122_720, Option.some.injEq, Prod.mk.injEq, exists_eq_left', exists_eq', exists_and_left, exists_and_right, true_and, and_true, true_or, or_true, and_self, and_assoc, Option.toList_some, Option.toList_none, List.cons_append, List.nil_append, ↓reduceIte, rz_x01, rz_x10]
  refine pp_loop (d := d) (p := hp4.2.1) (hp := hp5) (fun nw hist hp6 hI h6 s6 => ?_) 0 (Nat.zero_le _) rz_st0 [] hp5 ⟨rfl, rfl, rfl⟩ h5 rz_sm.rf
  refine pp_end hI h6 (fun hp7 s7 => kk hp7 ?_ ?_)
  · have a1 := rz_ex_new x1
    have a2 := a1.tr (rz_ex_sm s2 (Nat.le_refl _))
    have a3 := a2.tr (rz_ex_sm s3 (Nat.le_refl _))
    have a4 := a3.tr (rz_ex_sm s4 (Nat.le_refl _))
    have a5 := a4.tr ((rz_ex_new x5).wd (by omega))
    have a6 := a5.tr (rz_ex_sm s6 (by omega))
    exact a6.tr (rz_ex_sm s7 (by omega))
  · rw [s7.1, s6.1, e5]
    show (hp4.2.1 + 115, hp4.2.2 + 10 + 3167) = _
    rw [m4, w4]
