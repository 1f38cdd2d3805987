/-! the model's constructor -/
section RZMN
variable {d b m : Nat} {hp : rz_Hp} {R : Option Value → rz_Hp → Prop}
theorem rz_alloc {P : rz_Hp → Prop} {k i t n w : Nat} {f : Nat → Int32} {v : Nat → Value} (F : rz_Fs m 9 15 v hp) (e : hp.2 = (m + k, w)) (hk : 0 < k) (kk : ∀ h2, rz_Fs m 9 15 (fun j => if i = j then .ref (m + k) else v j) h2 → rz_av h2 (m + k) = some (t, n, f) → (∀ a x, m < a → a < m + k → rz_av hp a = some x → rz_av h2 a = some x) → h2.2 = (m + (k + 1), w + n) → rz_ex m hp h2 → P h2) : P (rz_pf (rz_push hp (.inl (t, n, f)) n) m i (.ref (m + k))) := by
  have y : rz_ex (m + k) hp (rz_push hp (.inl (t, n, f)) n) := rz_ex_push (by rw [e]; exact Nat.le_refl _)
  refine kk _ ((F.ex y (by omega)).pf) ?_ (fun a x h1 h2 q => ?_) ?_ ((y.wd (by omega)).tr (rz_ex_pf (Nat.le_refl _)))
  · rw [rz_av_pf, rz_av_push, if_pos (by rw [e])]
  · rw [rz_av_pf]; exact y.av h2 q
  · show (hp.2.1 + 1, hp.2.2 + n) = _
    rw [e]
    rfl
set_option maxHeartbeats 4000000 in
set_option maxRecDepth 100000 in
theorem m_M_init (h : rz_nw m 9 hp) (kk : ∀ hp', rz_MM m rz_st0 [] none [] (-5) (-5) 0 [] 0 hp' → hp'.2 = (m + 9, hp.2.2 + 3608) → rz_ex m hp hp' → R none hp') : rz_ev (d + 1) 117 0 [some (.ref m), none] [] hp R := by
  have F0 : rz_Fs m 9 15 (fun j => if j = 4 ∨ j = 6 ∨ j = 8 ∨ j = 9 ∨ j = 10 ∨ j = 11 ∨ j = 13 then .int 0 else .null) hp := by
    intro j hj
    rw [h.fv]
    have : ∀ j, j < 15 → (rz_dv 9)[j]? = some (if j = 4 ∨ j = 6 ∨ j = 8 ∨ j = 9 ∨ j = 10 ∨ j = 11 ∨ j = 13 then .int 0 else .null) := by decide
    exact this j hj
  have e0 : hp.2 = (m + 1, hp.2.2) := Prod.ext h.1 rfl
  have a430 : ¬ (430 : Int32) < 0 ∧ (430 : Int32).toNatClampNeg = 430 ∧ 430 ≤ 4096 := by decide
  have a1720 : ¬ (1720 : Int32) < 0 ∧ (1720 : Int32).toNatClampNeg = 1720 ∧ 1720 ≤ 4096 := by decide
  have a60 : ¬ (60 : Int32) < 0 ∧ (60 : Int32).toNatClampNeg = 60 ∧ 60 ≤ 4096 := by decide
  have a96 : ¬ (96 : Int32) < 0 ∧ (96 : Int32).toNatClampNeg = 96 ∧ 96 ≤ 4096 := by decide
  have a12 : ¬ (12 : Int32) < 0 ∧ (12 : Int32).toNatClampNeg = 12 ∧ 12 ≤ 4096 := by decide
  have fvp : ∀ {hp : rz_Hp} {t n i k w : Nat} {f : Nat → Int32} {v : Nat → Value}, rz_Fs m 9 15 v hp → i < 15 → hp.2 = (m + k, w) → 0 < k → rz_fv (rz_push hp (.inl (t, n, f)) n) m 9 i = some (v i) := fun {hp t n i k w f v} F hi e hk => (rz_ex_push (lo := m + k) (by rw [e]; exact Nat.le_refl _)).fv (by omega) (F i hi)
  simp only [↓ri_117_0, ↓ri_117_1, ↓ri_117_4, ↓ri_117_5, ↓ri_117_8, ↓ri_117_10, Option.some.injEq, Prod.mk.injEq, exists_eq_left', exists_eq', exists_and_left, exists_and_right, true_and, and_true, true_or, or_true, and_self, and_assoc, Option.toList_some, Option.toList_none, List.cons_append, List.nil_append, ↓reduceIte, rz_x01, rz_x10, h.1, a430, not_false_eq_true, fvp F0 (show 0 < 15 by decide) e0 (by decide)]
  refine rz_alloc (P := fun h => rz_ev (d + 1) 117 13 _ _ h R) F0 e0 (by decide) (fun h1 F1 b1 z1 e1 y1 => ?_)
  have n1 : h1.2.1 = m + 2 := by rw [e1]
  simp only [↓ri_117_13, ↓ri_117_14, ↓ri_117_17, ↓ri_117_19, Option.some.injEq, Prod.mk.injEq, exists_eq_left', exists_eq', exists_and_left, exists_and_right, true_and, and_true, true_or, or_true, and_self, and_assoc, Option.toList_some, Option.toList_none, List.cons_append, List.nil_append, ↓reduceIte, rz_x01, rz_x10, n1, a430, not_false_eq_true, fvp F1 (show 1 < 15 by decide) e1 (by decide)]
  refine rz_alloc (P := fun h => rz_ev (d + 1) 117 22 _ _ h R) F1 e1 (by decide) (fun h2 F2 b2 z2 e2 y2 => ?_)
  have n2 : h2.2.1 = m + 3 := by rw [e2]
  simp only [↓ri_117_22, ↓ri_117_23, ↓ri_117_26, ↓ri_117_28, Option.some.injEq, Prod.mk.injEq, exists_eq_left', exists_eq', exists_and_left, exists_and_right, true_and, and_true, true_or, or_true, and_self, and_assoc, Option.toList_some, Option.toList_none, List.cons_append, List.nil_append, ↓reduceIte, rz_x01, rz_x10, n2, a430, not_false_eq_true, fvp F2 (show 2 < 15 by decide) e2 (by decide)]
  refine rz_alloc (P := fun h => rz_ev (d + 1) 117 31 _ _ h R) F2 e2 (by decide) (fun h3 F3 b3 z3 e3 y3 => ?_)
  have n3 : h3.2.1 = m + 4 := by rw [e3]
  simp only [↓ri_117_31, ↓ri_117_32, ↓ri_117_35, ↓ri_117_37, Option.some.injEq, Prod.mk.injEq, exists_eq_left', exists_eq', exists_and_left, exists_and_right, true_and, and_true, true_or, or_true, and_self, and_assoc, Option.toList_some, Option.toList_none, List.cons_append, List.nil_append, ↓reduceIte, rz_x01, rz_x10, n3, a1720, not_false_eq_true, fvp F3 (show 3 < 15 by decide) e3 (by decide)]
  refine rz_alloc (P := fun h => rz_ev (d + 1) 117 40 _ _ h R) F3 e3 (by decide) (fun h4 F4 b4 z4 e4 y4 => ?_)
  have n4 : h4.2.1 = m + 5 := by rw [e4]
  simp only [↓ri_117_40, ↓ri_117_41, ↓ri_117_44, ↓ri_117_46, Option.some.injEq, Prod.mk.injEq, exists_eq_left', exists_eq', exists_and_left, exists_and_right, true_and, and_true, true_or, or_true, and_self, and_assoc, Option.toList_some, Option.toList_none, List.cons_append, List.nil_append, ↓reduceIte, rz_x01, rz_x10, n4, a430, not_false_eq_true, fvp F4 (show 5 < 15 by decide) e4 (by decide)]
  refine rz_alloc (P := fun h => rz_ev (d + 1) 117 49 _ _ h R) F4 e4 (by decide) (fun h5 F5 b5 z5 e5 y5 => ?_)
  have n5 : h5.2.1 = m + 6 := by rw [e5]
  simp only [↓ri_117_49, ↓ri_117_50, ↓ri_117_52, ↓ri_117_54, Option.some.injEq, Prod.mk.injEq, exists_eq_left', exists_eq', exists_and_left, exists_and_right, true_and, and_true, true_or, or_true, and_self, and_assoc, Option.toList_some, Option.toList_none, List.cons_append, List.nil_append, ↓reduceIte, rz_x01, rz_x10, n5, a60, not_false_eq_true, fvp F5 (show 7 < 15 by decide) e5 (by decide)]
  refine rz_alloc (P := fun h => rz_ev (d + 1) 117 57 _ _ h R) F5 e5 (by decide) (fun h6 F6 b6 z6 e6 y6 => ?_)
  have n6 : h6.2.1 = m + 7 := by rw [e6]
  simp only [↓ri_117_57, ↓ri_117_58, ↓ri_117_60, ↓ri_117_62, Option.some.injEq, Prod.mk.injEq, exists_eq_left', exists_eq', exists_and_left, exists_and_right, true_and, and_true, true_or, or_true, and_self, and_assoc, Option.toList_some, Option.toList_none, List.cons_append, List.nil_append, ↓reduceIte, rz_x01, rz_x10, n6, a96, not_false_eq_true, fvp F6 (show 12 < 15 by decide) e6 (by decide)]
  refine rz_alloc (P := fun h => rz_ev (d + 1) 117 65 _ _ h R) F6 e6 (by decide) (fun h7 F7 b7 z7 e7 y7 => ?_)
  have n7 : h7.2.1 = m + 8 := by rw [e7]
  simp only [↓ri_117_65, ↓ri_117_66, ↓ri_117_68, ↓ri_117_70, Option.some.injEq, Prod.mk.injEq, exists_eq_left', exists_eq', exists_and_left, exists_and_right, true_and, and_true, true_or, or_true, and_self, and_assoc, Option.toList_some, Option.toList_none, List.cons_append, List.nil_append, ↓reduceIte, rz_x01, rz_x10, n7, a12, not_false_eq_true, fvp F7 (show 14 < 15 by decide) e7 (by decide)]
  refine rz_alloc (P := fun h => rz_ev (d + 1) 117 73 _ _ h R) F7 e7 (by decide) (fun h8 F8 b8 z8 e8 y8 => ?_)
  have q9 : rz_fv h8 m 9 9 = some (.int 0) := F8 9 (by decide)
  have G9 := F8.pf (i := 9) (x := .int (-5))
  have q10 : rz_fv (rz_pf h8 m 9 (.int (-5))) m 9 10 = some (.int 0) := G9 10 (by decide)
  have G10 := G9.pf (i := 10) (x := .int (-5))
  simp only [↓ri_117_73, ↓ri_117_74, ↓ri_117_76, ↓ri_117_79, ↓ri_117_80, ↓ri_117_82, ↓ri_117_85, ↓ri_117_86, Option.some.injEq, Prod.mk.injEq, exists_eq_left', exists_eq', exists_and_left, exists_and_right, true_and, and_true, true_or, or_true, and_self, and_assoc, Option.toList_some, Option.toList_none, List.cons_append, List.nil_append, ↓reduceIte, rz_x01, rz_x10, q9, q10]
  have y0 : rz_ex m hp (rz_pf (rz_pf h8 m 9 (.int (-5))) m 10 (.int (-5))) := (((((((((y1.tr y2).tr y3).tr y4).tr y5).tr y6).tr y7).tr y8).tr (rz_ex_pf (Nat.le_refl _))).tr (rz_ex_pf (Nat.le_refl _)))
  have c2 : rz_av h8 (m + 2) = some (0, 430, fun _ => 0) := z8 _ _ (by omega) (by omega) (z7 _ _ (by omega) (by omega) (z6 _ _ (by omega) (by omega) (z5 _ _ (by omega) (by omega) (z4 _ _ (by omega) (by omega) (z3 _ _ (by omega) (by omega) b2)))))
  have c1 : rz_av h8 (m + 1) = some (0, 430, fun _ => 0) := z8 _ _ (by omega) (by omega) (z7 _ _ (by omega) (by omega) (z6 _ _ (by omega) (by omega) (z5 _ _ (by omega) (by omega) (z4 _ _ (by omega) (by omega) (z3 _ _ (by omega) (by omega) (z2 _ _ (by omega) (by omega) b1))))))
  have c3 : rz_av h8 (m + 3) = some (0, 430, fun _ => 0) := z8 _ _ (by omega) (by omega) (z7 _ _ (by omega) (by omega) (z6 _ _ (by omega) (by omega) (z5 _ _ (by omega) (by omega) (z4 _ _ (by omega) (by omega) b3))))
  have c4 : rz_av h8 (m + 4) = some (0, 1720, fun _ => 0) := z8 _ _ (by omega) (by omega) (z7 _ _ (by omega) (by omega) (z6 _ _ (by omega) (by omega) (z5 _ _ (by omega) (by omega) b4)))
  have c5 : rz_av h8 (m + 5) = some (0, 430, fun _ => 0) := z8 _ _ (by omega) (by omega) (z7 _ _ (by omega) (by omega) (z6 _ _ (by omega) (by omega) b5))
  have c6 : rz_av h8 (m + 6) = some (1, 60, fun _ => 0) := z8 _ _ (by omega) (by omega) (z7 _ _ (by omega) (by omega) b6)
  have c7 : rz_av h8 (m + 7) = some (0, 96, fun _ => 0) := z8 _ _ (by omega) (by omega) b7
  have c8 : rz_av h8 (m + 8) = some (0, 12, fun _ => 0) := b8
  have hL : ∀ i, i ≤ 144 → ∀ hp1 f, rz_Fs m 9 15 (fun j => if 10 = j then .int (-5) else if 9 = j then .int (-5) else if 14 = j then .ref (m + 8) else if 12 = j then .ref (m + 7) else if 7 = j then .ref (m + 6) else if 5 = j then .ref (m + 5) else if 3 = j then .ref (m + 4) else if 2 = j then .ref (m + 3) else if 1 = j then .ref (m + 2) else if 0 = j then .ref (m + 1) else if j = 4 ∨ j = 6 ∨ j = 8 ∨ j = 9 ∨ j = 10 ∨ j = 11 ∨ j = 13 then .int 0 else .null) hp1 → rz_av hp1 (m + 1) = some (0, 430, f) → (∀ k, f k = if 40 ≤ k ∧ k < 40 + i then -5 else 0) → (∀ a, m + 1 < a → rz_av hp1 a = rz_av h8 a) → hp1.2 = (m + 9, hp.2.2 + 3608) → rz_ex m hp hp1 → rz_ev (d + 1) 117 87 [some (.ref m), some (.int (nI i))] [] hp1 R := by
    refine rz_down 144 ?_ ?_
    · intro hp1 f G g1 hf ho e y
      have k1 : (144 : Int32) ≤ nI 144 := by decide
      rw [ri_117_87]
      simp only [↓ri_117_88, ↓ri_117_91, ↓ri_117_111, Option.some.injEq, Prod.mk.injEq, exists_eq_left', exists_eq', exists_and_left, exists_and_right, true_and, and_true, true_or, or_true, and_self, and_assoc, Option.toList_some, Option.toList_none, List.cons_append, List.nil_append, ↓reduceIte, rz_x01, rz_x10, ↓if_pos k1]
      refine kk hp1 ⟨⟨G 0 (by decide), G 1 (by decide), G 2 (by decide), G 3 (by decide), G 4 (by decide), G 5 (by decide), G 6 (by decide), G 7 (by decide), G 8 (by decide), G 9 (by decide), G 10 (by decide), G 11 (by decide), G 12 (by decide), G 13 (by decide), G 14 (by decide)⟩, ⟨f, g1, 0, [], Nat.le_refl _, ⟨hf 0, hf 2, hf 3, hf 4, hf 5, hf 6, ⟨by decide, hf 7, fun i x hx => by simp at hx⟩, fun i hi => by rw [hf, if_pos (by omega)]⟩, ⟨by decide, hf 1, fun i z hz => by simp at hz⟩, ⟨[], rfl, List.Perm.refl _, List.Pairwise.nil, fun y hy => absurd hy (List.not_mem_nil)⟩⟩, ⟨_, by rw [ho _ (by omega)]; exact c2⟩, ⟨_, by rw [ho _ (by omega)]; exact c3⟩, ⟨by decide, _, by rw [ho _ (by omega)]; exact c4, fun i x hx => by simp at hx⟩, ⟨_, by rw [ho _ (by omega)]; exact c5, fun x hx => by cases hx⟩, ⟨by decide, _, by rw [ho _ (by omega)]; exact c6, fun i x hx => by simp at hx⟩, ⟨by decide, _, by rw [ho _ (by omega)]; exact c7, fun i x hx => by simp at hx⟩, ⟨_, by rw [ho _ (by omega)]; exact c8⟩⟩ e y
    · intro i hi ih hp1 f G g1 hf ho e y
      have k1 : ¬ (144 : Int32) ≤ nI i := nI_ge (b := 144) hi (by decide)
      have g0 : rz_fv hp1 m 9 0 = some (.ref (m + 1)) := G 0 (by decide)
      have e2 : (40 : Int32) + nI i = nI (40 + i) := nI_add 40 i
      have v2 : vp_in (nI (40 + i)) 430 := vp_in_nI (by omega) (by decide)
      have k2 : (nI (40 + i)).toNatClampNeg = 40 + i := nI_clamp (by omega)
      have s3 : rz_sm (m + 1) (m + 2) hp1 (rz_pa hp1 (m + 1) (upd f (40 + i) (-5))) := rz_sm_pa (by omega) (by omega)
      rw [ri_117_87]
      simp only [↓ri_117_88, ↓ri_117_91, ↓ri_117_94, ↓ri_117_95, ↓ri_117_98, ↓ri_117_100, ↓ri_117_101, ↓ri_117_102, ↓ri_117_104, ↓ri_117_105, ↓ri_117_108, Option.some.injEq, Prod.mk.injEq, exists_eq_left', exists_eq', exists_and_left, exists_and_right, true_and, and_true, true_or, or_true, and_self, and_assoc, Option.toList_some, Option.toList_none, List.cons_append, List.nil_append, ↓reduceIte, rz_x01, rz_x10, ↓if_neg k1, g0, g1, e2, v2, k2, nI_1]
      refine ih _ (upd f (40 + i) (-5)) (fun j hj => by rw [rz_fv_pa]; exact G j hj) (rz_avS g1) (fun k => ?_) (fun a ha => by rw [s3.av (by omega)]; exact ho a ha) e (y.tr (rz_ex_sm s3 (by omega)))
      by_cases q : k = 40 + i
      · subst q; rw [pk_us, if_pos (by omega)]
      · rw [pk_un q, hf]
        by_cases q2 : 40 ≤ k ∧ k < 40 + i
        · rw [if_pos q2, if_pos (by omega)]
        · rw [if_neg q2, if_neg (by omega)]
  have := hL 0 (Nat.zero_le _) _ (fun _ => 0) (G10.of (fun j hj => rfl)) (by rw [rz_av_pf, rz_av_pf]; exact c1) (fun k => by rw [if_neg (by omega)]) (fun a ha => by rw [rz_av_pf, rz_av_pf]) (by
    show h8.2 = _
    rw [e8]) y0
  rw [nI_0] at this
  exact this
end RZMN
