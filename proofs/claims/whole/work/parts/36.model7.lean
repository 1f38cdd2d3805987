/-! RisingPilesModel: orders are read and carried out -/
theorem rz_rn_b {tx : List Int32} {most : Nat} : ∀ (k : Nat) (v : Option Nat) (i : Nat), (∀ n, v = some n → n ≤ most) → ∀ n, (rz_rn tx most k v i).1 = some n → n ≤ most := by
  intro k
  induction k with
  | zero => exact fun v i h n hn => h n hn
  | succ k ih =>
    intro v i h n hn
    unfold rz_rn at hn
    split at hn
    · exact h n hn
    · split at hn
      · exact h n hn
      · next hlt => exact ih _ _ (fun n hn => by cases hn; omega) n hn
theorem rz_rn_nO {tx : List Int32} {most i : Nat} (hm : most ≤ 65535) {n : Nat} (h : (rz_rn tx most 60 none i).1 = some n) : ¬ nI n = -5 := rz_ne5 (by have := rz_rn_b 60 none i (fun n hn => by cases hn) n h; omega)
def rz_kd4 (k : Int32) : Prop := k = 43 ∨ k = 45 ∨ k = 60 ∨ k = 120
theorem rz_ro_kd {tx : List Int32} {i j : Nat} {o : rz_Or} (h : rz_ro tx i = (some o, j)) : rz_kd4 o.1 := by
  unfold rz_ro at h
  split at h
  · unfold rz_rA at h
    split at h
    · cases h
    · split at h
      · split at h
        · cases h
        · cases h; exact Or.inl rfl
      · cases h; exact Or.inl rfl
  · split at h
    · cases h; exact Or.inr (Or.inl rfl)
    · split at h
      · unfold rz_rL at h
        split at h
        · cases h
        · split at h
          · split at h
            · cases h
            · cases h; exact Or.inr (Or.inr (Or.inl rfl))
          · cases h
      · split at h
        · unfold rz_rX at h
          split at h
          · cases h
          · cases h; exact Or.inr (Or.inr (Or.inr rfl))
        · cases h
theorem rz_rt_kd {tx : List Int32} : ∀ (n i : Nat) (os : List rz_Or), (∀ o ∈ os, rz_kd4 o.1) → ∀ o ∈ (rz_rt tx n i os).2, rz_kd4 o.1 := by
  intro n
  induction n with
  | zero => exact fun i os h => h
  | succ n ih =>
    intro i os h
    unfold rz_rt
    have app : ∀ o2 : rz_Or, rz_kd4 o2.1 → ∀ o ∈ os ++ [o2], rz_kd4 o.1 := fun o2 ho2 o ho => by
      rcases List.mem_append.mp ho with q | q
      · exact h o q
      · rw [List.mem_singleton] at q; subst q; exact ho2
    cases hro : rz_ro tx i with
    | mk r j =>
      cases r with
      | none => exact h
      | some o2 =>
        have hk := rz_ro_kd hro
        dsimp only
        split
        · exact app o2 hk
        · split
          · exact ih _ _ (app o2 hk)
          · exact app o2 hk
theorem rz_rn_ge {tx : List Int32} {most : Nat} : ∀ (k : Nat) (v : Option Nat) (i : Nat), i ≤ (rz_rn tx most k v i).2 := by
  intro k
  induction k with
  | zero => exact fun v i => Nat.le_refl _
  | succ k ih =>
    intro v i
    unfold rz_rn
    split
    · exact Nat.le_refl _
    · split
      · exact Nat.le_refl _
      · exact Nat.le_trans (Nat.le_succ i) (ih _ _)
theorem rz_ro_gt {tx : List Int32} {i j : Nat} {o : rz_Or} (h : rz_ro tx i = (some o, j)) : i + 1 ≤ j := by
  have g := fun most => rz_rn_ge (tx := tx) (most := most) 60 none (i + 1)
  unfold rz_ro at h
  split at h
  · unfold rz_rA at h
    split at h
    · cases h
    · next k j2 e =>
      have g1 := g 65535
      rw [e] at g1
      split at h
      · have g2 := rz_rn_ge (tx := tx) (most := 999) 60 none (j2 + 1)
        split at h
        · cases h
        · next e2 =>
          rw [e2] at g2
          cases h
          exact Nat.le_trans g1 (Nat.le_trans (Nat.le_succ _) g2)
      · cases h; exact g1
  · split at h
    · cases h; exact Nat.le_refl _
    · split at h
      · unfold rz_rL at h
        split at h
        · cases h
        · next k j2 e =>
          have g1 := g 999
          rw [e] at g1
          split at h
          · have g2 := rz_rn_ge (tx := tx) (most := 65535) 60 none (j2 + 1)
            split at h
            · cases h
            · next e2 =>
              rw [e2] at g2
              cases h
              exact Nat.le_trans g1 (Nat.le_trans (Nat.le_succ _) g2)
          · cases h
      · split at h
        · unfold rz_rX at h
          split at h
          · cases h
          · next k j2 e =>
            have g1 := g 999
            rw [e] at g1
            cases h
            exact g1
        · cases h
section RZMD
variable {d a m lo hi n : Nat} {f f2 g : Nat → Int32} {hp h1 : rz_Hp} {R : Option Value → rz_Hp → Prop} {s s2 x : rz_AS} {hist : List rz_AS} {shot : Option rz_AS} {tx : List Int32} {ro re sp sv sh le od : Int32} {os : List rz_Or} {B B2 : Nat} {Z : List rz_Zt} {L : List rz_En} {fl am : Int32} {lat : List rz_La} {rd : Nat → Int32} {laid ci co tb : Int32}
set_option maxHeartbeats 4000000 in
set_option maxRecDepth 100000 in
theorem m_M_readsOrder {i : Nat} (h : rz_MM m s hist shot tx ro re (nI i) os B hp) (hi : i ≤ 60) (ho : os.length < 32) (kk0 : ∀ hp' j, rz_ro tx i = (none, j) → rz_MM m s hist shot tx ro re (nI j) os B hp' → rz_sm m (m + 9) hp hp' → R (some (.int 0)) hp') (kk1 : ∀ hp' o j, rz_ro tx i = (some o, j) → rz_MM m s hist shot tx ro re (nI j) (os ++ [o]) B hp' → rz_sm m (m + 9) hp hp' → R (some (.int 1)) hp') : rz_ev (d + 3) 161 0 [some (.ref m), none] [] hp R := by
  have f0 := h.1.1
  have htx := h.2.2.2.2.2.2.1.1
  have z10 : ¬ (1 : Int32) = 0 := by decide
  have zn : ¬ (0 : Int32) = -5 := by decide
  have z5 : ¬ ¬ (-5 : Int32) = -5 := fun q => q rfl
  have c5 : (-5 : Int32) = -5 := rfl
  unfold rz_ro at kk0 kk1
  simp only [↓ri_161_0, ↓ri_161_1, ↓ri_161_3, Option.some.injEq, Prod.mk.injEq, exists_eq_left', exists_eq', exists_and_left, exists_and_right, true_and, and_true, true_or, or_true, and_self, and_assoc, Option.toList_some, Option.toList_none, List.cons_append, List.nil_append, ↓reduceIte, rz_x01, rz_x10, rz_co_fv f0]
  refine m_M_takes (d := d) h (by omega) (by decide) (fun hs h2 k2 s2 => ?_) (fun hs h2 k2 s2 => ?_)
  · -- '-'
    have n43 : ¬ rz_sg tx i = 43 := by rw [hs]; decide
    rw [if_neg n43, if_pos hs] at kk0 kk1
    simp only [↓ri_161_6, ↓ri_161_9, ↓ri_161_10, ↓ri_161_12, ↓ri_161_13, ↓ri_161_14, ↓ri_161_17, Option.some.injEq, Prod.mk.injEq, exists_eq_left', exists_eq', exists_and_left, exists_and_right, true_and, and_true, true_or, or_true, and_self, and_assoc, Option.toList_some, Option.toList_none, List.cons_append, List.nil_append, ↓reduceIte, rz_x01, rz_x10, ↓if_neg z10, rz_co_fv k2.1.1]
    refine m_M_laysOrder1 (d := d + 2) k2 zn zn ho (fun h3 k3 s3 => ?_)
    simp only [↓ri_161_17, Option.some.injEq, Prod.mk.injEq, exists_eq_left', exists_eq', exists_and_left, exists_and_right, true_and, and_true, true_or, or_true, and_self, and_assoc, Option.toList_some, Option.toList_none, List.cons_append, List.nil_append, ↓reduceIte, rz_x01, rz_x10]
    exact kk1 h3 _ _ rfl k3 (s2.tr s3)
  · simp only [↓ri_161_6, ↓ri_161_9, ↓ri_161_10, ↓ri_161_12, ↓ri_161_13, ↓ri_161_14, ↓ri_161_17, ↓ri_161_18, ↓ri_161_19, ↓ri_161_21, Option.some.injEq, Prod.mk.injEq, exists_eq_left', exists_eq', exists_and_left, exists_and_right, true_and, and_true, true_or, or_true, and_self, and_assoc, Option.toList_some, Option.toList_none, List.cons_append, List.nil_append, ↓reduceIte, rz_x01, rz_x10, rz_co_fv k2.1.1]
    refine m_M_takes (d := d) k2 (by omega) (by decide) (fun hs' h3 k3 s3 => ?_) (fun hs' h3 k3 s3 => ?_)
    · -- 'x'
      have n43 : ¬ rz_sg tx i = 43 := by rw [hs']; decide
      have n60 : ¬ rz_sg tx i = 60 := by rw [hs']; decide
      rw [if_neg n43, if_neg hs, if_neg n60, if_pos hs'] at kk0 kk1
      unfold rz_rX at kk0 kk1
      simp only [↓ri_161_24, ↓ri_161_27, ↓ri_161_28, ↓ri_161_30, ↓ri_161_31, ↓ri_161_34, Option.some.injEq, Prod.mk.injEq, exists_eq_left', exists_eq', exists_and_left, exists_and_right, true_and, and_true, true_or, or_true, and_self, and_assoc, Option.toList_some, Option.toList_none, List.cons_append, List.nil_append, ↓reduceIte, rz_x01, rz_x10, ↓if_neg z10, rz_co_fv k3.1.1]
      refine m_M_number (d := d) (most := 999) (by decide) (by decide) (by omega) k3 (fun h4 k4 s4 => ?_)
      cases hrn : rz_rn tx 999 60 none (i + 1) with
      | mk v j =>
        simp only [hrn] at kk0 kk1 k4 ⊢
        cases v with
        | none =>
          have ol := fun R => m_M_laysOrder0 (d := d + 2) (m := m) (hp := h4) (c := 120) (v := -5) (w := 0) (Or.inl rfl) (R := R)
          simp only [↓ri_161_37, ↓ri_161_38, ↓ri_161_41, Option.some.injEq, Prod.mk.injEq, exists_eq_left', exists_eq', exists_and_left, exists_and_right, true_and, and_true, true_or, or_true, and_self, and_assoc, Option.toList_some, Option.toList_none, List.cons_append, List.nil_append, ↓reduceIte, rz_x01, rz_x10, rz_nO, rz_co_fv k4.1.1, ol]
          exact kk0 h4 j rfl k4 ((s2.tr s3).tr s4)
        | some k =>
          have hk : ¬ nI k = -5 := rz_rn_nO (tx := tx) (most := 999) (i := i + 1) (by decide) (by rw [hrn])
          simp only [↓ri_161_37, ↓ri_161_38, Option.some.injEq, Prod.mk.injEq, exists_eq_left', exists_eq', exists_and_left, exists_and_right, true_and, and_true, true_or, or_true, and_self, and_assoc, Option.toList_some, Option.toList_none, List.cons_append, List.nil_append, ↓reduceIte, rz_x01, rz_x10, rz_nO, rz_co_fv k4.1.1]
          refine m_M_laysOrder1 (d := d + 2) k4 hk zn ho (fun h5 k5 s5 => ?_)
          simp only [↓ri_161_41, Option.some.injEq, Prod.mk.injEq, exists_eq_left', exists_eq', exists_and_left, exists_and_right, true_and, and_true, true_or, or_true, and_self, and_assoc, Option.toList_some, Option.toList_none, List.cons_append, List.nil_append, ↓reduceIte, rz_x01, rz_x10]
          exact kk1 h5 _ j rfl k5 (((s2.tr s3).tr s4).tr s5)
    · simp only [↓ri_161_24, ↓ri_161_27, ↓ri_161_28, ↓ri_161_30, ↓ri_161_31, ↓ri_161_34, ↓ri_161_37, ↓ri_161_38, ↓ri_161_41, ↓ri_161_42, ↓ri_161_43, ↓ri_161_45, Option.some.injEq, Prod.mk.injEq, exists_eq_left', exists_eq', exists_and_left, exists_and_right, true_and, and_true, true_or, or_true, and_self, and_assoc, Option.toList_some, Option.toList_none, List.cons_append, List.nil_append, ↓reduceIte, rz_x01, rz_x10, rz_co_fv k3.1.1]
      refine m_M_takes (d := d) k3 (by omega) (by decide) (fun hs'' h4 k4 s4 => ?_) (fun hs'' h4 k4 s4 => ?_)
      · -- '+'
        rw [if_pos hs''] at kk0 kk1
        unfold rz_rA at kk0 kk1
        simp only [↓ri_161_48, ↓ri_161_51, ↓ri_161_52, ↓ri_161_54, Option.some.injEq, Prod.mk.injEq, exists_eq_left', exists_eq', exists_and_left, exists_and_right, true_and, and_true, true_or, or_true, and_self, and_assoc, Option.toList_some, Option.toList_none, List.cons_append, List.nil_append, ↓reduceIte, rz_x01, rz_x10, ↓if_neg z10, rz_co_fv k4.1.1]
        refine m_M_number (d := d) (most := 65535) (by decide) (by decide) (by omega) k4 (fun h5 k5 s5 => ?_)
        have hjl := rz_rn_le tx 65535 60 none (i + 1) (rz_sg_in (by rw [hs'']; decide))
        cases hrn : rz_rn tx 65535 60 none (i + 1) with
        | mk v j =>
          rw [hrn] at hjl
          simp only [hrn] at kk0 kk1 k5 ⊢
          cases v with
          | none =>
            have ol := fun R => m_M_laysOrder0 (d := d + 2) (m := m) (hp := h5) (c := 43) (v := -5) (w := 0) (Or.inl rfl) (R := R)
            simp only [↓ri_161_57, ↓ri_161_58, ↓ri_161_59, ↓ri_161_61, ↓ri_161_62, ↓ri_161_63, ↓ri_161_65, ↓ri_161_87, ↓ri_161_88, ↓ri_161_91, Option.some.injEq, Prod.mk.injEq, exists_eq_left', exists_eq', exists_and_left, exists_and_right, true_and, and_true, true_or, or_true, and_self, and_assoc, Option.toList_some, Option.toList_none, List.cons_append, List.nil_append, ↓reduceIte, rz_x01, rz_x10, rz_nO, rz_co_fv k5.1.1, ↓if_pos c5, ol]
            exact kk0 h5 j rfl k5 (((s2.tr s3).tr s4).tr s5)
          | some k =>
            have hk : ¬ nI k = -5 := rz_rn_nO (tx := tx) (most := 65535) (i := i + 1) (by decide) (by rw [hrn])
            simp only [↓ri_161_57, ↓ri_161_58, ↓ri_161_59, ↓ri_161_61, ↓ri_161_62, ↓ri_161_63, ↓ri_161_65, ↓ri_161_68, ↓ri_161_69, ↓ri_161_71, Option.some.injEq, Prod.mk.injEq, exists_eq_left', exists_eq', exists_and_left, exists_and_right, true_and, and_true, true_or, or_true, and_self, and_assoc, Option.toList_some, Option.toList_none, List.cons_append, List.nil_append, ↓reduceIte, rz_x01, rz_x10, rz_nO, rz_co_fv k5.1.1, ↓if_neg hk]
            refine m_M_takes (d := d) k5 (by omega) (by decide) (fun h58 h6 k6 s6 => ?_) (fun h58 h6 k6 s6 => ?_)
            · simp only [if_pos h58] at kk0 kk1
              simp only [↓ri_161_74, ↓ri_161_77, ↓ri_161_78, ↓ri_161_81, Option.some.injEq, Prod.mk.injEq, exists_eq_left', exists_eq', exists_and_left, exists_and_right, true_and, and_true, true_or, or_true, and_self, and_assoc, Option.toList_some, Option.toList_none, List.cons_append, List.nil_append, ↓reduceIte, rz_x01, rz_x10, ↓if_neg z10, rz_co_fv k6.1.1]
              refine m_M_number (d := d) (most := 999) (by decide) (by decide) (by omega) k6 (fun h7 k7 s7 => ?_)
              cases hrn2 : rz_rn tx 999 60 none (j + 1) with
              | mk v2 j2 =>
                simp only [hrn2] at kk0 kk1 k7 ⊢
                cases v2 with
                | none =>
                  have ol := fun R => m_M_laysOrder0 (d := d + 2) (m := m) (hp := h7) (c := 43) (v := nI k) (w := -5) (Or.inr rfl) (R := R)
                  simp only [↓ri_161_84, ↓ri_161_87, ↓ri_161_88, ↓ri_161_91, Option.some.injEq, Prod.mk.injEq, exists_eq_left', exists_eq', exists_and_left, exists_and_right, true_and, and_true, true_or, or_true, and_self, and_assoc, Option.toList_some, Option.toList_none, List.cons_append, List.nil_append, ↓reduceIte, rz_x01, rz_x10, rz_nO, rz_co_fv k7.1.1, ol]
                  exact kk0 h7 j2 rfl k7 (((((s2.tr s3).tr s4).tr s5).tr s6).tr s7)
                | some k2' =>
                  have hk2 : ¬ nI k2' = -5 := rz_rn_nO (tx := tx) (most := 999) (i := j + 1) (by decide) (by rw [hrn2])
                  simp only [↓ri_161_84, ↓ri_161_87, ↓ri_161_88, Option.some.injEq, Prod.mk.injEq, exists_eq_left', exists_eq', exists_and_left, exists_and_right, true_and, and_true, true_or, or_true, and_self, and_assoc, Option.toList_some, Option.toList_none, List.cons_append, List.nil_append, ↓reduceIte, rz_x01, rz_x10, rz_nO, rz_co_fv k7.1.1]
                  refine m_M_laysOrder1 (d := d + 2) k7 hk hk2 ho (fun h8 k8 s8 => ?_)
                  simp only [↓ri_161_91, Option.some.injEq, Prod.mk.injEq, exists_eq_left', exists_eq', exists_and_left, exists_and_right, true_and, and_true, true_or, or_true, and_self, and_assoc, Option.toList_some, Option.toList_none, List.cons_append, List.nil_append, ↓reduceIte, rz_x01, rz_x10]
                  exact kk1 h8 _ j2 rfl k8 ((((((s2.tr s3).tr s4).tr s5).tr s6).tr s7).tr s8)
            · simp only [if_neg h58] at kk0 kk1
              simp only [↓ri_161_74, ↓ri_161_87, ↓ri_161_88, Option.some.injEq, Prod.mk.injEq, exists_eq_left', exists_eq', exists_and_left, exists_and_right, true_and, and_true, true_or, or_true, and_self, and_assoc, Option.toList_some, Option.toList_none, List.cons_append, List.nil_append, ↓reduceIte, rz_x01, rz_x10, rz_co_fv k6.1.1]
              refine m_M_laysOrder1 (d := d + 2) k6 hk zn ho (fun h8 k8 s8 => ?_)
              simp only [↓ri_161_91, Option.some.injEq, Prod.mk.injEq, exists_eq_left', exists_eq', exists_and_left, exists_and_right, true_and, and_true, true_or, or_true, and_self, and_assoc, Option.toList_some, Option.toList_none, List.cons_append, List.nil_append, ↓reduceIte, rz_x01, rz_x10]
              exact kk1 h8 _ j rfl k8 (((((s2.tr s3).tr s4).tr s5).tr s6).tr s8)
      · simp only [↓ri_161_48, ↓ri_161_92, ↓ri_161_93, ↓ri_161_95, Option.some.injEq, Prod.mk.injEq, exists_eq_left', exists_eq', exists_and_left, exists_and_right, true_and, and_true, true_or, or_true, and_self, and_assoc, Option.toList_some, Option.toList_none, List.cons_append, List.nil_append, ↓reduceIte, rz_x01, rz_x10, rz_co_fv k4.1.1]
        refine m_M_takes (d := d) k4 (by omega) (by decide) (fun hs3 h5 k5 s5 => ?_) (fun hs3 h5 k5 s5 => ?_)
        · -- '<'
          rw [if_neg hs'', if_neg hs, if_pos hs3] at kk0 kk1
          unfold rz_rL at kk0 kk1
          simp only [↓ri_161_98, ↓ri_161_101, ↓ri_161_102, ↓ri_161_103, ↓ri_161_104, ↓ri_161_107, Option.some.injEq, Prod.mk.injEq, exists_eq_left', exists_eq', exists_and_left, exists_and_right, true_and, and_true, true_or, or_true, and_self, and_assoc, Option.toList_some, Option.toList_none, List.cons_append, List.nil_append, ↓reduceIte, rz_x01, rz_x10, ↓if_neg z10, rz_co_fv k5.1.1]
          refine m_M_number (d := d) (most := 999) (by decide) (by decide) (by omega) k5 (fun h6 k6 s6 => ?_)
          have hjl := rz_rn_le tx 999 60 none (i + 1) (rz_sg_in (by rw [hs3]; decide))
          cases hrn : rz_rn tx 999 60 none (i + 1) with
          | mk v j =>
            rw [hrn] at hjl
            simp only [hrn] at kk0 kk1 k6 ⊢
            cases v with
            | none =>
              have ol := fun R => m_M_laysOrder0 (d := d + 2) (m := m) (hp := h6) (c := 60) (v := -5) (w := -5) (Or.inl rfl) (R := R)
              simp only [↓ri_161_110, ↓ri_161_111, ↓ri_161_112, ↓ri_161_114, ↓ri_161_115, ↓ri_161_116, ↓ri_161_118, ↓ri_161_139, ↓ri_161_141, ↓ri_161_144, Option.some.injEq, Prod.mk.injEq, exists_eq_left', exists_eq', exists_and_left, exists_and_right, true_and, and_true, true_or, or_true, and_self, and_assoc, Option.toList_some, Option.toList_none, List.cons_append, List.nil_append, ↓reduceIte, rz_x01, rz_x10, rz_nO, rz_co_fv k6.1.1, ↓if_pos c5, ol]
              exact kk0 h6 j rfl k6 ((((s2.tr s3).tr s4).tr s5).tr s6)
            | some k =>
              have hk : ¬ nI k = -5 := rz_rn_nO (tx := tx) (most := 999) (i := i + 1) (by decide) (by rw [hrn])
              simp only [↓ri_161_110, ↓ri_161_111, ↓ri_161_112, ↓ri_161_114, ↓ri_161_115, ↓ri_161_116, ↓ri_161_118, ↓ri_161_121, ↓ri_161_122, ↓ri_161_124, Option.some.injEq, Prod.mk.injEq, exists_eq_left', exists_eq', exists_and_left, exists_and_right, true_and, and_true, true_or, or_true, and_self, and_assoc, Option.toList_some, Option.toList_none, List.cons_append, List.nil_append, ↓reduceIte, rz_x01, rz_x10, rz_nO, rz_co_fv k6.1.1, ↓if_neg hk]
              refine m_M_takes (d := d) k6 (by omega) (by decide) (fun h61 h7 k7 s7 => ?_) (fun h61 h7 k7 s7 => ?_)
              · simp only [if_pos h61] at kk0 kk1
                simp only [↓ri_161_127, ↓ri_161_130, ↓ri_161_131, ↓ri_161_133, Option.some.injEq, Prod.mk.injEq, exists_eq_left', exists_eq', exists_and_left, exists_and_right, true_and, and_true, true_or, or_true, and_self, and_assoc, Option.toList_some, Option.toList_none, List.cons_append, List.nil_append, ↓reduceIte, rz_x01, rz_x10, ↓if_neg z10, rz_co_fv k7.1.1]
                refine m_M_number (d := d) (most := 65535) (by decide) (by decide) (by omega) k7 (fun h8 k8 s8 => ?_)
                cases hrn2 : rz_rn tx 65535 60 none (j + 1) with
                | mk v2 j2 =>
                  simp only [hrn2] at kk0 kk1 k8 ⊢
                  cases v2 with
                  | none =>
                    have ol := fun R => m_M_laysOrder0 (d := d + 2) (m := m) (hp := h8) (c := 60) (v := nI k) (w := -5) (Or.inr rfl) (R := R)
                    simp only [↓ri_161_136, ↓ri_161_141, ↓ri_161_144, Option.some.injEq, Prod.mk.injEq, exists_eq_left', exists_eq', exists_and_left, exists_and_right, true_and, and_true, true_or, or_true, and_self, and_assoc, Option.toList_some, Option.toList_none, List.cons_append, List.nil_append, ↓reduceIte, rz_x01, rz_x10, rz_nO, rz_co_fv k8.1.1, ol]
                    exact kk0 h8 j2 rfl k8 ((((((s2.tr s3).tr s4).tr s5).tr s6).tr s7).tr s8)
                  | some k2' =>
                    have hk2 : ¬ nI k2' = -5 := rz_rn_nO (tx := tx) (most := 65535) (i := j + 1) (by decide) (by rw [hrn2])
                    simp only [↓ri_161_136, ↓ri_161_141, Option.some.injEq, Prod.mk.injEq, exists_eq_left', exists_eq', exists_and_left, exists_and_right, true_and, and_true, true_or, or_true, and_self, and_assoc, Option.toList_some, Option.toList_none, List.cons_append, List.nil_append, ↓reduceIte, rz_x01, rz_x10, rz_nO, rz_co_fv k8.1.1]
                    refine m_M_laysOrder1 (d := d + 2) k8 hk hk2 ho (fun h9 k9 s9 => ?_)
                    simp only [↓ri_161_144, Option.some.injEq, Prod.mk.injEq, exists_eq_left', exists_eq', exists_and_left, exists_and_right, true_and, and_true, true_or, or_true, and_self, and_assoc, Option.toList_some, Option.toList_none, List.cons_append, List.nil_append, ↓reduceIte, rz_x01, rz_x10]
                    exact kk1 h9 _ j2 rfl k9 (((((((s2.tr s3).tr s4).tr s5).tr s6).tr s7).tr s8).tr s9)
              · simp only [if_neg h61] at kk0 kk1
                have ol := fun R => m_M_laysOrder0 (d := d + 2) (m := m) (hp := h7) (c := 60) (v := nI k) (w := -5) (Or.inr rfl) (R := R)
                simp only [↓ri_161_127, ↓ri_161_139, ↓ri_161_141, ↓ri_161_144, Option.some.injEq, Prod.mk.injEq, exists_eq_left', exists_eq', exists_and_left, exists_and_right, true_and, and_true, true_or, or_true, and_self, and_assoc, Option.toList_some, Option.toList_none, List.cons_append, List.nil_append, ↓reduceIte, rz_x01, rz_x10, rz_co_fv k7.1.1, ol]
                exact kk0 h7 j rfl k7 (((((s2.tr s3).tr s4).tr s5).tr s6).tr s7)
        · rw [if_neg hs'', if_neg hs, if_neg hs3, if_neg hs'] at kk0
          simp only [↓ri_161_98, ↓ri_161_101, ↓ri_161_102, Option.some.injEq, Prod.mk.injEq, exists_eq_left', exists_eq', exists_and_left, exists_and_right, true_and, and_true, true_or, or_true, and_self, and_assoc, Option.toList_some, Option.toList_none, List.cons_append, List.nil_append, ↓reduceIte, rz_x01, rz_x10]
          exact kk0 h5 i rfl k5 (((s2.tr s3).tr s4).tr s5)
theorem rz_sg_end {i : Nat} (hc : ∀ c ∈ tx, 0 ≤ c) : rz_sg tx i = -1 ↔ tx.length ≤ i := by
  constructor
  · intro h
    refine Nat.not_lt.mp (fun q => ?_)
    have h1 : rz_sg tx i = tx[i] := by unfold rz_sg; rw [List.getD_eq_getElem?_getD, List.getElem?_eq_getElem q]; rfl
    have h2 := hc tx[i] (List.getElem_mem q)
    rw [← h1, h] at h2
    exact absurd h2 (by decide)
  · intro h
    unfold rz_sg; rw [List.getD_eq_getElem?_getD, List.getElem?_eq_none h]; rfl
set_option maxHeartbeats 4000000 in
set_option maxRecDepth 100000 in
theorem m_M_isText_loop (hc : ∀ c ∈ tx, 0 ≤ c) (kk0 : ∀ hp' os' j, (rz_rt tx 30 0 []).1 = some j → os'.length ≤ 32 → rz_MM m s hist shot tx ro re (nI j) os' B hp' → rz_sm m (m + 9) hp hp' → R (some (.int 0)) hp') (kk1 : ∀ hp' sp', (rz_rt tx 30 0 []).1 = none → rz_MM m s hist shot tx ro re sp' (rz_rt tx 30 0 []).2 B hp' → rz_sm m (m + 9) hp hp' → R (some (.int 1)) hp') : ∀ (n i : Nat) (os : List rz_Or) (hp1 : rz_Hp), rz_rt tx 30 0 [] = rz_rt tx n i os → 60 ≤ i + 2 * n → i ≤ tx.length → os.length + n ≤ 30 → rz_MM m s hist shot tx ro re (nI i) os B hp1 → rz_sm m (m + 9) hp hp1 → rz_ev (d + 4) 162 12 [some (.ref m), some (.int 1)] [] hp1 R := by
  intro n
  have z10 : ¬ (1 : Int32) = 0 := by decide
  induction n with
  | zero =>
    intro i os hp1 heq h60 hi ho h hs
    have htx := h.2.2.2.2.2.2.1.1
    have e1 : rz_sg tx i = -1 := (rz_sg_end hc).mpr (by omega)
    rw [ri_162_12]
    simp only [↓ri_162_13, ↓ri_162_16, ↓ri_162_17, Option.some.injEq, Prod.mk.injEq, exists_eq_left', exists_eq', exists_and_left, exists_and_right, true_and, and_true, true_or, or_true, and_self, and_assoc, Option.toList_some, Option.toList_none, List.cons_append, List.nil_append, ↓reduceIte, rz_x01, rz_x10, ↓if_neg z10, rz_co_fv h.1.1]
    refine m_M_readsOrder (d := d) h (by omega) (by omega) (fun h2 j hro k2 s2 => ?_) (fun h2 o j hro k2 s2 => ?_)
    · simp only [↓ri_162_20, ↓ri_162_23, ↓ri_162_24, Option.some.injEq, Prod.mk.injEq, exists_eq_left', exists_eq', exists_and_left, exists_and_right, true_and, and_true, true_or, or_true, and_self, and_assoc, Option.toList_some, Option.toList_none, List.cons_append, List.nil_append, ↓reduceIte, rz_x01, rz_x10]
      have hij : j = i := by
        unfold rz_ro at hro
        rw [if_neg (by rw [e1]; decide), if_neg (by rw [e1]; decide), if_neg (by rw [e1]; decide), if_neg (by rw [e1]; decide)] at hro
        cases hro; rfl
      subst hij
      exact kk0 h2 os j (by rw [heq]; rfl) (by omega) k2 (hs.tr s2)
    · unfold rz_ro at hro
      rw [if_neg (by rw [e1]; decide), if_neg (by rw [e1]; decide), if_neg (by rw [e1]; decide), if_neg (by rw [e1]; decide)] at hro
      cases hro
  | succ n ih =>
    intro i os hp1 heq h60 hi ho h hs
    have htx := h.2.2.2.2.2.2.1.1
    rw [ri_162_12]
    simp only [↓ri_162_13, ↓ri_162_16, ↓ri_162_17, Option.some.injEq, Prod.mk.injEq, exists_eq_left', exists_eq', exists_and_left, exists_and_right, true_and, and_true, true_or, or_true, and_self, and_assoc, Option.toList_some, Option.toList_none, List.cons_append, List.nil_append, ↓reduceIte, rz_x01, rz_x10, ↓if_neg z10, rz_co_fv h.1.1]
    refine m_M_readsOrder (d := d) h (by omega) (by omega) (fun h2 j hro k2 s2 => ?_) (fun h2 o j hro k2 s2 => ?_)
    · simp only [↓ri_162_20, ↓ri_162_23, ↓ri_162_24, Option.some.injEq, Prod.mk.injEq, exists_eq_left', exists_eq', exists_and_left, exists_and_right, true_and, and_true, true_or, or_true, and_self, and_assoc, Option.toList_some, Option.toList_none, List.cons_append, List.nil_append, ↓reduceIte, rz_x01, rz_x10]
      refine kk0 h2 os j ?_ (by omega) k2 (hs.tr s2)
      rw [heq]
      unfold rz_rt
      rw [hro]
    · have hjl := rz_ro_le hi
      rw [hro] at hjl
      replace hjl : j ≤ tx.length := hjl
      have hgt : i + 1 ≤ j := rz_ro_gt hro
      have hrt : rz_rt tx (n + 1) i os = if rz_sg tx j = -1 then (none, os ++ [o]) else if rz_sg tx j = 44 then rz_rt tx n (j + 1) (os ++ [o]) else (some j, os ++ [o]) := by
        conv => lhs; unfold rz_rt
        rw [hro]
      rw [hrt] at heq
      simp only [↓ri_162_20, ↓ri_162_23, ↓ri_162_24, ↓ri_162_25, ↓ri_162_26, ↓ri_162_28, Option.some.injEq, Prod.mk.injEq, exists_eq_left', exists_eq', exists_and_left, exists_and_right, true_and, and_true, true_or, or_true, and_self, and_assoc, Option.toList_some, Option.toList_none, List.cons_append, List.nil_append, ↓reduceIte, rz_x01, rz_x10, ↓if_neg z10, rz_co_fv k2.1.1]
      refine m_M_takes (d := d + 1) k2 (by omega) (by decide) (fun h44 h3 k3 s3 => ?_) (fun h44 h3 k3 s3 => ?_)
      · have h1 : ¬ rz_sg tx j = -1 := by rw [h44]; decide
        rw [if_neg h1, if_pos h44] at heq
        simp only [↓ri_162_31, ↓ri_162_32, Option.some.injEq, Prod.mk.injEq, exists_eq_left', exists_eq', exists_and_left, exists_and_right, true_and, and_true, true_or, or_true, and_self, and_assoc, Option.toList_some, Option.toList_none, List.cons_append, List.nil_append, ↓reduceIte, rz_x01, rz_x10]
        exact ih (j + 1) (os ++ [o]) h3 heq (by omega) (rz_sg_in h1) (by rw [List.length_append, List.length_singleton]; omega) k3 ((hs.tr s2).tr s3)
      · obtain ⟨g0, g1, g2, g3, g4, g5, g6, g7, g8, g9, g10, g11, g12, g13, g14⟩ := id k3.1
        simp only [↓ri_162_31, ↓ri_162_32, Option.some.injEq, Prod.mk.injEq, exists_eq_left', exists_eq', exists_and_left, exists_and_right, true_and, and_true, true_or, or_true, and_self, and_assoc, Option.toList_some, Option.toList_none, List.cons_append, List.nil_append, ↓reduceIte, rz_x01, rz_x10]
        rw [ri_162_12]
        by_cases hend : rz_sg tx j = -1
        · have hj2 := (rz_sg_end hc).mp hend
          have c1 : nI j = nI tx.length := by rw [show j = tx.length by omega]
          rw [if_pos hend] at heq
          simp only [↓ri_162_13, ↓ri_162_35, ↓ri_162_36, ↓ri_162_39, ↓ri_162_40, ↓ri_162_43, ↓ri_162_46, ↓ri_162_47, ↓ri_162_50, ↓ri_162_51, Option.some.injEq, Prod.mk.injEq, exists_eq_left', exists_eq', exists_and_left, exists_and_right, true_and, and_true, true_or, or_true, and_self, and_assoc, Option.toList_some, Option.toList_none, List.cons_append, List.nil_append, ↓reduceIte, rz_x01, rz_x10, g8, g11, ↓if_pos c1]
          have := kk1 h3 (nI j) (by rw [heq])
          rw [heq] at this
          exact this k3 ((hs.tr s2).tr s3)
        · have c1 : ¬ nI j = nI tx.length := fun q => hend ((rz_sg_end hc).mpr (by have := (nI_eq (by omega) (by omega)).mp q; omega))
          rw [if_neg hend, if_neg h44] at heq
          simp only [↓ri_162_13, ↓ri_162_35, ↓ri_162_36, ↓ri_162_39, ↓ri_162_40, ↓ri_162_43, ↓ri_162_46, ↓ri_162_47, ↓ri_162_50, ↓ri_162_51, Option.some.injEq, Prod.mk.injEq, exists_eq_left', exists_eq', exists_and_left, exists_and_right, true_and, and_true, true_or, or_true, and_self, and_assoc, Option.toList_some, Option.toList_none, List.cons_append, List.nil_append, ↓reduceIte, rz_x01, rz_x10, g8, g11, ↓if_neg c1]
          exact kk0 h3 (os ++ [o]) j (by rw [heq]) (by rw [List.length_append, List.length_singleton]; omega) k3 ((hs.tr s2).tr s3)
end RZMD
