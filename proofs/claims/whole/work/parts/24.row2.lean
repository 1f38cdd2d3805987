/-! RisingPilesModel: what a row tells -/
section RZM2
variable {d a : Nat} {f : Nat → Int32} {hp : rz_Hp} {R : Option Value → rz_Hp → Prop} {Z : List rz_Zt}
def rz_lpS (a : Int32) (x : rz_En) : Int32 := if a = -5 ∨ x.2.2.2.2 < a then x.2.2.2.2 else a
def rz_lp (L : List rz_En) : Int32 := L.foldl rz_lpS (-5)
theorem rz_lp_tk {L : List rz_En} {i : Nat} {e : rz_En} (he : L[i]? = some e) : rz_lp (L.take (i + 1)) = rz_lpS (rz_lp (L.take i)) e := by
  unfold rz_lp
  rw [rz_tk he, List.foldl_append, List.foldl_cons, List.foldl_nil]
theorem rz_mpt {n : Nat} {x : rz_Zt} (h : Z[n]? = some x) : (Z.map Prod.fst)[n]? = some x.1 := by rw [List.getElem?_map, h]; rfl
theorem rz_mlen : (Z.map Prod.fst).take Z.length = Z.map Prod.fst := List.take_of_length_le (by rw [List.length_map]; exact Nat.le_refl _)
set_option maxHeartbeats 4000000 in
set_option maxRecDepth 100000 in
theorem m_M_lowestPile (ha : rz_av hp a = some (0, 430, f)) (hZ : rz_ZS f Z) : rz_ev (d + 1) 129 0 [some (.ref a), none, none] [] hp R ↔ R (some (.int (rz_lp (Z.map Prod.fst)))) hp := by
  obtain ⟨hl, h1, hz⟩ := hZ
  have hL : ∀ n, n ≤ Z.length → (rz_ev (d + 1) 129 5 [some (.ref a), some (.int (rz_lp ((Z.map Prod.fst).take n))), some (.int (nI n))] [] hp R ↔ R (some (.int (rz_lp (Z.map Prod.fst)))) hp) := by
    refine rz_down Z.length ?_ ?_
    · have c1 := rz_topZ hl
      rw [ri_129_5, rz_mlen]
      simp only [↓ri_129_6, ↓ri_129_7, ↓ri_129_8, ↓ri_129_9, ↓ri_129_12, ↓ri_129_13, ↓ri_129_15, ↓ri_129_18, ↓ri_129_19, ↓ri_129_20, ↓ri_129_21, ↓ri_129_24, ↓ri_129_25, ↓ri_129_28, ↓ri_129_29, ↓ri_129_30, ↓ri_129_31, ↓ri_129_34, ↓ri_129_37, ↓ri_129_38, ↓ri_129_39, ↓ri_129_42, ↓ri_129_45, ↓ri_129_46, Option.some.injEq, Prod.mk.injEq, exists_eq_left', exists_eq', exists_and_left, exists_and_right, true_and, and_true, true_or, or_true, and_self, and_assoc, Option.toList_some, Option.toList_none, List.cons_append, List.nil_append, ↓reduceIte, rz_x01, rz_x10, ha, rz_v1, rz_k1, h1, ↓if_pos c1]
    · intro n hn ih
      have c1 : ¬ nI Z.length ≤ nI n := nI_ge hn (by omega)
      obtain ⟨x, hx⟩ := rz_ge hn
      obtain ⟨g0, g1, g2, g3, g4, g5, g6⟩ := hz n x hx
      have o4 := fun R => m_M_of (d := d) (i := n) (w := 4) (x := 4) ha (by omega) (by decide) rfl (R := R)
      rw [g4] at o4
      rw [← ih, rz_lp_tk (rz_mpt hx), ri_129_5]
      unfold rz_lpS
      by_cases q1 : rz_lp ((Z.map Prod.fst).take n) = -5
      · simp only [↓ri_129_6, ↓ri_129_7, ↓ri_129_8, ↓ri_129_9, ↓ri_129_12, ↓ri_129_13, ↓ri_129_15, ↓ri_129_18, ↓ri_129_19, ↓ri_129_20, ↓ri_129_21, ↓ri_129_24, ↓ri_129_25, ↓ri_129_28, ↓ri_129_29, ↓ri_129_30, ↓ri_129_31, ↓ri_129_34, ↓ri_129_37, ↓ri_129_38, ↓ri_129_39, ↓ri_129_42, Option.some.injEq, Prod.mk.injEq, exists_eq_left', exists_eq', exists_and_left, exists_and_right, true_and, and_true, true_or, or_true, and_self, and_assoc, Option.toList_some, Option.toList_none, List.cons_append, List.nil_append, ↓reduceIte, rz_x01, rz_x10, ha, rz_v1, rz_k1, h1, ↓if_neg c1, o4, ↓if_pos q1, nI_1, q1, true_or]
      · by_cases q2 : x.1.2.2.2.2 < rz_lp ((Z.map Prod.fst).take n)
        · have c2 : ¬ rz_lp ((Z.map Prod.fst).take n) ≤ x.1.2.2.2.2 := Int32.not_le.mpr q2
          simp only [↓ri_129_6, ↓ri_129_7, ↓ri_129_8, ↓ri_129_9, ↓ri_129_12, ↓ri_129_13, ↓ri_129_15, ↓ri_129_18, ↓ri_129_19, ↓ri_129_20, ↓ri_129_21, ↓ri_129_24, ↓ri_129_25, ↓ri_129_28, ↓ri_129_29, ↓ri_129_30, ↓ri_129_31, ↓ri_129_34, ↓ri_129_37, ↓ri_129_38, ↓ri_129_39, ↓ri_129_42, Option.some.injEq, Prod.mk.injEq, exists_eq_left', exists_eq', exists_and_left, exists_and_right, true_and, and_true, true_or, or_true, and_self, and_assoc, Option.toList_some, Option.toList_none, List.cons_append, List.nil_append, ↓reduceIte, rz_x01, rz_x10, ha, rz_v1, rz_k1, h1, ↓if_neg c1, o4, ↓if_neg q1, ↓if_neg c2, nI_1, ↓if_pos (Or.inr (a := rz_lp ((Z.map Prod.fst).take n) = -5) q2)]
        · have c2 : rz_lp ((Z.map Prod.fst).take n) ≤ x.1.2.2.2.2 := Int32.not_lt.mp q2
          have c3 : ¬ (rz_lp ((Z.map Prod.fst).take n) = -5 ∨ x.1.2.2.2.2 < rz_lp ((Z.map Prod.fst).take n)) := fun q => q.elim q1 q2
          simp only [↓ri_129_6, ↓ri_129_7, ↓ri_129_8, ↓ri_129_9, ↓ri_129_12, ↓ri_129_13, ↓ri_129_15, ↓ri_129_18, ↓ri_129_19, ↓ri_129_20, ↓ri_129_21, ↓ri_129_24, ↓ri_129_25, ↓ri_129_28, ↓ri_129_29, ↓ri_129_30, ↓ri_129_31, ↓ri_129_34, ↓ri_129_37, ↓ri_129_38, ↓ri_129_39, ↓ri_129_42, Option.some.injEq, Prod.mk.injEq, exists_eq_left', exists_eq', exists_and_left, exists_and_right, true_and, and_true, true_or, or_true, and_self, and_assoc, Option.toList_some, Option.toList_none, List.cons_append, List.nil_append, ↓reduceIte, rz_x01, rz_x10, ha, rz_v1, rz_k1, h1, ↓if_neg c1, o4, ↓if_neg q1, ↓if_pos c2, nI_1, ↓if_neg c3]
  have h0 := hL 0 (Nat.zero_le _)
  rw [nI_0, show rz_lp ((Z.map Prod.fst).take 0) = -5 from rfl] at h0
  simp only [↓ri_129_0, ↓ri_129_2, ↓ri_129_3, ↓ri_129_4, h0]
set_option maxHeartbeats 4000000 in
set_option maxRecDepth 100000 in
theorem m_M_keyIn0 {p : Int32} (ha : rz_av hp a = some (0, 430, f)) (hZ : rz_ZS f Z) : rz_ev (d + 1) 131 0 [some (.ref a), some (.int p), some (.int 0), none, none, none, none] [] hp R ↔ R (some (.int (rz_mk (Z.map Prod.fst) p))) hp := by
  obtain ⟨hl, h1, hz⟩ := hZ
  have hL : ∀ n, n ≤ Z.length → ∀ l5 l6, (rz_ev (d + 1) 131 6 [some (.ref a), some (.int p), some (.int 0), some (.int (rz_mk ((Z.map Prod.fst).take n) p)), some (.int (nI n)), l5, l6] [] hp R ↔ R (some (.int (rz_mk (Z.map Prod.fst) p))) hp) := by
    refine rz_down Z.length ?_ ?_
    · intro l5 l6
      have c1 := rz_topZ hl
      rw [ri_131_6, rz_mlen]
      simp only [↓ri_131_8, ↓ri_131_9, ↓ri_131_10, ↓ri_131_11, ↓ri_131_14, ↓ri_131_15, ↓ri_131_17, ↓ri_131_18, ↓ri_131_21, ↓ri_131_23, ↓ri_131_24, ↓ri_131_26, ↓ri_131_27, ↓ri_131_30, ↓ri_131_31, ↓ri_131_34, ↓ri_131_35, ↓ri_131_37, ↓ri_131_40, ↓ri_131_41, ↓ri_131_44, ↓ri_131_46, ↓ri_131_47, ↓ri_131_50, ↓ri_131_53, ↓ri_131_55, ↓ri_131_56, ↓ri_131_59, ↓ri_131_60, ↓ri_131_63, ↓ri_131_64, ↓ri_131_66, ↓ri_131_68, ↓ri_131_71, ↓ri_131_73, ↓ri_131_76, ↓ri_131_77, ↓ri_131_78, ↓ri_131_81, ↓ri_131_84, ↓ri_131_85, Option.some.injEq, Prod.mk.injEq, exists_eq_left', exists_eq', exists_and_left, exists_and_right, true_and, and_true, true_or, or_true, and_self, and_assoc, Option.toList_some, Option.toList_none, List.cons_append, List.nil_append, ↓reduceIte, rz_x01, rz_x10, ha, rz_v1, rz_k1, h1, ↓if_pos c1]
    · intro n hn ih l5 l6
      have c1 : ¬ nI Z.length ≤ nI n := nI_ge hn (by omega)
      obtain ⟨x, hx⟩ := rz_ge hn
      obtain ⟨g0, g1, g2, g3, g4, g5, g6⟩ := hz n x hx
      have o1 := fun R => m_M_of (d := d) (i := n) (w := 1) (x := 1) ha (by omega) (by decide) rfl (R := R)
      have o4 := fun R => m_M_of (d := d) (i := n) (w := 4) (x := 4) ha (by omega) (by decide) rfl (R := R)
      rw [g4] at o4
      rw [g1] at o1
      have z10 : ¬ (1 : Int32) = 0 := by decide
      rw [rz_mk_tk (rz_mpt hx)] at ih
      unfold rz_mkS at ih
      rw [ri_131_6]
      by_cases hp1 : x.1.2.2.2.2 = p
      · by_cases q1 : rz_mk ((Z.map Prod.fst).take n) p = -5
        · rw [if_pos ⟨hp1, Or.inl q1⟩] at ih
          rw [← ih (some (.int x.1.2.1)) (some (.int 1))]
          simp only [↓ri_131_8, ↓ri_131_9, ↓ri_131_10, ↓ri_131_11, ↓ri_131_14, ↓ri_131_15, ↓ri_131_17, ↓ri_131_18, ↓ri_131_21, ↓ri_131_23, ↓ri_131_24, ↓ri_131_26, ↓ri_131_27, ↓ri_131_30, ↓ri_131_31, ↓ri_131_34, ↓ri_131_35, ↓ri_131_37, ↓ri_131_40, ↓ri_131_41, ↓ri_131_44, ↓ri_131_46, ↓ri_131_47, ↓ri_131_50, ↓ri_131_53, ↓ri_131_55, ↓ri_131_56, ↓ri_131_59, ↓ri_131_60, ↓ri_131_63, ↓ri_131_64, ↓ri_131_66, ↓ri_131_68, ↓ri_131_71, ↓ri_131_73, ↓ri_131_76, ↓ri_131_77, ↓ri_131_78, ↓ri_131_81, Option.some.injEq, Prod.mk.injEq, exists_eq_left', exists_eq', exists_and_left, exists_and_right, true_and, and_true, true_or, or_true, and_self, and_assoc, Option.toList_some, Option.toList_none, List.cons_append, List.nil_append, ↓reduceIte, rz_x01, rz_x10, ha, rz_v1, rz_k1, h1, ↓if_neg c1, o1, o4, ↓if_pos hp1, ↓if_pos q1, nI_1, ↓if_neg z10]
        · by_cases q2 : x.1.2.1 < rz_mk ((Z.map Prod.fst).take n) p
          · have c2 : ¬ rz_mk ((Z.map Prod.fst).take n) p ≤ x.1.2.1 := Int32.not_le.mpr q2
            rw [if_pos ⟨hp1, Or.inr q2⟩] at ih
            rw [← ih (some (.int x.1.2.1)) (some (.int 1))]
            simp only [↓ri_131_8, ↓ri_131_9, ↓ri_131_10, ↓ri_131_11, ↓ri_131_14, ↓ri_131_15, ↓ri_131_17, ↓ri_131_18, ↓ri_131_21, ↓ri_131_23, ↓ri_131_24, ↓ri_131_26, ↓ri_131_27, ↓ri_131_30, ↓ri_131_31, ↓ri_131_34, ↓ri_131_35, ↓ri_131_37, ↓ri_131_40, ↓ri_131_41, ↓ri_131_44, ↓ri_131_46, ↓ri_131_47, ↓ri_131_50, ↓ri_131_53, ↓ri_131_55, ↓ri_131_56, ↓ri_131_59, ↓ri_131_60, ↓ri_131_63, ↓ri_131_64, ↓ri_131_66, ↓ri_131_68, ↓ri_131_71, ↓ri_131_73, ↓ri_131_76, ↓ri_131_77, ↓ri_131_78, ↓ri_131_81, Option.some.injEq, Prod.mk.injEq, exists_eq_left', exists_eq', exists_and_left, exists_and_right, true_and, and_true, true_or, or_true, and_self, and_assoc, Option.toList_some, Option.toList_none, List.cons_append, List.nil_append, ↓reduceIte, rz_x01, rz_x10, ha, rz_v1, rz_k1, h1, ↓if_neg c1, o1, o4, ↓if_pos hp1, ↓if_neg q1, nI_1, ↓if_neg z10, ↓if_neg c2]
          · have c2 : rz_mk ((Z.map Prod.fst).take n) p ≤ x.1.2.1 := Int32.not_lt.mp q2
            rw [if_neg (fun q => q.2.elim q1 q2)] at ih
            rw [← ih (some (.int x.1.2.1)) (some (.int 0))]
            simp only [↓ri_131_8, ↓ri_131_9, ↓ri_131_10, ↓ri_131_11, ↓ri_131_14, ↓ri_131_15, ↓ri_131_17, ↓ri_131_18, ↓ri_131_21, ↓ri_131_23, ↓ri_131_24, ↓ri_131_26, ↓ri_131_27, ↓ri_131_30, ↓ri_131_31, ↓ri_131_34, ↓ri_131_35, ↓ri_131_37, ↓ri_131_40, ↓ri_131_41, ↓ri_131_44, ↓ri_131_46, ↓ri_131_47, ↓ri_131_50, ↓ri_131_53, ↓ri_131_55, ↓ri_131_56, ↓ri_131_59, ↓ri_131_60, ↓ri_131_63, ↓ri_131_64, ↓ri_131_66, ↓ri_131_68, ↓ri_131_71, ↓ri_131_73, ↓ri_131_76, ↓ri_131_77, ↓ri_131_78, ↓ri_131_81, Option.some.injEq, Prod.mk.injEq, exists_eq_left', exists_eq', exists_and_left, exists_and_right, true_and, and_true, true_or, or_true, and_self, and_assoc, Option.toList_some, Option.toList_none, List.cons_append, List.nil_append, ↓reduceIte, rz_x01, rz_x10, ha, rz_v1, rz_k1, h1, ↓if_neg c1, o1, o4, ↓if_pos hp1, ↓if_neg q1, nI_1, ↓if_neg z10, ↓if_pos c2]
      · rw [if_neg (fun q => hp1 q.1)] at ih
        rw [← ih (some (.int x.1.2.1)) (some (.int 0))]
        simp only [↓ri_131_8, ↓ri_131_9, ↓ri_131_10, ↓ri_131_11, ↓ri_131_14, ↓ri_131_15, ↓ri_131_17, ↓ri_131_18, ↓ri_131_21, ↓ri_131_23, ↓ri_131_24, ↓ri_131_26, ↓ri_131_27, ↓ri_131_30, ↓ri_131_31, ↓ri_131_34, ↓ri_131_35, ↓ri_131_37, ↓ri_131_40, ↓ri_131_41, ↓ri_131_44, ↓ri_131_46, ↓ri_131_47, ↓ri_131_50, ↓ri_131_53, ↓ri_131_55, ↓ri_131_56, ↓ri_131_59, ↓ri_131_60, ↓ri_131_63, ↓ri_131_64, ↓ri_131_66, ↓ri_131_68, ↓ri_131_71, ↓ri_131_73, ↓ri_131_76, ↓ri_131_77, ↓ri_131_78, ↓ri_131_81, Option.some.injEq, Prod.mk.injEq, exists_eq_left', exists_eq', exists_and_left, exists_and_right, true_and, and_true, true_or, or_true, and_self, and_assoc, Option.toList_some, Option.toList_none, List.cons_append, List.nil_append, ↓reduceIte, rz_x01, rz_x10, ha, rz_v1, rz_k1, h1, ↓if_neg c1, o1, o4, ↓if_neg hp1, nI_1, ↓if_neg z10]
  have h0 := hL 0 (Nat.zero_le _) none none
  rw [nI_0, show rz_mk ((Z.map Prod.fst).take 0) p = -5 from rfl] at h0
  simp only [↓ri_131_0, ↓ri_131_2, ↓ri_131_3, ↓ri_131_4, h0]
theorem rz_xk_ge {L : List rz_En} {p : Int32} : -5 ≤ rz_xk L p := by
  have h : ∀ (L : List rz_En) (a : Int32), -5 ≤ a → -5 ≤ L.foldl (rz_xkS p) a := by
    intro L
    induction L with
    | nil => exact fun a h => h
    | cons x L ih =>
      intro a h
      refine ih _ ?_
      unfold rz_xkS
      split
      · split
        · next q => exact Int32.le_trans h (Int32.le_of_lt q)
        · exact h
      · exact h
  exact h L (-5) (by decide)
set_option maxHeartbeats 4000000 in
set_option maxRecDepth 100000 in
theorem m_M_keyIn1 {p : Int32} (ha : rz_av hp a = some (0, 430, f)) (hZ : rz_ZS f Z) (hk : ∀ z ∈ Z, -5 < z.1.2.1) : rz_ev (d + 1) 131 0 [some (.ref a), some (.int p), some (.int 1), none, none, none, none] [] hp R ↔ R (some (.int (rz_xk (Z.map Prod.fst) p))) hp := by
  obtain ⟨hl, h1, hz⟩ := hZ
  have hL : ∀ n, n ≤ Z.length → ∀ l5 l6, (rz_ev (d + 1) 131 6 [some (.ref a), some (.int p), some (.int 1), some (.int (rz_xk ((Z.map Prod.fst).take n) p)), some (.int (nI n)), l5, l6] [] hp R ↔ R (some (.int (rz_xk (Z.map Prod.fst) p))) hp) := by
    refine rz_down Z.length ?_ ?_
    · intro l5 l6
      have c1 := rz_topZ hl
      rw [ri_131_6, rz_mlen]
      simp only [↓ri_131_8, ↓ri_131_9, ↓ri_131_10, ↓ri_131_11, ↓ri_131_14, ↓ri_131_15, ↓ri_131_17, ↓ri_131_18, ↓ri_131_21, ↓ri_131_23, ↓ri_131_24, ↓ri_131_26, ↓ri_131_27, ↓ri_131_30, ↓ri_131_31, ↓ri_131_34, ↓ri_131_35, ↓ri_131_37, ↓ri_131_40, ↓ri_131_41, ↓ri_131_44, ↓ri_131_46, ↓ri_131_47, ↓ri_131_50, ↓ri_131_53, ↓ri_131_55, ↓ri_131_56, ↓ri_131_59, ↓ri_131_60, ↓ri_131_63, ↓ri_131_64, ↓ri_131_66, ↓ri_131_68, ↓ri_131_71, ↓ri_131_73, ↓ri_131_76, ↓ri_131_77, ↓ri_131_78, ↓ri_131_81, ↓ri_131_84, ↓ri_131_85, Option.some.injEq, Prod.mk.injEq, exists_eq_left', exists_eq', exists_and_left, exists_and_right, true_and, and_true, true_or, or_true, and_self, and_assoc, Option.toList_some, Option.toList_none, List.cons_append, List.nil_append, ↓reduceIte, rz_x01, rz_x10, ha, rz_v1, rz_k1, h1, ↓if_pos c1]
    · intro n hn ih l5 l6
      have c1 : ¬ nI Z.length ≤ nI n := nI_ge hn (by omega)
      obtain ⟨x, hx⟩ := rz_ge hn
      have hkx := hk x (List.mem_of_getElem? hx)
      obtain ⟨g0, g1, g2, g3, g4, g5, g6⟩ := hz n x hx
      have o1 := fun R => m_M_of (d := d) (i := n) (w := 1) (x := 1) ha (by omega) (by decide) rfl (R := R)
      have o4 := fun R => m_M_of (d := d) (i := n) (w := 4) (x := 4) ha (by omega) (by decide) rfl (R := R)
      rw [g4] at o4
      rw [g1] at o1
      have z10 : ¬ (1 : Int32) = 0 := by decide
      rw [rz_xk_tk (rz_mpt hx)] at ih
      unfold rz_xkS at ih
      rw [ri_131_6]
      by_cases hp1 : x.1.2.2.2.2 = p
      · rw [if_pos hp1] at ih
        by_cases q1 : rz_xk ((Z.map Prod.fst).take n) p = -5
        · rw [if_pos (by rw [q1]; exact hkx)] at ih
          rw [← ih (some (.int x.1.2.1)) (some (.int 1))]
          simp only [↓ri_131_8, ↓ri_131_9, ↓ri_131_10, ↓ri_131_11, ↓ri_131_14, ↓ri_131_15, ↓ri_131_17, ↓ri_131_18, ↓ri_131_21, ↓ri_131_23, ↓ri_131_24, ↓ri_131_26, ↓ri_131_27, ↓ri_131_30, ↓ri_131_31, ↓ri_131_34, ↓ri_131_35, ↓ri_131_37, ↓ri_131_40, ↓ri_131_41, ↓ri_131_44, ↓ri_131_46, ↓ri_131_47, ↓ri_131_50, ↓ri_131_53, ↓ri_131_55, ↓ri_131_56, ↓ri_131_59, ↓ri_131_60, ↓ri_131_63, ↓ri_131_64, ↓ri_131_66, ↓ri_131_68, ↓ri_131_71, ↓ri_131_73, ↓ri_131_76, ↓ri_131_77, ↓ri_131_78, ↓ri_131_81, Option.some.injEq, Prod.mk.injEq, exists_eq_left', exists_eq', exists_and_left, exists_and_right, true_and, and_true, true_or, or_true, and_self, and_assoc, Option.toList_some, Option.toList_none, List.cons_append, List.nil_append, ↓reduceIte, rz_x01, rz_x10, ha, rz_v1, rz_k1, h1, ↓if_neg c1, o1, o4, ↓if_pos hp1, ↓if_pos q1, nI_1, ↓if_neg z10]
        · by_cases q2 : rz_xk ((Z.map Prod.fst).take n) p < x.1.2.1
          · have c2 : ¬ x.1.2.1 ≤ rz_xk ((Z.map Prod.fst).take n) p := Int32.not_le.mpr q2
            rw [if_pos q2] at ih
            rw [← ih (some (.int x.1.2.1)) (some (.int 1))]
            simp only [↓ri_131_8, ↓ri_131_9, ↓ri_131_10, ↓ri_131_11, ↓ri_131_14, ↓ri_131_15, ↓ri_131_17, ↓ri_131_18, ↓ri_131_21, ↓ri_131_23, ↓ri_131_24, ↓ri_131_26, ↓ri_131_27, ↓ri_131_30, ↓ri_131_31, ↓ri_131_34, ↓ri_131_35, ↓ri_131_37, ↓ri_131_40, ↓ri_131_41, ↓ri_131_44, ↓ri_131_46, ↓ri_131_47, ↓ri_131_50, ↓ri_131_53, ↓ri_131_55, ↓ri_131_56, ↓ri_131_59, ↓ri_131_60, ↓ri_131_63, ↓ri_131_64, ↓ri_131_66, ↓ri_131_68, ↓ri_131_71, ↓ri_131_73, ↓ri_131_76, ↓ri_131_77, ↓ri_131_78, ↓ri_131_81, Option.some.injEq, Prod.mk.injEq, exists_eq_left', exists_eq', exists_and_left, exists_and_right, true_and, and_true, true_or, or_true, and_self, and_assoc, Option.toList_some, Option.toList_none, List.cons_append, List.nil_append, ↓reduceIte, rz_x01, rz_x10, ha, rz_v1, rz_k1, h1, ↓if_neg c1, o1, o4, ↓if_pos hp1, ↓if_neg q1, nI_1, ↓if_neg z10, ↓if_neg c2]
          · have c2 : x.1.2.1 ≤ rz_xk ((Z.map Prod.fst).take n) p := Int32.not_lt.mp q2
            rw [if_neg q2] at ih
            rw [← ih (some (.int x.1.2.1)) (some (.int 0))]
            simp only [↓ri_131_8, ↓ri_131_9, ↓ri_131_10, ↓ri_131_11, ↓ri_131_14, ↓ri_131_15, ↓ri_131_17, ↓ri_131_18, ↓ri_131_21, ↓ri_131_23, ↓ri_131_24, ↓ri_131_26, ↓ri_131_27, ↓ri_131_30, ↓ri_131_31, ↓ri_131_34, ↓ri_131_35, ↓ri_131_37, ↓ri_131_40, ↓ri_131_41, ↓ri_131_44, ↓ri_131_46, ↓ri_131_47, ↓ri_131_50, ↓ri_131_53, ↓ri_131_55, ↓ri_131_56, ↓ri_131_59, ↓ri_131_60, ↓ri_131_63, ↓ri_131_64, ↓ri_131_66, ↓ri_131_68, ↓ri_131_71, ↓ri_131_73, ↓ri_131_76, ↓ri_131_77, ↓ri_131_78, ↓ri_131_81, Option.some.injEq, Prod.mk.injEq, exists_eq_left', exists_eq', exists_and_left, exists_and_right, true_and, and_true, true_or, or_true, and_self, and_assoc, Option.toList_some, Option.toList_none, List.cons_append, List.nil_append, ↓reduceIte, rz_x01, rz_x10, ha, rz_v1, rz_k1, h1, ↓if_neg c1, o1, o4, ↓if_pos hp1, ↓if_neg q1, nI_1, ↓if_neg z10, ↓if_pos c2]
      · rw [if_neg hp1] at ih
        rw [← ih (some (.int x.1.2.1)) (some (.int 0))]
        simp only [↓ri_131_8, ↓ri_131_9, ↓ri_131_10, ↓ri_131_11, ↓ri_131_14, ↓ri_131_15, ↓ri_131_17, ↓ri_131_18, ↓ri_131_21, ↓ri_131_23, ↓ri_131_24, ↓ri_131_26, ↓ri_131_27, ↓ri_131_30, ↓ri_131_31, ↓ri_131_34, ↓ri_131_35, ↓ri_131_37, ↓ri_131_40, ↓ri_131_41, ↓ri_131_44, ↓ri_131_46, ↓ri_131_47, ↓ri_131_50, ↓ri_131_53, ↓ri_131_55, ↓ri_131_56, ↓ri_131_59, ↓ri_131_60, ↓ri_131_63, ↓ri_131_64, ↓ri_131_66, ↓ri_131_68, ↓ri_131_71, ↓ri_131_73, ↓ri_131_76, ↓ri_131_77, ↓ri_131_78, ↓ri_131_81, Option.some.injEq, Prod.mk.injEq, exists_eq_left', exists_eq', exists_and_left, exists_and_right, true_and, and_true, true_or, or_true, and_self, and_assoc, Option.toList_some, Option.toList_none, List.cons_append, List.nil_append, ↓reduceIte, rz_x01, rz_x10, ha, rz_v1, rz_k1, h1, ↓if_neg c1, o1, o4, ↓if_neg hp1, nI_1, ↓if_neg z10]
  have h0 := hL 0 (Nat.zero_le _) none none
  rw [nI_0, show rz_xk ((Z.map Prod.fst).take 0) p = -5 from rfl] at h0
  simp only [↓ri_131_0, ↓ri_131_2, ↓ri_131_3, ↓ri_131_4, h0]
/-- the slot of a number: none, or the only one -/
def rz_slS (Z : List rz_Zt) (m : Int32) (n : Nat) (b : Int32) : Prop := (b = -5 ∧ ∀ (i : Nat) (x : rz_Zt), i < n → Z[i]? = some x → ¬ x.1.1 = m) ∨ ∃ j, b = nI j ∧ j < n ∧ ∃ x, Z[j]? = some x ∧ x.1.1 = m
set_option maxHeartbeats 4000000 in
set_option maxRecDepth 100000 in
theorem m_M_slotOf {m tgt : Int32} (ha : rz_av hp a = some (0, 430, f)) (hZ : rz_ZS f Z) (hfin : ∀ b, rz_slS Z m Z.length b → b = tgt) : rz_ev (d + 1) 139 0 [some (.ref a), some (.int m), none, none] [] hp R ↔ R (some (.int tgt)) hp := by
  obtain ⟨hl, h1, hz⟩ := hZ
  have hL : ∀ n, n ≤ Z.length → ∀ b, rz_slS Z m n b → (rz_ev (d + 1) 139 5 [some (.ref a), some (.int m), some (.int b), some (.int (nI n))] [] hp R ↔ R (some (.int tgt)) hp) := by
    refine rz_down Z.length ?_ ?_
    · intro b hb
      have c1 := rz_topZ hl
      rw [ri_139_5, ← hfin b hb]
      simp only [↓ri_139_6, ↓ri_139_7, ↓ri_139_8, ↓ri_139_9, ↓ri_139_12, ↓ri_139_13, ↓ri_139_14, ↓ri_139_15, ↓ri_139_18, ↓ri_139_19, ↓ri_139_22, ↓ri_139_23, ↓ri_139_26, ↓ri_139_27, ↓ri_139_28, ↓ri_139_31, ↓ri_139_34, ↓ri_139_35, Option.some.injEq, Prod.mk.injEq, exists_eq_left', exists_eq', exists_and_left, exists_and_right, true_and, and_true, true_or, or_true, and_self, and_assoc, Option.toList_some, Option.toList_none, List.cons_append, List.nil_append, ↓reduceIte, rz_x01, rz_x10, ha, rz_v1, rz_k1, h1, ↓if_pos c1]
    · intro n hn ih b hb
      have c1 : ¬ nI Z.length ≤ nI n := nI_ge hn (by omega)
      obtain ⟨x, hx⟩ := rz_ge hn
      obtain ⟨g0, g1, g2, g3, g4, g5, g6⟩ := hz n x hx
      have o0 := fun R => m_M_of (d := d) (i := n) (w := 0) (x := 0) ha (by omega) (by decide) rfl (R := R)
      rw [Nat.add_zero, g0] at o0
      rw [ri_139_5]
      by_cases hm : x.1.1 = m
      · rw [← ih (nI n) (Or.inr ⟨n, rfl, Nat.lt_succ_self _, x, hx, hm⟩)]
        simp only [↓ri_139_6, ↓ri_139_7, ↓ri_139_8, ↓ri_139_9, ↓ri_139_12, ↓ri_139_13, ↓ri_139_14, ↓ri_139_15, ↓ri_139_18, ↓ri_139_19, ↓ri_139_22, ↓ri_139_23, ↓ri_139_26, ↓ri_139_27, ↓ri_139_28, ↓ri_139_31, Option.some.injEq, Prod.mk.injEq, exists_eq_left', exists_eq', exists_and_left, exists_and_right, true_and, and_true, true_or, or_true, and_self, and_assoc, Option.toList_some, Option.toList_none, List.cons_append, List.nil_append, ↓reduceIte, rz_x01, rz_x10, ha, rz_v1, rz_k1, h1, ↓if_neg c1, o0, ↓if_pos hm, nI_1]
      · rw [← ih b ?_]
        · simp only [↓ri_139_6, ↓ri_139_7, ↓ri_139_8, ↓ri_139_9, ↓ri_139_12, ↓ri_139_13, ↓ri_139_14, ↓ri_139_15, ↓ri_139_18, ↓ri_139_19, ↓ri_139_22, ↓ri_139_23, ↓ri_139_26, ↓ri_139_27, ↓ri_139_28, ↓ri_139_31, Option.some.injEq, Prod.mk.injEq, exists_eq_left', exists_eq', exists_and_left, exists_and_right, true_and, and_true, true_or, or_true, and_self, and_assoc, Option.toList_some, Option.toList_none, List.cons_append, List.nil_append, ↓reduceIte, rz_x01, rz_x10, ha, rz_v1, rz_k1, h1, ↓if_neg c1, o0, ↓if_neg hm, nI_1]
        · rcases hb with ⟨hb1, hb⟩ | ⟨j, hbj, hj, z, hzj, hzm⟩
          · refine Or.inl ⟨hb1, fun i y hi hy => ?_⟩
            rcases Nat.lt_succ_iff_lt_or_eq.mp hi with q | q
            · exact hb i y q hy
            · subst q; rw [hx] at hy; cases hy; exact hm
          · exact Or.inr ⟨j, hbj, by omega, z, hzj, hzm⟩
  have h0 := hL 0 (Nat.zero_le _) (-5) (Or.inl ⟨rfl, fun i x hi => absurd hi (Nat.not_lt_zero _)⟩)
  rw [nI_0] at h0
  simp only [↓ri_139_0, ↓ri_139_2, ↓ri_139_3, ↓ri_139_4, h0]
end RZM2
