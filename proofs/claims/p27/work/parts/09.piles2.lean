/-! RisingPiles$Piles, what is told -/
theorem rz_top {L : List rz_En} (hL : L.length ≤ 40) : nI L.length ≤ nI L.length := nI_le (Nat.le_refl _) (by omega)
def rz_rk (L : List rz_En) (j : Nat) (k : Int32) (n : Nat) : Nat := (L.zipIdx.take n).countP (fun q => decide (q.1.2.1 < k ∨ (q.1.2.1 = k ∧ q.2 < j)))
theorem rz_rk_tk {L : List rz_En} {i j : Nat} {e : rz_En} {k : Int32} (he : L[i]? = some e) : rz_rk L j k (i + 1) = rz_rk L j k i + (if e.2.1 < k ∨ (e.2.1 = k ∧ i < j) then 1 else 0) := by
  unfold rz_rk
  have hz : L.zipIdx[i]? = some (e, i) := by rw [List.getElem?_zipIdx, he]; simp
  rw [rz_tk hz, List.countP_append]
  by_cases h : e.2.1 < k ∨ (e.2.1 = k ∧ i < j) <;> simp [h]
theorem rz_rk_le {L : List rz_En} {j n : Nat} {k : Int32} : rz_rk L j k n ≤ L.length := by
  unfold rz_rk
  refine Nat.le_trans List.countP_le_length ?_
  rw [List.length_take, List.length_zipIdx]
  omega
set_option maxHeartbeats 4000000 in
set_option maxRecDepth 100000 in
theorem c_P_rankAt {d b j : Nat} {L : List rz_En} {fl am : Int32} {hp : rz_Hp} {e : rz_En} (h : rz_PL b L fl am hp) (he : L[j]? = some e) {R : Option Value → rz_Hp → Prop} : rz_ev (d + 2) 47 0 [some (.ref b), some (.int (nI j)), none, none, none, none] [] hp R ↔ R (some (.int (nI (rz_rk L j e.2.1 L.length)))) hp := by
  have hL := h.1
  have hj := (List.getElem?_eq_some_iff.mp he).1
  obtain ⟨-, ⟨p0, p1, p2, p3, p4, p5, p6, p7⟩, -⟩ := id h
  have hl : ∀ i, i ≤ L.length → ∀ l5, (rz_ev (d + 2) 47 11 [some (.ref b), some (.int (nI j)), some (.int e.2.1), some (.int (nI (rz_rk L j e.2.1 i))), some (.int (nI i)), l5] [] hp R ↔ R (some (.int (nI (rz_rk L j e.2.1 L.length)))) hp) := by
    refine rz_down L.length ?_ ?_
    · intro l5
      have c1 := rz_top hL
      rw [ri_47_11]
      simp only [↓ri_47_13, ↓ri_47_14, ↓ri_47_17, ↓ri_47_20, ↓ri_47_21, ↓ri_47_23, ↓ri_47_26, ↓ri_47_28, ↓ri_47_30, ↓ri_47_31, ↓ri_47_34, ↓ri_47_36, ↓ri_47_37, ↓ri_47_40, ↓ri_47_42, ↓ri_47_43, ↓ri_47_46, ↓ri_47_49, ↓ri_47_52, ↓ri_47_55, ↓ri_47_56, p5, Option.some.injEq, Prod.mk.injEq, exists_eq_left', exists_eq', exists_and_left, exists_and_right, true_and, and_true, true_or, or_true, and_self, and_assoc, Option.toList_some, Option.toList_none, List.cons_append, List.nil_append, ↓reduceIte, rz_x01, rz_x10, ↓if_pos c1]
    · intro i hi ih l5
      have c1 : ¬ nI L.length ≤ nI i := nI_ge hi (by omega)
      obtain ⟨e2, he2⟩ := rz_ge (L := L) (i := i) (by omega)
      have hc := fun R => c_P_keyAt (d := d) h he2 (R := R)
      rw [← ih (some (.int e2.2.1)), rz_rk_tk he2]
      rw [ri_47_11]
      by_cases hx : e2.2.1 < e.2.1
      · simp only [↓ri_47_13, ↓ri_47_14, ↓ri_47_17, ↓ri_47_20, ↓ri_47_21, ↓ri_47_23, ↓ri_47_26, ↓ri_47_28, ↓ri_47_30, ↓ri_47_31, ↓ri_47_34, ↓ri_47_36, ↓ri_47_37, ↓ri_47_40, ↓ri_47_42, ↓ri_47_43, ↓ri_47_46, ↓ri_47_49, ↓ri_47_52, p5, Option.some.injEq, Prod.mk.injEq, exists_eq_left', exists_eq', exists_and_left, exists_and_right, true_and, and_true, true_or, or_true, and_self, and_assoc, Option.toList_some, Option.toList_none, List.cons_append, List.nil_append, ↓reduceIte, rz_x01, rz_x10, ↓if_neg c1, rz_co_fv p5, hc, ↓if_pos hx, hx, nI_1]
      · by_cases hy : e2.2.1 = e.2.1
        · by_cases hz : i < j
          · have c3 : ¬ nI j ≤ nI i := nI_ge hz (by omega)
            simp only [↓ri_47_13, ↓ri_47_14, ↓ri_47_17, ↓ri_47_20, ↓ri_47_21, ↓ri_47_23, ↓ri_47_26, ↓ri_47_28, ↓ri_47_30, ↓ri_47_31, ↓ri_47_34, ↓ri_47_36, ↓ri_47_37, ↓ri_47_40, ↓ri_47_42, ↓ri_47_43, ↓ri_47_46, ↓ri_47_49, ↓ri_47_52, p5, Option.some.injEq, Prod.mk.injEq, exists_eq_left', exists_eq', exists_and_left, exists_and_right, true_and, and_true, true_or, or_true, and_self, and_assoc, Option.toList_some, Option.toList_none, List.cons_append, List.nil_append, ↓reduceIte, rz_x01, rz_x10, ↓if_neg c1, rz_co_fv p5, hc, ↓if_neg hx, ↓if_pos hy, ↓if_neg c3, hx, hy, hz, false_or, or_false, nI_1, Int32.lt_irrefl]
          · have c3 : nI j ≤ nI i := nI_le (by omega) (by omega)
            simp only [↓ri_47_13, ↓ri_47_14, ↓ri_47_17, ↓ri_47_20, ↓ri_47_21, ↓ri_47_23, ↓ri_47_26, ↓ri_47_28, ↓ri_47_30, ↓ri_47_31, ↓ri_47_34, ↓ri_47_36, ↓ri_47_37, ↓ri_47_40, ↓ri_47_42, ↓ri_47_43, ↓ri_47_46, ↓ri_47_49, ↓ri_47_52, p5, Option.some.injEq, Prod.mk.injEq, exists_eq_left', exists_eq', exists_and_left, exists_and_right, true_and, and_true, true_or, or_true, and_self, and_assoc, Option.toList_some, Option.toList_none, List.cons_append, List.nil_append, ↓reduceIte, rz_x01, rz_x10, ↓if_neg c1, rz_co_fv p5, hc, ↓if_neg hx, ↓if_pos hy, ↓if_pos c3, hx, hy, hz, false_or, or_false, and_false, Nat.add_zero, nI_1, Int32.lt_irrefl]
        · simp only [↓ri_47_13, ↓ri_47_14, ↓ri_47_17, ↓ri_47_20, ↓ri_47_21, ↓ri_47_23, ↓ri_47_26, ↓ri_47_28, ↓ri_47_30, ↓ri_47_31, ↓ri_47_34, ↓ri_47_36, ↓ri_47_37, ↓ri_47_40, ↓ri_47_42, ↓ri_47_43, ↓ri_47_46, ↓ri_47_49, ↓ri_47_52, p5, Option.some.injEq, Prod.mk.injEq, exists_eq_left', exists_eq', exists_and_left, exists_and_right, true_and, and_true, true_or, or_true, and_self, and_assoc, Option.toList_some, Option.toList_none, List.cons_append, List.nil_append, ↓reduceIte, rz_x01, rz_x10, ↓if_neg c1, rz_co_fv p5, hc, ↓if_neg hx, ↓if_neg hy, hx, hy, false_or, or_false, false_and, Nat.add_zero, nI_1]
  have h0 := hl 0 (Nat.zero_le _) none
  have hc := fun R => c_P_keyAt (d := d) h he (R := R)
  rw [nI_0, show rz_rk L j e.2.1 0 = 0 by unfold rz_rk; simp, nI_0] at h0
  simp only [↓ri_47_0, ↓ri_47_1, ↓ri_47_2, ↓ri_47_5, ↓ri_47_6, ↓ri_47_7, ↓ri_47_8, ↓ri_47_9, rz_co_fv p5, hc, Option.some.injEq, Prod.mk.injEq, exists_eq_left', exists_eq', exists_and_left, exists_and_right, true_and, and_true, true_or, or_true, and_self, and_assoc, Option.toList_some, Option.toList_none, List.cons_append, List.nil_append, ↓reduceIte, rz_x01, rz_x10, h0]
def rz_rkL (L : List rz_En) (i : Nat) : Nat := match L[i]? with
  | some e => rz_rk L i e.2.1 L.length
  | none => 0
set_option maxHeartbeats 4000000 in
set_option maxRecDepth 100000 in
theorem c_P_indexOfRank {d b j r : Nat} {L : List rz_En} {fl am : Int32} {hp : rz_Hp} (h : rz_PL b L fl am hp) (hr : r < L.length) (hj : j < L.length) (h1 : rz_rkL L j = r) (h2 : ∀ i, i < j → rz_rkL L i ≠ r) {R : Option Value → rz_Hp → Prop} : rz_ev (d + 3) 46 0 [some (.ref b), some (.int (nI r)), none] [] hp R ↔ R (some (.int (nI j))) hp := by
  have hL := h.1
  obtain ⟨-, ⟨p0, p1, p2, p3, p4, p5, p6, p7⟩, -⟩ := id h
  have c2 : ¬ nI L.length ≤ nI r := nI_ge hr (by omega)
  have hl : ∀ i, i ≤ j → (rz_ev (d + 3) 46 2 [some (.ref b), some (.int (nI r)), some (.int (nI i))] [] hp R ↔ R (some (.int (nI j))) hp) := by
    refine rz_down j ?_ ?_
    · have c1 : ¬ nI L.length ≤ nI j := nI_ge hj (by omega)
      obtain ⟨e, he⟩ := rz_ge hj
      have hc := fun R => c_P_rankAt (d := d) h he (R := R)
      have hk : rz_rk L j e.2.1 L.length = r := by rw [← h1]; unfold rz_rkL; rw [he]
      rw [hk] at hc
      rw [ri_46_2]
      simp only [↓ri_46_3, ↓ri_46_4, ↓ri_46_7, ↓ri_46_10, ↓ri_46_11, ↓ri_46_12, ↓ri_46_15, ↓ri_46_18, ↓ri_46_19, ↓ri_46_20, ↓ri_46_23, ↓ri_46_24, ↓ri_46_27, ↓ri_46_28, ↓ri_46_29, ↓ri_46_32, ↓ri_46_35, ↓ri_46_36, p5, Option.some.injEq, Prod.mk.injEq, exists_eq_left', exists_eq', exists_and_left, exists_and_right, true_and, and_true, true_or, or_true, and_self, and_assoc, Option.toList_some, Option.toList_none, List.cons_append, List.nil_append, ↓reduceIte, rz_x01, rz_x10, ↓if_neg c1, ↓if_neg c2, rz_co_fv p5, hc]
    · intro i hi ih
      have c1 : ¬ nI L.length ≤ nI i := nI_ge (by omega) (by omega)
      obtain ⟨e, he⟩ := rz_ge (L := L) (i := i) (by omega)
      have hc := fun R => c_P_rankAt (d := d) h he (R := R)
      have hk : ¬ nI (rz_rk L i e.2.1 L.length) = nI r := by
        have h3 := h2 i hi
        unfold rz_rkL at h3
        rw [he] at h3
        rw [nI_eq (by have := rz_rk_le (L := L) (j := i) (k := e.2.1) (n := L.length); omega) (by omega)]
        exact h3
      rw [← ih]
      rw [ri_46_2]
      simp only [↓ri_46_3, ↓ri_46_4, ↓ri_46_7, ↓ri_46_10, ↓ri_46_11, ↓ri_46_12, ↓ri_46_15, ↓ri_46_18, ↓ri_46_19, ↓ri_46_20, ↓ri_46_23, ↓ri_46_24, ↓ri_46_27, ↓ri_46_28, ↓ri_46_29, ↓ri_46_32, p5, Option.some.injEq, Prod.mk.injEq, exists_eq_left', exists_eq', exists_and_left, exists_and_right, true_and, and_true, true_or, or_true, and_self, and_assoc, Option.toList_some, Option.toList_none, List.cons_append, List.nil_append, ↓reduceIte, rz_x01, rz_x10, ↓if_neg c1, ↓if_neg c2, rz_co_fv p5, hc, ↓if_neg hk, nI_1]
  have h0 := hl 0 (Nat.zero_le _)
  rw [nI_0] at h0
  simp only [↓ri_46_0, ↓ri_46_1, h0]
set_option maxHeartbeats 4000000 in
set_option maxRecDepth 100000 in
theorem c_P_indexOfRank0 {d b r : Nat} {L : List rz_En} {fl am : Int32} {hp : rz_Hp} (h : rz_PL b L fl am hp) (hr : L.length ≤ r) (h31 : r < 2 ^ 31) {R : Option Value → rz_Hp → Prop} : rz_ev (d + 3) 46 0 [some (.ref b), some (.int (nI r)), none] [] hp R ↔ R (some (.int (-1))) hp := by
  have hL := h.1
  obtain ⟨-, ⟨p0, p1, p2, p3, p4, p5, p6, p7⟩, -⟩ := id h
  have c2 : nI L.length ≤ nI r := nI_le hr h31
  by_cases h0 : L.length = 0
  · have c1 : nI L.length ≤ 0 := by rw [h0]; decide
    simp only [↓ri_46_0, ↓ri_46_1, ↓ri_46_2, ↓ri_46_3, ↓ri_46_4, ↓ri_46_7, ↓ri_46_35, ↓ri_46_36, p5, Option.some.injEq, Prod.mk.injEq, exists_eq_left', exists_eq', exists_and_left, exists_and_right, true_and, and_true, true_or, or_true, and_self, and_assoc, Option.toList_some, Option.toList_none, List.cons_append, List.nil_append, ↓reduceIte, rz_x01, rz_x10, ↓if_pos c1]
  · have c1 : ¬ nI L.length ≤ 0 := nI_nle (by omega) (by omega)
    simp only [↓ri_46_0, ↓ri_46_1, ↓ri_46_2, ↓ri_46_3, ↓ri_46_4, ↓ri_46_7, ↓ri_46_10, ↓ri_46_11, ↓ri_46_12, ↓ri_46_15, ↓ri_46_35, ↓ri_46_36, p5, Option.some.injEq, Prod.mk.injEq, exists_eq_left', exists_eq', exists_and_left, exists_and_right, true_and, and_true, true_or, or_true, and_self, and_assoc, Option.toList_some, Option.toList_none, List.cons_append, List.nil_append, ↓reduceIte, rz_x01, rz_x10, ↓if_neg c1, ↓if_pos c2]
set_option maxHeartbeats 4000000 in
set_option maxRecDepth 100000 in
theorem c_P_movesToReach {d b j : Nat} {L : List rz_En} {fl am : Int32} {hp : rz_Hp} {e : rz_En} (h : rz_PL b L fl am hp) (he : L[j]? = some e) {R : Option Value → rz_Hp → Prop} : rz_ev (d + 3) 48 0 [some (.ref b), some (.int (nI j)), none] [] hp R ↔ R (some (.int (if e.2.2.2.2 = 0 then 0 else nI (rz_cnt L e.2.2.2.2)))) hp := by
  obtain ⟨-, ⟨p0, p1, p2, p3, p4, p5, p6, p7⟩, -⟩ := id h
  have hc := fun R => c_P_pileAt (d := d + 1) h he (R := R)
  have hc2 := fun R => c_P_sizeOf (d := d) (p := e.2.2.2.2) h (R := R)
  by_cases h0 : e.2.2.2.2 = 0
  · simp only [↓ri_48_0, ↓ri_48_1, ↓ri_48_2, ↓ri_48_5, ↓ri_48_6, ↓ri_48_7, ↓ri_48_10, ↓ri_48_11, ↓ri_48_14, ↓ri_48_15, ↓ri_48_16, ↓ri_48_19, Option.some.injEq, Prod.mk.injEq, exists_eq_left', exists_eq', exists_and_left, exists_and_right, true_and, and_true, true_or, or_true, and_self, and_assoc, Option.toList_some, Option.toList_none, List.cons_append, List.nil_append, ↓reduceIte, rz_x01, rz_x10, rz_co_fv p5, hc, ↓if_pos h0]
  · simp only [↓ri_48_0, ↓ri_48_1, ↓ri_48_2, ↓ri_48_5, ↓ri_48_6, ↓ri_48_7, ↓ri_48_10, ↓ri_48_11, ↓ri_48_14, ↓ri_48_15, ↓ri_48_16, ↓ri_48_19, Option.some.injEq, Prod.mk.injEq, exists_eq_left', exists_eq', exists_and_left, exists_and_right, true_and, and_true, true_or, or_true, and_self, and_assoc, Option.toList_some, Option.toList_none, List.cons_append, List.nil_append, ↓reduceIte, rz_x01, rz_x10, rz_co_fv p5, hc, hc2, ↓if_neg h0]
def rz_mkS (p : Int32) (a : Int32) (x : rz_En) : Int32 := if x.2.2.2.2 = p ∧ (a = -5 ∨ x.2.1 < a) then x.2.1 else a
def rz_mk (L : List rz_En) (p : Int32) : Int32 := L.foldl (rz_mkS p) (-5)
theorem rz_mk_tk {L : List rz_En} {i : Nat} {e : rz_En} {p : Int32} (he : L[i]? = some e) : rz_mk (L.take (i + 1)) p = rz_mkS p (rz_mk (L.take i) p) e := by
  unfold rz_mk
  rw [rz_tk he, List.foldl_append]; rfl
set_option maxHeartbeats 4000000 in
set_option maxRecDepth 100000 in
theorem c_P_leastKeyOf {d b : Nat} {L : List rz_En} {fl am p : Int32} {hp : rz_Hp} (h : rz_PL b L fl am hp) {R : Option Value → rz_Hp → Prop} : rz_ev (d + 2) 51 0 [some (.ref b), some (.int p), none, none] [] hp R ↔ R (some (.int (rz_mk L p))) hp := by
  have hL := h.1
  obtain ⟨-, ⟨p0, p1, p2, p3, p4, p5, p6, p7⟩, -⟩ := id h
  have hl : ∀ i, i ≤ L.length → (rz_ev (d + 2) 51 5 [some (.ref b), some (.int p), some (.int (rz_mk (L.take i) p)), some (.int (nI i))] [] hp R ↔ R (some (.int (rz_mk L p))) hp) := by
    refine rz_down L.length ?_ ?_
    · have c1 := rz_top hL
      rw [ri_51_5]
      simp only [↓ri_51_6, ↓ri_51_7, ↓ri_51_10, ↓ri_51_13, ↓ri_51_14, ↓ri_51_15, ↓ri_51_18, ↓ri_51_19, ↓ri_51_22, ↓ri_51_23, ↓ri_51_25, ↓ri_51_28, ↓ri_51_29, ↓ri_51_30, ↓ri_51_33, ↓ri_51_34, ↓ri_51_37, ↓ri_51_38, ↓ri_51_39, ↓ri_51_42, ↓ri_51_43, ↓ri_51_46, ↓ri_51_49, ↓ri_51_50, p5, Option.some.injEq, Prod.mk.injEq, exists_eq_left', exists_eq', exists_and_left, exists_and_right, true_and, and_true, true_or, or_true, and_self, and_assoc, Option.toList_some, Option.toList_none, List.cons_append, List.nil_append, ↓reduceIte, rz_x01, rz_x10, ↓if_pos c1, List.take_length]
    · intro i hi ih
      have c1 : ¬ nI L.length ≤ nI i := nI_ge hi (by omega)
      obtain ⟨e2, he2⟩ := rz_ge (L := L) (i := i) (by omega)
      have hc := fun R => c_P_pileAt (d := d) h he2 (R := R)
      have hc2 := fun R => c_P_keyAt (d := d) h he2 (R := R)
      rw [← ih, rz_mk_tk he2, ri_51_5]
      unfold rz_mkS
      by_cases hx : e2.2.2.2.2 = p
      · by_cases hy : rz_mk (L.take i) p = -5
        · simp only [↓ri_51_6, ↓ri_51_7, ↓ri_51_10, ↓ri_51_13, ↓ri_51_14, ↓ri_51_15, ↓ri_51_18, ↓ri_51_19, ↓ri_51_22, ↓ri_51_23, ↓ri_51_25, ↓ri_51_28, ↓ri_51_29, ↓ri_51_30, ↓ri_51_33, ↓ri_51_34, ↓ri_51_37, ↓ri_51_38, ↓ri_51_39, ↓ri_51_42, ↓ri_51_43, ↓ri_51_46, p5, Option.some.injEq, Prod.mk.injEq, exists_eq_left', exists_eq', exists_and_left, exists_and_right, true_and, and_true, true_or, or_true, and_self, and_assoc, Option.toList_some, Option.toList_none, List.cons_append, List.nil_append, ↓reduceIte, rz_x01, rz_x10, ↓if_neg c1, rz_co_fv p5, hc, hc2, ↓if_pos hx, ↓if_pos hy, hx, hy, nI_1]
        · by_cases hz : e2.2.1 < rz_mk (L.take i) p
          · simp only [↓ri_51_6, ↓ri_51_7, ↓ri_51_10, ↓ri_51_13, ↓ri_51_14, ↓ri_51_15, ↓ri_51_18, ↓ri_51_19, ↓ri_51_22, ↓ri_51_23, ↓ri_51_25, ↓ri_51_28, ↓ri_51_29, ↓ri_51_30, ↓ri_51_33, ↓ri_51_34, ↓ri_51_37, ↓ri_51_38, ↓ri_51_39, ↓ri_51_42, ↓ri_51_43, ↓ri_51_46, p5, Option.some.injEq, Prod.mk.injEq, exists_eq_left', exists_eq', exists_and_left, exists_and_right, true_and, and_true, true_or, or_true, and_self, and_assoc, Option.toList_some, Option.toList_none, List.cons_append, List.nil_append, ↓reduceIte, rz_x01, rz_x10, ↓if_neg c1, rz_co_fv p5, hc, hc2, ↓if_pos hx, ↓if_neg hy, ↓if_neg (Int32.not_le.mpr hz), hx, hy, hz, nI_1, false_or]
          · simp only [↓ri_51_6, ↓ri_51_7, ↓ri_51_10, ↓ri_51_13, ↓ri_51_14, ↓ri_51_15, ↓ri_51_18, ↓ri_51_19, ↓ri_51_22, ↓ri_51_23, ↓ri_51_25, ↓ri_51_28, ↓ri_51_29, ↓ri_51_30, ↓ri_51_33, ↓ri_51_34, ↓ri_51_37, ↓ri_51_38, ↓ri_51_39, ↓ri_51_42, ↓ri_51_43, ↓ri_51_46, p5, Option.some.injEq, Prod.mk.injEq, exists_eq_left', exists_eq', exists_and_left, exists_and_right, true_and, and_true, true_or, or_true, and_self, and_assoc, Option.toList_some, Option.toList_none, List.cons_append, List.nil_append, ↓reduceIte, rz_x01, rz_x10, ↓if_neg c1, rz_co_fv p5, hc, hc2, ↓if_pos hx, ↓if_neg hy, ↓if_pos (Int32.not_lt.mp hz), hx, hy, hz, nI_1, false_or, and_false]
      · simp only [↓ri_51_6, ↓ri_51_7, ↓ri_51_10, ↓ri_51_13, ↓ri_51_14, ↓ri_51_15, ↓ri_51_18, ↓ri_51_19, ↓ri_51_22, ↓ri_51_23, ↓ri_51_25, ↓ri_51_28, ↓ri_51_29, ↓ri_51_30, ↓ri_51_33, ↓ri_51_34, ↓ri_51_37, ↓ri_51_38, ↓ri_51_39, ↓ri_51_42, ↓ri_51_43, ↓ri_51_46, p5, Option.some.injEq, Prod.mk.injEq, exists_eq_left', exists_eq', exists_and_left, exists_and_right, true_and, and_true, true_or, or_true, and_self, and_assoc, Option.toList_some, Option.toList_none, List.cons_append, List.nil_append, ↓reduceIte, rz_x01, rz_x10, ↓if_neg c1, rz_co_fv p5, hc, ↓if_neg hx, hx, nI_1, false_and]
  have h0 := hl 0 (Nat.zero_le _)
  rw [nI_0, show rz_mk (L.take 0) p = -5 from rfl] at h0
  simp only [↓ri_51_0, ↓ri_51_2, ↓ri_51_3, ↓ri_51_4, h0]
def rz_xkS (p : Int32) (a : Int32) (x : rz_En) : Int32 := if x.2.2.2.2 = p then (if a < x.2.1 then x.2.1 else a) else a
def rz_xk (L : List rz_En) (p : Int32) : Int32 := L.foldl (rz_xkS p) (-5)
theorem rz_xk_tk {L : List rz_En} {i : Nat} {e : rz_En} {p : Int32} (he : L[i]? = some e) : rz_xk (L.take (i + 1)) p = rz_xkS p (rz_xk (L.take i) p) e := by
  unfold rz_xk
  rw [rz_tk he, List.foldl_append]; rfl
set_option maxHeartbeats 4000000 in
set_option maxRecDepth 100000 in
theorem c_P_greatestKeyOf {d b : Nat} {L : List rz_En} {fl am p : Int32} {hp : rz_Hp} (h : rz_PL b L fl am hp) {R : Option Value → rz_Hp → Prop} : rz_ev (d + 2) 52 0 [some (.ref b), some (.int p), none, none] [] hp R ↔ R (some (.int (rz_xk L p))) hp := by
  have hL := h.1
  obtain ⟨-, ⟨p0, p1, p2, p3, p4, p5, p6, p7⟩, -⟩ := id h
  have hl : ∀ i, i ≤ L.length → (rz_ev (d + 2) 52 5 [some (.ref b), some (.int p), some (.int (rz_xk (L.take i) p)), some (.int (nI i))] [] hp R ↔ R (some (.int (rz_xk L p))) hp) := by
    refine rz_down L.length ?_ ?_
    · have c1 := rz_top hL
      rw [ri_52_5]
      simp only [↓ri_52_6, ↓ri_52_7, ↓ri_52_10, ↓ri_52_13, ↓ri_52_14, ↓ri_52_15, ↓ri_52_18, ↓ri_52_19, ↓ri_52_22, ↓ri_52_23, ↓ri_52_24, ↓ri_52_25, ↓ri_52_28, ↓ri_52_31, ↓ri_52_32, ↓ri_52_35, ↓ri_52_38, ↓ri_52_39, p5, Option.some.injEq, Prod.mk.injEq, exists_eq_left', exists_eq', exists_and_left, exists_and_right, true_and, and_true, true_or, or_true, and_self, and_assoc, Option.toList_some, Option.toList_none, List.cons_append, List.nil_append, ↓reduceIte, rz_x01, rz_x10, ↓if_pos c1, List.take_length]
    · intro i hi ih
      have c1 : ¬ nI L.length ≤ nI i := nI_ge hi (by omega)
      obtain ⟨e2, he2⟩ := rz_ge (L := L) (i := i) (by omega)
      have hc := fun R => c_P_pileAt (d := d) h he2 (R := R)
      have hc2 := fun R => c_P_keyAt (d := d) h he2 (R := R)
      rw [← ih, rz_xk_tk he2, ri_52_5]
      unfold rz_xkS
      by_cases hx : e2.2.2.2.2 = p
      · simp only [↓ri_52_6, ↓ri_52_7, ↓ri_52_10, ↓ri_52_13, ↓ri_52_14, ↓ri_52_15, ↓ri_52_18, ↓ri_52_19, ↓ri_52_22, ↓ri_52_23, ↓ri_52_24, ↓ri_52_25, ↓ri_52_28, ↓ri_52_31, ↓ri_52_32, ↓ri_52_35, ↓ri_52_38, ↓ri_52_39, p5, Option.some.injEq, Prod.mk.injEq, exists_eq_left', exists_eq', exists_and_left, exists_and_right, true_and, and_true, true_or, or_true, and_self, and_assoc, Option.toList_some, Option.toList_none, List.cons_append, List.nil_append, ↓reduceIte, rz_x01, rz_x10, ↓if_neg c1, rz_co_fv p5, hc, hc2, ↓if_pos hx, nI_1]
      · simp only [↓ri_52_6, ↓ri_52_7, ↓ri_52_10, ↓ri_52_13, ↓ri_52_14, ↓ri_52_15, ↓ri_52_18, ↓ri_52_19, ↓ri_52_22, ↓ri_52_23, ↓ri_52_24, ↓ri_52_25, ↓ri_52_28, ↓ri_52_31, ↓ri_52_32, ↓ri_52_35, ↓ri_52_38, ↓ri_52_39, p5, Option.some.injEq, Prod.mk.injEq, exists_eq_left', exists_eq', exists_and_left, exists_and_right, true_and, and_true, true_or, or_true, and_self, and_assoc, Option.toList_some, Option.toList_none, List.cons_append, List.nil_append, ↓reduceIte, rz_x01, rz_x10, ↓if_neg c1, rz_co_fv p5, hc, ↓if_neg hx, nI_1]
  have h0 := hl 0 (Nat.zero_le _)
  rw [nI_0, show rz_xk (L.take 0) p = -5 from rfl] at h0
  simp only [↓ri_52_0, ↓ri_52_2, ↓ri_52_3, ↓ri_52_4, h0]
def rz_fr (L : List rz_En) (p : Int32) : Int32 := match L.find? (fun e => decide (e.2.2.2.2 = p)) with
  | some e => e.1
  | none => -5
set_option maxHeartbeats 4000000 in
set_option maxRecDepth 100000 in
theorem c_P_frontOf {d b : Nat} {L : List rz_En} {fl am p : Int32} {hp : rz_Hp} (h : rz_PL b L fl am hp) {R : Option Value → rz_Hp → Prop} : rz_ev (d + 2) 53 0 [some (.ref b), some (.int p), none] [] hp R ↔ R (some (.int (rz_fr L p))) hp := by
  have hL := h.1
  obtain ⟨-, ⟨p0, p1, p2, p3, p4, p5, p6, p7⟩, -⟩ := id h
  have hl : ∀ i, i ≤ L.length → (rz_ev (d + 2) 53 2 [some (.ref b), some (.int p), some (.int (nI i))] [] hp R ↔ R (some (.int (rz_fr (L.drop i) p))) hp) := by
    refine rz_down L.length ?_ ?_
    · have c1 := rz_top hL
      rw [ri_53_2]
      simp only [↓ri_53_3, ↓ri_53_4, ↓ri_53_7, ↓ri_53_10, ↓ri_53_11, ↓ri_53_12, ↓ri_53_15, ↓ri_53_16, ↓ri_53_19, ↓ri_53_20, ↓ri_53_21, ↓ri_53_24, ↓ri_53_25, ↓ri_53_28, ↓ri_53_31, ↓ri_53_33, p5, Option.some.injEq, Prod.mk.injEq, exists_eq_left', exists_eq', exists_and_left, exists_and_right, true_and, and_true, true_or, or_true, and_self, and_assoc, Option.toList_some, Option.toList_none, List.cons_append, List.nil_append, ↓reduceIte, rz_x01, rz_x10, ↓if_pos c1, List.drop_length, rz_fr, List.find?_nil]
    · intro i hi ih
      have c1 : ¬ nI L.length ≤ nI i := nI_ge hi (by omega)
      obtain ⟨e2, he2⟩ := rz_ge (L := L) (i := i) (by omega)
      have hc := fun R => c_P_pileAt (d := d) h he2 (R := R)
      have hc2 := fun R => c_P_numberAt (d := d) h he2 (R := R)
      have hd : L.drop i = e2 :: L.drop (i + 1) := by
        rw [List.drop_eq_getElem_cons hi, (List.getElem?_eq_some_iff.mp he2).2]
      rw [hd, ri_53_2]
      by_cases hx : e2.2.2.2.2 = p
      · simp only [↓ri_53_3, ↓ri_53_4, ↓ri_53_7, ↓ri_53_10, ↓ri_53_11, ↓ri_53_12, ↓ri_53_15, ↓ri_53_16, ↓ri_53_19, ↓ri_53_20, ↓ri_53_21, ↓ri_53_24, ↓ri_53_25, ↓ri_53_28, ↓ri_53_31, ↓ri_53_33, p5, Option.some.injEq, Prod.mk.injEq, exists_eq_left', exists_eq', exists_and_left, exists_and_right, true_and, and_true, true_or, or_true, and_self, and_assoc, Option.toList_some, Option.toList_none, List.cons_append, List.nil_append, ↓reduceIte, rz_x01, rz_x10, ↓if_neg c1, rz_co_fv p5, hc, hc2, ↓if_pos hx, rz_fr, List.find?_cons, hx, decide_true]
      · rw [show rz_fr (e2 :: L.drop (i + 1)) p = rz_fr (L.drop (i + 1)) p by unfold rz_fr; rw [List.find?_cons_of_neg (by simpa using hx)], ← ih]
        simp only [↓ri_53_3, ↓ri_53_4, ↓ri_53_7, ↓ri_53_10, ↓ri_53_11, ↓ri_53_12, ↓ri_53_15, ↓ri_53_16, ↓ri_53_19, ↓ri_53_20, ↓ri_53_21, ↓ri_53_24, ↓ri_53_25, ↓ri_53_28, p5, Option.some.injEq, Prod.mk.injEq, exists_eq_left', exists_eq', exists_and_left, exists_and_right, true_and, and_true, true_or, or_true, and_self, and_assoc, Option.toList_some, Option.toList_none, List.cons_append, List.nil_append, ↓reduceIte, rz_x01, rz_x10, ↓if_neg c1, rz_co_fv p5, hc, ↓if_neg hx, nI_1]
  have h0 := hl 0 (Nat.zero_le _)
  rw [nI_0, List.drop_zero] at h0
  simp only [↓ri_53_0, ↓ri_53_1, h0]
def rz_smp (L : List rz_En) : Int32 := L.foldl (fun a x => a + x.2.2.2.2) 0
set_option maxHeartbeats 4000000 in
set_option maxRecDepth 100000 in
theorem c_P_sumOfPiles {d b : Nat} {L : List rz_En} {fl am : Int32} {hp : rz_Hp} (h : rz_PL b L fl am hp) {R : Option Value → rz_Hp → Prop} : rz_ev (d + 2) 54 0 [some (.ref b), none, none] [] hp R ↔ R (some (.int (rz_smp L))) hp := by
  have hL := h.1
  obtain ⟨-, ⟨p0, p1, p2, p3, p4, p5, p6, p7⟩, -⟩ := id h
  have hl : ∀ i, i ≤ L.length → (rz_ev (d + 2) 54 4 [some (.ref b), some (.int (rz_smp (L.take i))), some (.int (nI i))] [] hp R ↔ R (some (.int (rz_smp L))) hp) := by
    refine rz_down L.length ?_ ?_
    · have c1 := rz_top hL
      rw [ri_54_4]
      simp only [↓ri_54_5, ↓ri_54_6, ↓ri_54_9, ↓ri_54_12, ↓ri_54_13, ↓ri_54_14, ↓ri_54_15, ↓ri_54_18, ↓ri_54_19, ↓ri_54_20, ↓ri_54_23, ↓ri_54_26, ↓ri_54_27, p5, Option.some.injEq, Prod.mk.injEq, exists_eq_left', exists_eq', exists_and_left, exists_and_right, true_and, and_true, true_or, or_true, and_self, and_assoc, Option.toList_some, Option.toList_none, List.cons_append, List.nil_append, ↓reduceIte, rz_x01, rz_x10, ↓if_pos c1, List.take_length]
    · intro i hi ih
      have c1 : ¬ nI L.length ≤ nI i := nI_ge hi (by omega)
      obtain ⟨e2, he2⟩ := rz_ge (L := L) (i := i) (by omega)
      have hc := fun R => c_P_pileAt (d := d) h he2 (R := R)
      rw [← ih, show rz_smp (L.take (i + 1)) = rz_smp (L.take i) + e2.2.2.2.2 by unfold rz_smp; rw [rz_tk he2, List.foldl_append]; rfl, ri_54_4]
      simp only [↓ri_54_5, ↓ri_54_6, ↓ri_54_9, ↓ri_54_12, ↓ri_54_13, ↓ri_54_14, ↓ri_54_15, ↓ri_54_18, ↓ri_54_19, ↓ri_54_20, ↓ri_54_23, ↓ri_54_26, ↓ri_54_27, p5, Option.some.injEq, Prod.mk.injEq, exists_eq_left', exists_eq', exists_and_left, exists_and_right, true_and, and_true, true_or, or_true, and_self, and_assoc, Option.toList_some, Option.toList_none, List.cons_append, List.nil_append, ↓reduceIte, rz_x01, rz_x10, ↓if_neg c1, rz_co_fv p5, hc, nI_1]
  have h0 := hl 0 (Nat.zero_le _)
  rw [nI_0, show rz_smp (L.take 0) = 0 from rfl] at h0
  simp only [↓ri_54_0, ↓ri_54_1, ↓ri_54_2, ↓ri_54_3, h0]
def rz_pu (L : List rz_En) (n : Nat) : Nat := (List.range n).countP (fun p => decide (¬ rz_fr L (nI p) = -5))
set_option maxHeartbeats 4000000 in
set_option maxRecDepth 100000 in
theorem c_P_pilesInUse {d b : Nat} {L : List rz_En} {fl am : Int32} {hp : rz_Hp} (h : rz_PL b L fl am hp) {R : Option Value → rz_Hp → Prop} : rz_ev (d + 3) 55 0 [some (.ref b), none, none] [] hp R ↔ R (some (.int (nI (rz_pu L 17)))) hp := by
  have hL := h.1
  obtain ⟨-, ⟨p0, p1, p2, p3, p4, p5, p6, p7⟩, -⟩ := id h
  have hl : ∀ i, i ≤ 17 → (rz_ev (d + 3) 55 4 [some (.ref b), some (.int (nI (rz_pu L i))), some (.int (nI i))] [] hp R ↔ R (some (.int (nI (rz_pu L 17)))) hp) := by
    refine rz_down 17 ?_ ?_
    · have c1 : (17 : Int32) ≤ nI 17 := by decide
      rw [ri_55_4]
      simp only [↓ri_55_5, ↓ri_55_7, ↓ri_55_10, ↓ri_55_11, ↓ri_55_12, ↓ri_55_15, ↓ri_55_17, ↓ri_55_20, ↓ri_55_23, ↓ri_55_26, ↓ri_55_29, ↓ri_55_30, p5, Option.some.injEq, Prod.mk.injEq, exists_eq_left', exists_eq', exists_and_left, exists_and_right, true_and, and_true, true_or, or_true, and_self, and_assoc, Option.toList_some, Option.toList_none, List.cons_append, List.nil_append, ↓reduceIte, rz_x01, rz_x10, ↓if_pos c1]
    · intro i hi ih
      have c1 : ¬ (17 : Int32) ≤ nI i := nI_ge (b := 17) hi (by decide)
      have hc := fun R => c_P_frontOf (d := d) (p := nI i) h (R := R)
      have hs : rz_pu L (i + 1) = rz_pu L i + (if rz_fr L (nI i) = -5 then 0 else 1) := by
        unfold rz_pu
        rw [List.range_succ, List.countP_append]
        by_cases hx : rz_fr L (nI i) = -5 <;> simp [hx]
      rw [← ih, hs, ri_55_4]
      by_cases hx : rz_fr L (nI i) = -5
      · simp only [↓ri_55_5, ↓ri_55_7, ↓ri_55_10, ↓ri_55_11, ↓ri_55_12, ↓ri_55_15, ↓ri_55_17, ↓ri_55_20, ↓ri_55_23, ↓ri_55_26, ↓ri_55_29, ↓ri_55_30, p5, Option.some.injEq, Prod.mk.injEq, exists_eq_left', exists_eq', exists_and_left, exists_and_right, true_and, and_true, true_or, or_true, and_self, and_assoc, Option.toList_some, Option.toList_none, List.cons_append, List.nil_append, ↓reduceIte, rz_x01, rz_x10, ↓if_neg c1, rz_co_fv p5, hc, ↓if_pos hx, nI_1, Nat.add_zero]
      · simp only [↓ri_55_5, ↓ri_55_7, ↓ri_55_10, ↓ri_55_11, ↓ri_55_12, ↓ri_55_15, ↓ri_55_17, ↓ri_55_20, ↓ri_55_23, ↓ri_55_26, ↓ri_55_29, ↓ri_55_30, p5, Option.some.injEq, Prod.mk.injEq, exists_eq_left', exists_eq', exists_and_left, exists_and_right, true_and, and_true, true_or, or_true, and_self, and_assoc, Option.toList_some, Option.toList_none, List.cons_append, List.nil_append, ↓reduceIte, rz_x01, rz_x10, ↓if_neg c1, rz_co_fv p5, hc, ↓if_neg hx, nI_1]
  have h0 := hl 0 (Nat.zero_le _)
  rw [nI_0, show rz_pu L 0 = 0 from rfl, nI_0] at h0
  simp only [↓ri_55_0, ↓ri_55_1, ↓ri_55_2, ↓ri_55_3, h0]
