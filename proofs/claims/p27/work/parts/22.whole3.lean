/-! RisingPiles goes on: what is told -/
def rz_d0 : rz_En := (0, 0, 0, 0, 0)
def rz_entry_ (L : List rz_En) (n what : Int32) : Int32 := match rz_fi L n with
  | none => -1
  | some j => if what = 0 then (L.getD j (0, 0, 0, 0, 0)).2.1 else if what = 1 then (L.getD j (0, 0, 0, 0, 0)).2.2.1 else if what = 2 then (L.getD j (0, 0, 0, 0, 0)).2.2.2.2 else if what = 3 then nI (rz_cnt (L.take j) (L.getD j (0, 0, 0, 0, 0)).2.2.2.2) else if what = 4 then (L.getD j (0, 0, 0, 0, 0)).2.2.2.1 else -2
def rz_pile_ (L : List rz_En) (p what : Int32) : Int32 := if p < 0 ∨ 17 ≤ p then -1 else if what = 0 then nI (rz_cnt L p) else if what = 1 then rz_mk L p else if what = 2 then rz_xk L p else if what = 3 then rz_fr L p else -2
def rz_next_ (L : List rz_En) (what : Int32) : Int32 := if what < 0 ∨ 2 < what then -2 else match rz_nxf L with
  | none => -5
  | some j => if what = 0 then (L.getD j (0, 0, 0, 0, 0)).1 else if what = 1 then (L.getD j (0, 0, 0, 0, 0)).2.1 else if (L.getD j (0, 0, 0, 0, 0)).2.2.2.2 = 0 then 0 else nI (rz_cnt L (L.getD j (0, 0, 0, 0, 0)).2.2.2.2)
def rz_rj (L : List rz_En) (r : Nat) : Option Nat := (List.range L.length).find? (fun i => decide (rz_rkL L i = r))
def rz_ranked_ (L : List rz_En) (rank : Int32) : Int32 := if rank < 0 then -2 else match rz_rj L rank.toNatClampNeg with
  | none => -5
  | some j => (L.getD j (0, 0, 0, 0, 0)).1
noncomputable def rz_roadOf_ (rd : Nat → Int32) (x y : Int32) : Int32 := haveI : (p : Prop) → Decidable p := Classical.propDecidable; if rz_town x ∧ rz_town y then rd (rz_ix x y) else -1
noncomputable def rz_distance_ (rd : Nat → Int32) (x y : Int32) : Int32 := haveI : (p : Prop) → Decidable p := Classical.propDecidable; if rz_town x ∧ rz_town y then (rz_sch rd x.toNatClampNeg).2.2.2.1 y.toNatClampNeg else -1
noncomputable def rz_search_ (rd : Nat → Int32) (x what : Int32) : Int32 := haveI : (p : Prop) → Decidable p := Classical.propDecidable; if rz_town x then (if what = 0 then (rz_sch rd x.toNatClampNeg).2.2.2.2.1 else if what = 1 then nI (rz_sch rd x.toNatClampNeg).2.2.2.2.2.1 else if what = 2 then (rz_sch rd x.toNatClampNeg).2.2.1 else if what = 3 then (rz_sch rd x.toNatClampNeg).2.2.2.2.2.2 else -2) else -1
def rz_count_ : rz_AS → Nat → Nat → Int32 → Int32 := fun (L, fl, am, lat, rd, laid, ci, co, tb) hn tn what => if what = 0 then nI L.length else if what = 1 then ci else if what = 2 then co else if what = 3 then fl else if what = 4 then am else if what = 5 then nI (rz_pu L 17) else if what = 6 then laid else if what = 7 then tb else if what = 8 then nI hn else if what = 9 then nI tn else -2
set_option maxHeartbeats 4000000 in
set_option maxRecDepth 100000 in
theorem c_P_indexOfRankN {d b r : Nat} {L : List rz_En} {fl am : Int32} {hp : rz_Hp} (h : rz_PL b L fl am hp) (hr : r < L.length) (h2 : ∀ i, i < L.length → rz_rkL L i ≠ r) {R : Option Value → rz_Hp → Prop} : rz_ev (d + 3) 46 0 [some (.ref b), some (.int (nI r)), none] [] hp R ↔ R (some (.int (-1))) hp := by
  have hL := h.1
  obtain ⟨-, ⟨p0, p1, p2, p3, p4, p5, p6, p7⟩, -⟩ := id h
  have c2 : ¬ nI L.length ≤ nI r := nI_ge hr (by omega)
  have hl : ∀ i, i ≤ L.length → (rz_ev (d + 3) 46 2 [some (.ref b), some (.int (nI r)), some (.int (nI i))] [] hp R ↔ R (some (.int (-1))) hp) := by
    refine rz_down L.length ?_ ?_
    · have c1 := rz_top hL
      rw [ri_46_2]
      simp only [↓ri_46_3, ↓ri_46_4, ↓ri_46_7, ↓ri_46_10, ↓ri_46_11, ↓ri_46_12, ↓ri_46_15, ↓ri_46_18, ↓ri_46_19, ↓ri_46_20, ↓ri_46_23, ↓ri_46_24, ↓ri_46_27, ↓ri_46_28, ↓ri_46_29, ↓ri_46_32, ↓ri_46_35, ↓ri_46_36, p5, Option.some.injEq, Prod.mk.injEq, exists_eq_left', exists_eq', exists_and_left, exists_and_right, true_and, and_true, true_or, or_true, and_self, and_assoc, Option.toList_some, Option.toList_none, List.cons_append, List.nil_append, ↓reduceIte, rz_x01, rz_x10, ↓if_pos c1]
    · intro i hi ih
      have c1 : ¬ nI L.length ≤ nI i := nI_ge (by omega) (by omega)
      obtain ⟨e, he⟩ := rz_ge (L := L) (i := i) (by omega)
      have hc := fun R => c_P_rankAt (d := d) h he (R := R)
      have hk : ¬ nI (rz_rk L i e.2.1 L.length) = nI r := by
        have h3 := h2 i hi
        unfold rz_rkL at h3
        rw [he] at h3
        rw [nI_eq (by have := rz_rk_le (L := L) (j := i) (k := e.2.1) (n := L.length); omega) (by omega)]
        exact h3
      rw [← ih]
      rw [ri_46_2]
      simp only [↓ri_46_3, ↓ri_46_4, ↓ri_46_7, ↓ri_46_10, ↓ri_46_11, ↓ri_46_12, ↓ri_46_15, ↓ri_46_18, ↓ri_46_19, ↓ri_46_20, ↓ri_46_23, ↓ri_46_24, ↓ri_46_27, ↓ri_46_28, ↓ri_46_29, ↓ri_46_32, p5, Option.some.injEq, Prod.mk.injEq, exists_eq_left', exists_eq', exists_and_left, exists_and_right, true_and, and_true, true_or, or_true, and_self, and_assoc, Option.toList_some, Option.toList_none, List.cons_append, List.nil_append, ↓reduceIte, rz_x01, rz_x10, ↓if_neg c1, ↓if_neg c2, rz_co_fv p5, hc, ↓if_neg hk, nI_1]
  have h0 := hl 0 (Nat.zero_le _)
  rw [nI_0] at h0
  simp only [↓ri_46_0, ↓ri_46_1, h0]
theorem rz_gd {L : List rz_En} {j : Nat} {e : rz_En} (he : L[j]? = some e) : L.getD j (0, 0, 0, 0, 0) = e := by rw [List.getD_eq_getElem?_getD, he]; rfl
theorem rz_rkL_lt {L : List rz_En} {j : Nat} (hj : j < L.length) : rz_rkL L j < L.length := by
  obtain ⟨e, he⟩ := rz_ge hj
  unfold rz_rkL
  rw [he]
  dsimp only
  unfold rz_rk
  rw [List.take_of_length_le (by rw [List.length_zipIdx]; exact Nat.le_refl _)]
  have h1 : L.zipIdx.countP (fun q => decide (q.1.2.1 < e.2.1 ∨ (q.1.2.1 = e.2.1 ∧ q.2 < j))) ≤ L.zipIdx.length := List.countP_le_length
  have h2 : ¬ L.zipIdx.countP (fun q => decide (q.1.2.1 < e.2.1 ∨ (q.1.2.1 = e.2.1 ∧ q.2 < j))) = L.zipIdx.length := by
    rw [List.countP_eq_length]
    intro h
    have hz : L.zipIdx[j]? = some (e, j) := by rw [List.getElem?_zipIdx, he]; simp
    have := h (e, j) (List.mem_of_getElem? hz)
    simp at this
  rw [List.length_zipIdx] at h1 h2
  omega
section RZRT
variable {d o : Nat} {nw bf sn nw' : rz_AS} {hist hist' : List rz_AS} {tx tx' : List Int32} {os os' : List rz_Or} {pl pl' : Int32} {ss ss' : rz_SS} {tk ro re : Int32} {hp h1 : rz_Hp} {R : Option Value → rz_Hp → Prop}
set_option maxHeartbeats 4000000 in
set_option maxRecDepth 100000 in
theorem c_C_entry {n what : Int32} (h : rz_RP o nw bf sn hist tx os pl ss tk ro re hp) : rz_ev (d + 4) 102 0 [some (.ref o), some (.int n), some (.int what), none] [] hp R ↔ R (some (.int (rz_entry_ nw.1 n what))) hp := by
  obtain ⟨p0, p1, p2, p3, p4, p5, p6, p7, p8, p9⟩ := id h.1
  obtain ⟨L, fl, am, lat, rd, laid, ci, co, tb⟩ := nw
  obtain ⟨⟨t0, t1, t2, t3, t4, t5⟩, hP, hT, hRd⟩ := id h.2.1
  have hco := rz_co_fv hP.2.1.1
  have hq := fun R => c_P_indexOf (d := d + 1) (n := n) hP (R := R)
  unfold rz_entry_
  dsimp only
  cases hx : rz_fi L n with
  | none =>
    unfold rz_fi at hx
    simp only [↓ri_102_0, ↓ri_102_1, ↓ri_102_4, ↓ri_102_7, ↓ri_102_8, ↓ri_102_11, ↓ri_102_12, ↓ri_102_13, ↓ri_102_14, ↓ri_102_17, ↓ri_102_18, ↓ri_102_19, ↓ri_102_20, ↓ri_102_56, ↓ri_102_57, ↓ri_102_60, ↓ri_102_63, ↓ri_102_64, ↓ri_102_67, ↓ri_102_68, ↓ri_102_69, ↓ri_102_72, ↓ri_102_75, ↓ri_102_76, ↓ri_102_79, ↓ri_102_80, ↓ri_102_81, ↓ri_102_84, ↓ri_102_87, ↓ri_102_88, ↓ri_102_91, ↓ri_102_92, ↓ri_102_93, ↓ri_102_96, ↓ri_102_99, ↓ri_102_100, ↓ri_102_103, ↓ri_102_104, ↓ri_102_105, ↓ri_102_108, ↓ri_102_111, ↓ri_102_112, ↓ri_102_115, ↓ri_102_116, ↓ri_102_118, Option.some.injEq, Prod.mk.injEq, exists_eq_left', exists_eq', exists_and_left, exists_and_right, true_and, and_true, true_or, or_true, and_self, and_assoc, Option.toList_some, Option.toList_none, List.cons_append, List.nil_append, ↓reduceIte, rz_x01, rz_x10, p0, t0, hco, hq, hx, rz_oi]
  | some j =>
    obtain ⟨e, he, -⟩ := rz_fi_some hx
    have hj := (List.getElem?_eq_some_iff.mp he).1
    have hL := hP.1
    have hd := rz_gd he
    unfold rz_fi at hx
    have z2 : ¬ nI j = -1 := fun q => nI_pos (show j < 2 ^ 31 by omega) (by rw [q]; decide)
    have g1 := fun R => c_P_keyAt (d := d + 2) hP he (R := R)
    have g2 := fun R => c_P_valueAt (d := d + 2) hP he (R := R)
    have g3 := fun R => c_P_pileAt (d := d + 2) hP he (R := R)
    have g4 := fun R => c_P_placeAt (d := d + 1) hP he (R := R)
    have g5 := fun R => c_P_movesAt (d := d + 2) hP he (R := R)
    simp only [↓ri_102_0, ↓ri_102_1, ↓ri_102_4, ↓ri_102_7, ↓ri_102_8, ↓ri_102_11, ↓ri_102_12, ↓ri_102_13, ↓ri_102_14, ↓ri_102_17, ↓ri_102_18, ↓ri_102_19, ↓ri_102_20, ↓ri_102_56, ↓ri_102_57, ↓ri_102_60, ↓ri_102_63, ↓ri_102_64, ↓ri_102_67, ↓ri_102_68, ↓ri_102_69, ↓ri_102_72, ↓ri_102_75, ↓ri_102_76, ↓ri_102_79, ↓ri_102_80, ↓ri_102_81, ↓ri_102_84, ↓ri_102_87, ↓ri_102_88, ↓ri_102_91, ↓ri_102_92, ↓ri_102_93, ↓ri_102_96, ↓ri_102_99, ↓ri_102_100, ↓ri_102_103, ↓ri_102_104, ↓ri_102_105, ↓ri_102_108, ↓ri_102_111, ↓ri_102_112, ↓ri_102_115, ↓ri_102_116, ↓ri_102_118, Option.some.injEq, Prod.mk.injEq, exists_eq_left', exists_eq', exists_and_left, exists_and_right, true_and, and_true, true_or, or_true, and_self, and_assoc, Option.toList_some, Option.toList_none, List.cons_append, List.nil_append, ↓reduceIte, rz_x01, rz_x10, p0, t0, hco, hq, hx, rz_oi, ↓if_neg z2, hd, g1, g2, g3, g4, g5]
    by_cases w0 : what = 0
    · simp only [Option.some.injEq, Prod.mk.injEq, exists_eq_left', exists_eq', exists_and_left, exists_and_right, true_and, and_true, true_or, or_true, and_self, and_assoc, Option.toList_some, Option.toList_none, List.cons_append, List.nil_append, ↓reduceIte, rz_x01, rz_x10, ↓if_pos w0]
    · by_cases w1 : what = 1
      · simp only [Option.some.injEq, Prod.mk.injEq, exists_eq_left', exists_eq', exists_and_left, exists_and_right, true_and, and_true, true_or, or_true, and_self, and_assoc, Option.toList_some, Option.toList_none, List.cons_append, List.nil_append, ↓reduceIte, rz_x01, rz_x10, ↓if_neg w0, ↓if_pos w1]
      · by_cases w2 : what = 2
        · simp only [Option.some.injEq, Prod.mk.injEq, exists_eq_left', exists_eq', exists_and_left, exists_and_right, true_and, and_true, true_or, or_true, and_self, and_assoc, Option.toList_some, Option.toList_none, List.cons_append, List.nil_append, ↓reduceIte, rz_x01, rz_x10, ↓if_neg w0, ↓if_neg w1, ↓if_pos w2]
        · by_cases w3 : what = 3
          · simp only [Option.some.injEq, Prod.mk.injEq, exists_eq_left', exists_eq', exists_and_left, exists_and_right, true_and, and_true, true_or, or_true, and_self, and_assoc, Option.toList_some, Option.toList_none, List.cons_append, List.nil_append, ↓reduceIte, rz_x01, rz_x10, ↓if_neg w0, ↓if_neg w1, ↓if_neg w2, ↓if_pos w3]
          · by_cases w4 : what = 4
            · simp only [Option.some.injEq, Prod.mk.injEq, exists_eq_left', exists_eq', exists_and_left, exists_and_right, true_and, and_true, true_or, or_true, and_self, and_assoc, Option.toList_some, Option.toList_none, List.cons_append, List.nil_append, ↓reduceIte, rz_x01, rz_x10, ↓if_neg w0, ↓if_neg w1, ↓if_neg w2, ↓if_neg w3, ↓if_pos w4]
            · simp only [Option.some.injEq, Prod.mk.injEq, exists_eq_left', exists_eq', exists_and_left, exists_and_right, true_and, and_true, true_or, or_true, and_self, and_assoc, Option.toList_some, Option.toList_none, List.cons_append, List.nil_append, ↓reduceIte, rz_x01, rz_x10, ↓if_neg w0, ↓if_neg w1, ↓if_neg w2, ↓if_neg w3, ↓if_neg w4]
set_option maxHeartbeats 4000000 in
set_option maxRecDepth 100000 in
theorem c_C_pile {p what : Int32} (h : rz_RP o nw bf sn hist tx os pl ss tk ro re hp) : rz_ev (d + 3) 103 0 [some (.ref o), some (.int p), some (.int what)] [] hp R ↔ R (some (.int (rz_pile_ nw.1 p what))) hp := by
  obtain ⟨p0, p1, p2, p3, p4, p5, p6, p7, p8, p9⟩ := id h.1
  obtain ⟨L, fl, am, lat, rd, laid, ci, co, tb⟩ := nw
  obtain ⟨⟨t0, t1, t2, t3, t4, t5⟩, hP, hT, hRd⟩ := id h.2.1
  have hco := rz_co_fv hP.2.1.1
  have g1 := fun R => c_P_sizeOf (d := d) (p := p) hP (R := R)
  have g2 := fun R => c_P_leastKeyOf (d := d) (p := p) hP (R := R)
  have g3 := fun R => c_P_greatestKeyOf (d := d) (p := p) hP (R := R)
  have g4 := fun R => c_P_frontOf (d := d) (p := p) hP (R := R)
  unfold rz_pile_
  dsimp only
  by_cases a : p < 0
  · simp only [↓ri_103_0, ↓ri_103_1, ↓ri_103_4, ↓ri_103_5, ↓ri_103_7, ↓ri_103_10, ↓ri_103_11, ↓ri_103_12, ↓ri_103_13, ↓ri_103_44, ↓ri_103_45, ↓ri_103_48, ↓ri_103_51, ↓ri_103_52, ↓ri_103_55, ↓ri_103_56, ↓ri_103_57, ↓ri_103_60, ↓ri_103_63, ↓ri_103_64, ↓ri_103_67, ↓ri_103_68, ↓ri_103_69, ↓ri_103_72, ↓ri_103_75, ↓ri_103_76, ↓ri_103_79, ↓ri_103_80, ↓ri_103_81, ↓ri_103_84, ↓ri_103_87, ↓ri_103_88, ↓ri_103_91, ↓ri_103_92, ↓ri_103_94, Option.some.injEq, Prod.mk.injEq, exists_eq_left', exists_eq', exists_and_left, exists_and_right, true_and, and_true, true_or, or_true, and_self, and_assoc, Option.toList_some, Option.toList_none, List.cons_append, List.nil_append, ↓reduceIte, rz_x01, rz_x10, ↓if_pos a, a]
  · by_cases b : 17 ≤ p
    · simp only [↓ri_103_0, ↓ri_103_1, ↓ri_103_4, ↓ri_103_5, ↓ri_103_7, ↓ri_103_10, ↓ri_103_11, ↓ri_103_12, ↓ri_103_13, ↓ri_103_44, ↓ri_103_45, ↓ri_103_48, ↓ri_103_51, ↓ri_103_52, ↓ri_103_55, ↓ri_103_56, ↓ri_103_57, ↓ri_103_60, ↓ri_103_63, ↓ri_103_64, ↓ri_103_67, ↓ri_103_68, ↓ri_103_69, ↓ri_103_72, ↓ri_103_75, ↓ri_103_76, ↓ri_103_79, ↓ri_103_80, ↓ri_103_81, ↓ri_103_84, ↓ri_103_87, ↓ri_103_88, ↓ri_103_91, ↓ri_103_92, ↓ri_103_94, Option.some.injEq, Prod.mk.injEq, exists_eq_left', exists_eq', exists_and_left, exists_and_right, true_and, and_true, true_or, or_true, and_self, and_assoc, Option.toList_some, Option.toList_none, List.cons_append, List.nil_append, ↓reduceIte, rz_x01, rz_x10, ↓if_neg a, ↓if_neg (Int32.not_lt.mpr b), a, b]
    · simp only [↓ri_103_0, ↓ri_103_1, ↓ri_103_4, ↓ri_103_5, ↓ri_103_7, ↓ri_103_10, ↓ri_103_11, ↓ri_103_12, ↓ri_103_13, ↓ri_103_44, ↓ri_103_45, ↓ri_103_48, ↓ri_103_51, ↓ri_103_52, ↓ri_103_55, ↓ri_103_56, ↓ri_103_57, ↓ri_103_60, ↓ri_103_63, ↓ri_103_64, ↓ri_103_67, ↓ri_103_68, ↓ri_103_69, ↓ri_103_72, ↓ri_103_75, ↓ri_103_76, ↓ri_103_79, ↓ri_103_80, ↓ri_103_81, ↓ri_103_84, ↓ri_103_87, ↓ri_103_88, ↓ri_103_91, ↓ri_103_92, ↓ri_103_94, Option.some.injEq, Prod.mk.injEq, exists_eq_left', exists_eq', exists_and_left, exists_and_right, true_and, and_true, true_or, or_true, and_self, and_assoc, Option.toList_some, Option.toList_none, List.cons_append, List.nil_append, ↓reduceIte, rz_x01, rz_x10, ↓if_neg a, ↓if_pos (Int32.not_le.mp b), a, b, or_self, p0, t0, hco, g1, g2, g3, g4]
      by_cases w0 : what = 0
      · simp only [Option.some.injEq, Prod.mk.injEq, exists_eq_left', exists_eq', exists_and_left, exists_and_right, true_and, and_true, true_or, or_true, and_self, and_assoc, Option.toList_some, Option.toList_none, List.cons_append, List.nil_append, ↓reduceIte, rz_x01, rz_x10, ↓if_pos w0]
      · by_cases w1 : what = 1
        · simp only [Option.some.injEq, Prod.mk.injEq, exists_eq_left', exists_eq', exists_and_left, exists_and_right, true_and, and_true, true_or, or_true, and_self, and_assoc, Option.toList_some, Option.toList_none, List.cons_append, List.nil_append, ↓reduceIte, rz_x01, rz_x10, ↓if_neg w0, ↓if_pos w1]
        · by_cases w2 : what = 2
          · simp only [Option.some.injEq, Prod.mk.injEq, exists_eq_left', exists_eq', exists_and_left, exists_and_right, true_and, and_true, true_or, or_true, and_self, and_assoc, Option.toList_some, Option.toList_none, List.cons_append, List.nil_append, ↓reduceIte, rz_x01, rz_x10, ↓if_neg w0, ↓if_neg w1, ↓if_pos w2]
          · by_cases w3 : what = 3
            · simp only [Option.some.injEq, Prod.mk.injEq, exists_eq_left', exists_eq', exists_and_left, exists_and_right, true_and, and_true, true_or, or_true, and_self, and_assoc, Option.toList_some, Option.toList_none, List.cons_append, List.nil_append, ↓reduceIte, rz_x01, rz_x10, ↓if_neg w0, ↓if_neg w1, ↓if_neg w2, ↓if_pos w3]
            · simp only [Option.some.injEq, Prod.mk.injEq, exists_eq_left', exists_eq', exists_and_left, exists_and_right, true_and, and_true, true_or, or_true, and_self, and_assoc, Option.toList_some, Option.toList_none, List.cons_append, List.nil_append, ↓reduceIte, rz_x01, rz_x10, ↓if_neg w0, ↓if_neg w1, ↓if_neg w2, ↓if_neg w3]
set_option maxHeartbeats 4000000 in
set_option maxRecDepth 100000 in
theorem c_C_next {what : Int32} (h : rz_RP o nw bf sn hist tx os pl ss tk ro re hp) : rz_ev (d + 4) 104 0 [some (.ref o), some (.int what), none] [] hp R ↔ R (some (.int (rz_next_ nw.1 what))) hp := by
  obtain ⟨p0, p1, p2, p3, p4, p5, p6, p7, p8, p9⟩ := id h.1
  obtain ⟨L, fl, am, lat, rd, laid, ci, co, tb⟩ := nw
  obtain ⟨⟨t0, t1, t2, t3, t4, t5⟩, hP, hT, hRd⟩ := id h.2.1
  have hco := rz_co_fv hP.2.1.1
  unfold rz_next_
  dsimp only
  by_cases a : what < 0
  · simp only [↓ri_104_0, ↓ri_104_1, ↓ri_104_4, ↓ri_104_5, ↓ri_104_6, ↓ri_104_9, ↓ri_104_11, ↓ri_104_12, ↓ri_104_13, ↓ri_104_16, ↓ri_104_19, ↓ri_104_22, ↓ri_104_23, ↓ri_104_24, ↓ri_104_25, ↓ri_104_28, ↓ri_104_30, ↓ri_104_31, ↓ri_104_32, ↓ri_104_60, ↓ri_104_61, ↓ri_104_64, ↓ri_104_67, ↓ri_104_68, ↓ri_104_71, ↓ri_104_72, ↓ri_104_73, ↓ri_104_76, ↓ri_104_79, ↓ri_104_80, ↓ri_104_83, ↓ri_104_84, ↓ri_104_85, ↓ri_104_88, ↓ri_104_91, ↓ri_104_92, ↓ri_104_95, Option.some.injEq, Prod.mk.injEq, exists_eq_left', exists_eq', exists_and_left, exists_and_right, true_and, and_true, true_or, or_true, and_self, and_assoc, Option.toList_some, Option.toList_none, List.cons_append, List.nil_append, ↓reduceIte, rz_x01, rz_x10, ↓if_pos a, a]
  · by_cases b : 2 < what
    · simp only [↓ri_104_0, ↓ri_104_1, ↓ri_104_4, ↓ri_104_5, ↓ri_104_6, ↓ri_104_9, ↓ri_104_11, ↓ri_104_12, ↓ri_104_13, ↓ri_104_16, ↓ri_104_19, ↓ri_104_22, ↓ri_104_23, ↓ri_104_24, ↓ri_104_25, ↓ri_104_28, ↓ri_104_30, ↓ri_104_31, ↓ri_104_32, ↓ri_104_60, ↓ri_104_61, ↓ri_104_64, ↓ri_104_67, ↓ri_104_68, ↓ri_104_71, ↓ri_104_72, ↓ri_104_73, ↓ri_104_76, ↓ri_104_79, ↓ri_104_80, ↓ri_104_83, ↓ri_104_84, ↓ri_104_85, ↓ri_104_88, ↓ri_104_91, ↓ri_104_92, ↓ri_104_95, Option.some.injEq, Prod.mk.injEq, exists_eq_left', exists_eq', exists_and_left, exists_and_right, true_and, and_true, true_or, or_true, and_self, and_assoc, Option.toList_some, Option.toList_none, List.cons_append, List.nil_append, ↓reduceIte, rz_x01, rz_x10, ↓if_neg a, ↓if_neg (Int32.not_le.mpr b), a, b]
    · cases hx : rz_nxf L with
      | none =>
        have h0 := rz_nxf_none hx
        subst h0
        have hq := fun R => c_P_indexOfNext0 (d := d + 1) hP (R := R)
        simp only [↓ri_104_0, ↓ri_104_1, ↓ri_104_4, ↓ri_104_5, ↓ri_104_6, ↓ri_104_9, ↓ri_104_11, ↓ri_104_12, ↓ri_104_13, ↓ri_104_16, ↓ri_104_19, ↓ri_104_22, ↓ri_104_23, ↓ri_104_24, ↓ri_104_25, ↓ri_104_28, ↓ri_104_30, ↓ri_104_31, ↓ri_104_32, ↓ri_104_60, ↓ri_104_61, ↓ri_104_64, ↓ri_104_67, ↓ri_104_68, ↓ri_104_71, ↓ri_104_72, ↓ri_104_73, ↓ri_104_76, ↓ri_104_79, ↓ri_104_80, ↓ri_104_83, ↓ri_104_84, ↓ri_104_85, ↓ri_104_88, ↓ri_104_91, ↓ri_104_92, ↓ri_104_95, Option.some.injEq, Prod.mk.injEq, exists_eq_left', exists_eq', exists_and_left, exists_and_right, true_and, and_true, true_or, or_true, and_self, and_assoc, Option.toList_some, Option.toList_none, List.cons_append, List.nil_append, ↓reduceIte, rz_x01, rz_x10, ↓if_neg a, ↓if_pos (Int32.not_lt.mp b), a, b, or_self, p0, t0, hco, hq]
      | some j =>
        have hnx := rz_nxf_some hx
        obtain ⟨e, he, -, -⟩ := id hnx
        have hj := (List.getElem?_eq_some_iff.mp he).1
        have hL := hP.1
        have hd := rz_gd he
        have hq := fun R => c_P_indexOfNext (d := d + 1) hP hnx (R := R)
        have z2 : ¬ nI j = -1 := fun q => nI_pos (show j < 2 ^ 31 by omega) (by rw [q]; decide)
        have g1 := fun R => c_P_numberAt (d := d + 2) hP he (R := R)
        have g2 := fun R => c_P_keyAt (d := d + 2) hP he (R := R)
        have g3 := fun R => c_P_movesToReach (d := d) hP he (R := R)
        simp only [↓ri_104_0, ↓ri_104_1, ↓ri_104_4, ↓ri_104_5, ↓ri_104_6, ↓ri_104_9, ↓ri_104_11, ↓ri_104_12, ↓ri_104_13, ↓ri_104_16, ↓ri_104_19, ↓ri_104_22, ↓ri_104_23, ↓ri_104_24, ↓ri_104_25, ↓ri_104_28, ↓ri_104_30, ↓ri_104_31, ↓ri_104_32, ↓ri_104_60, ↓ri_104_61, ↓ri_104_64, ↓ri_104_67, ↓ri_104_68, ↓ri_104_71, ↓ri_104_72, ↓ri_104_73, ↓ri_104_76, ↓ri_104_79, ↓ri_104_80, ↓ri_104_83, ↓ri_104_84, ↓ri_104_85, ↓ri_104_88, ↓ri_104_91, ↓ri_104_92, ↓ri_104_95, Option.some.injEq, Prod.mk.injEq, exists_eq_left', exists_eq', exists_and_left, exists_and_right, true_and, and_true, true_or, or_true, and_self, and_assoc, Option.toList_some, Option.toList_none, List.cons_append, List.nil_append, ↓reduceIte, rz_x01, rz_x10, ↓if_neg a, ↓if_pos (Int32.not_lt.mp b), a, b, or_self, p0, t0, hco, hq, ↓if_neg z2, hd, g1, g2, g3]
        by_cases w0 : what = 0
        · simp only [Option.some.injEq, Prod.mk.injEq, exists_eq_left', exists_eq', exists_and_left, exists_and_right, true_and, and_true, true_or, or_true, and_self, and_assoc, Option.toList_some, Option.toList_none, List.cons_append, List.nil_append, ↓reduceIte, rz_x01, rz_x10, ↓if_pos w0]
        · by_cases w1 : what = 1
          · simp only [Option.some.injEq, Prod.mk.injEq, exists_eq_left', exists_eq', exists_and_left, exists_and_right, true_and, and_true, true_or, or_true, and_self, and_assoc, Option.toList_some, Option.toList_none, List.cons_append, List.nil_append, ↓reduceIte, rz_x01, rz_x10, ↓if_neg w0, ↓if_pos w1]
          · simp only [Option.some.injEq, Prod.mk.injEq, exists_eq_left', exists_eq', exists_and_left, exists_and_right, true_and, and_true, true_or, or_true, and_self, and_assoc, Option.toList_some, Option.toList_none, List.cons_append, List.nil_append, ↓reduceIte, rz_x01, rz_x10, ↓if_neg w0, ↓if_neg w1]
set_option maxHeartbeats 4000000 in
set_option maxRecDepth 100000 in
theorem c_C_ranked {rank : Int32} (h : rz_RP o nw bf sn hist tx os pl ss tk ro re hp) : rz_ev (d + 4) 105 0 [some (.ref o), some (.int rank), none] [] hp R ↔ R (some (.int (rz_ranked_ nw.1 rank))) hp := by
  obtain ⟨p0, p1, p2, p3, p4, p5, p6, p7, p8, p9⟩ := id h.1
  obtain ⟨L, fl, am, lat, rd, laid, ci, co, tb⟩ := nw
  obtain ⟨⟨t0, t1, t2, t3, t4, t5⟩, hP, hT, hRd⟩ := id h.2.1
  have hco := rz_co_fv hP.2.1.1
  unfold rz_ranked_
  dsimp only
  by_cases a : rank < 0
  · simp only [↓ri_105_0, ↓ri_105_1, ↓ri_105_4, ↓ri_105_6, ↓ri_105_7, ↓ri_105_8, ↓ri_105_11, ↓ri_105_14, ↓ri_105_15, ↓ri_105_18, ↓ri_105_19, ↓ri_105_20, ↓ri_105_21, ↓ri_105_24, ↓ri_105_26, ↓ri_105_29, ↓ri_105_30, ↓ri_105_33, ↓ri_105_36, ↓ri_105_37, ↓ri_105_40, Option.some.injEq, Prod.mk.injEq, exists_eq_left', exists_eq', exists_and_left, exists_and_right, true_and, and_true, true_or, or_true, and_self, and_assoc, Option.toList_some, Option.toList_none, List.cons_append, List.nil_append, ↓reduceIte, rz_x01, rz_x10, ↓if_neg (Int32.not_le.mpr a), ↓if_pos a]
  · obtain ⟨r, hr, rfl⟩ := nI_of a
    rw [nI_clamp hr]
    cases hx : rz_rj L r with
    | none =>
      have hno : ∀ i, i < L.length → rz_rkL L i ≠ r := by
        unfold rz_rj at hx
        rw [List.find?_eq_none] at hx
        intro i hi
        simpa using hx i (List.mem_range.mpr hi)
      by_cases hrl : r < L.length
      · have hq := fun R => c_P_indexOfRankN (d := d) hP hrl hno (R := R)
        simp only [↓ri_105_0, ↓ri_105_1, ↓ri_105_4, ↓ri_105_6, ↓ri_105_7, ↓ri_105_8, ↓ri_105_11, ↓ri_105_14, ↓ri_105_15, ↓ri_105_18, ↓ri_105_19, ↓ri_105_20, ↓ri_105_21, ↓ri_105_24, ↓ri_105_26, ↓ri_105_29, ↓ri_105_30, ↓ri_105_33, ↓ri_105_36, ↓ri_105_37, ↓ri_105_40, Option.some.injEq, Prod.mk.injEq, exists_eq_left', exists_eq', exists_and_left, exists_and_right, true_and, and_true, true_or, or_true, and_self, and_assoc, Option.toList_some, Option.toList_none, List.cons_append, List.nil_append, ↓reduceIte, rz_x01, rz_x10, ↓if_pos (Int32.not_lt.mp a), ↓if_neg a, p0, t0, hco, hq]
      · have hq := fun R => c_P_indexOfRank0 (d := d) hP (Nat.not_lt.mp hrl) hr (R := R)
        simp only [↓ri_105_0, ↓ri_105_1, ↓ri_105_4, ↓ri_105_6, ↓ri_105_7, ↓ri_105_8, ↓ri_105_11, ↓ri_105_14, ↓ri_105_15, ↓ri_105_18, ↓ri_105_19, ↓ri_105_20, ↓ri_105_21, ↓ri_105_24, ↓ri_105_26, ↓ri_105_29, ↓ri_105_30, ↓ri_105_33, ↓ri_105_36, ↓ri_105_37, ↓ri_105_40, Option.some.injEq, Prod.mk.injEq, exists_eq_left', exists_eq', exists_and_left, exists_and_right, true_and, and_true, true_or, or_true, and_self, and_assoc, Option.toList_some, Option.toList_none, List.cons_append, List.nil_append, ↓reduceIte, rz_x01, rz_x10, ↓if_pos (Int32.not_lt.mp a), ↓if_neg a, p0, t0, hco, hq]
    | some j =>
      have hx2 := hx
      unfold rz_rj at hx2
      rw [List.find?_range_eq_some] at hx2
      obtain ⟨h1, h2, h3⟩ := hx2
      have hj : j < L.length := by simpa using h2
      have hjr : rz_rkL L j = r := by simpa using h1
      have hlt : r < L.length := by
        rw [← hjr]
        exact rz_rkL_lt hj
      obtain ⟨e, he⟩ := rz_ge hj
      have hL := hP.1
      have hd := rz_gd he
      have z2 : ¬ nI j = -1 := fun q => nI_pos (show j < 2 ^ 31 by omega) (by rw [q]; decide)
      have hq := fun R => c_P_indexOfRank (d := d) hP hlt hj hjr (fun i hi => by simpa using h3 i hi) (R := R)
      have g1 := fun R => c_P_numberAt (d := d + 2) hP he (R := R)
      simp only [↓ri_105_0, ↓ri_105_1, ↓ri_105_4, ↓ri_105_6, ↓ri_105_7, ↓ri_105_8, ↓ri_105_11, ↓ri_105_14, ↓ri_105_15, ↓ri_105_18, ↓ri_105_19, ↓ri_105_20, ↓ri_105_21, ↓ri_105_24, ↓ri_105_26, ↓ri_105_29, ↓ri_105_30, ↓ri_105_33, ↓ri_105_36, ↓ri_105_37, ↓ri_105_40, Option.some.injEq, Prod.mk.injEq, exists_eq_left', exists_eq', exists_and_left, exists_and_right, true_and, and_true, true_or, or_true, and_self, and_assoc, Option.toList_some, Option.toList_none, List.cons_append, List.nil_append, ↓reduceIte, rz_x01, rz_x10, ↓if_pos (Int32.not_lt.mp a), ↓if_neg a, p0, t0, hco, hq, ↓if_neg z2, hd, g1]
set_option maxHeartbeats 4000000 in
set_option maxRecDepth 100000 in
theorem c_C_movesLeft (h : rz_RP o nw bf sn hist tx os pl ss tk ro re hp) : rz_ev (d + 3) 106 0 [some (.ref o)] [] hp R ↔ R (some (.int (rz_smp nw.1))) hp := by
  obtain ⟨p0, p1, p2, p3, p4, p5, p6, p7, p8, p9⟩ := id h.1
  obtain ⟨L, fl, am, lat, rd, laid, ci, co, tb⟩ := nw
  obtain ⟨⟨t0, t1, t2, t3, t4, t5⟩, hP, hT, hRd⟩ := id h.2.1
  have hq := fun R => c_P_sumOfPiles (d := d) hP (R := R)
  simp only [↓ri_106_0, ↓ri_106_1, ↓ri_106_4, ↓ri_106_7, ↓ri_106_10, Option.some.injEq, Prod.mk.injEq, exists_eq_left', exists_eq', exists_and_left, exists_and_right, true_and, and_true, true_or, or_true, and_self, and_assoc, Option.toList_some, Option.toList_none, List.cons_append, List.nil_append, ↓reduceIte, rz_x01, rz_x10, p0, t0, rz_co_fv hP.2.1.1, hq]
set_option maxHeartbeats 4000000 in
set_option maxRecDepth 100000 in
theorem c_C_out {back what : Int32} (h : rz_RP o nw bf sn hist tx os pl ss tk ro re hp) : rz_ev (d + 1) 107 0 [some (.ref o), some (.int back), some (.int what)] [] hp R ↔ R (some (.int (rz_tell nw.2.2.2.1 back what))) hp := by
  obtain ⟨p0, p1, p2, p3, p4, p5, p6, p7, p8, p9⟩ := id h.1
  obtain ⟨L, fl, am, lat, rd, laid, ci, co, tb⟩ := nw
  obtain ⟨⟨t0, t1, t2, t3, t4, t5⟩, hP, hT, hRd⟩ := id h.2.1
  have hq := fun R => c_L_tell (d := d) (back := back) (what := what) hT (R := R)
  simp only [↓ri_107_0, ↓ri_107_1, ↓ri_107_4, ↓ri_107_7, ↓ri_107_8, ↓ri_107_9, ↓ri_107_12, Option.some.injEq, Prod.mk.injEq, exists_eq_left', exists_eq', exists_and_left, exists_and_right, true_and, and_true, true_or, or_true, and_self, and_assoc, Option.toList_some, Option.toList_none, List.cons_append, List.nil_append, ↓reduceIte, rz_x01, rz_x10, p0, t1, rz_co_fv hT.2.1.1, hq]
set_option maxHeartbeats 4000000 in
set_option maxRecDepth 100000 in
theorem c_C_roadOf {x y : Int32} (h : rz_RP o nw bf sn hist tx os pl ss tk ro re hp) : rz_ev (d + 2) 108 0 [some (.ref o), some (.int x), some (.int y)] [] hp R ↔ R (some (.int (rz_roadOf_ nw.2.2.2.2.1 x y))) hp := by
  obtain ⟨p0, p1, p2, p3, p4, p5, p6, p7, p8, p9⟩ := id h.1
  obtain ⟨L, fl, am, lat, rd, laid, ci, co, tb⟩ := nw
  obtain ⟨⟨t0, t1, t2, t3, t4, t5⟩, hP, hT, hRd⟩ := id h.2.1
  unfold rz_roadOf_
  have hq := fun R => c_R_lengthOf (d := d) (x := x) (y := y) hRd (R := R)
  unfold rz_lor at hq
  by_cases hx : rz_town x
  · have tx1 := fun R => (c_C_isTown (d := d + 1) (hp := hp) (R := R)).1 hx
    by_cases hy : rz_town y
    · have ty := fun R => (c_C_isTown (d := d + 1) (hp := hp) (R := R)).1 hy
      have z1 : ¬ (1 : Int32) = 0 := by decide
      simp only [↓ri_108_0, ↓ri_108_1, ↓ri_108_4, ↓ri_108_7, ↓ri_108_8, ↓ri_108_11, ↓ri_108_14, ↓ri_108_15, ↓ri_108_16, ↓ri_108_17, ↓ri_108_20, ↓ri_108_23, ↓ri_108_24, ↓ri_108_25, ↓ri_108_28, Option.some.injEq, Prod.mk.injEq, exists_eq_left', exists_eq', exists_and_left, exists_and_right, true_and, and_true, true_or, or_true, and_self, and_assoc, Option.toList_some, Option.toList_none, List.cons_append, List.nil_append, ↓reduceIte, rz_x01, rz_x10, tx1, ty, ↓if_neg z1, p0, t2, rz_co_fv hRd.1, hq, hx, hy]
    · have ty := fun R => (c_C_isTown (d := d + 1) (hp := hp) (R := R)).2 hy
      simp only [↓ri_108_0, ↓ri_108_1, ↓ri_108_4, ↓ri_108_7, ↓ri_108_8, ↓ri_108_11, ↓ri_108_14, ↓ri_108_15, ↓ri_108_16, ↓ri_108_17, ↓ri_108_20, ↓ri_108_23, ↓ri_108_24, ↓ri_108_25, ↓ri_108_28, Option.some.injEq, Prod.mk.injEq, exists_eq_left', exists_eq', exists_and_left, exists_and_right, true_and, and_true, true_or, or_true, and_self, and_assoc, Option.toList_some, Option.toList_none, List.cons_append, List.nil_append, ↓reduceIte, rz_x01, rz_x10, tx1, ty, hx, hy, and_false]
  · have tx1 := fun R => (c_C_isTown (d := d + 1) (hp := hp) (R := R)).2 hx
    simp only [↓ri_108_0, ↓ri_108_1, ↓ri_108_4, ↓ri_108_7, ↓ri_108_8, ↓ri_108_11, ↓ri_108_14, ↓ri_108_15, ↓ri_108_16, ↓ri_108_17, ↓ri_108_20, ↓ri_108_23, ↓ri_108_24, ↓ri_108_25, ↓ri_108_28, Option.some.injEq, Prod.mk.injEq, exists_eq_left', exists_eq', exists_and_left, exists_and_right, true_and, and_true, true_or, or_true, and_self, and_assoc, Option.toList_some, Option.toList_none, List.cons_append, List.nil_append, ↓reduceIte, rz_x01, rz_x10, tx1, hx, false_and]
set_option maxHeartbeats 4000000 in
set_option maxRecDepth 100000 in
theorem c_C_distance {x y : Int32} (hrd : rz_rdo nw.2.2.2.2.1) (h : rz_RP o nw bf sn hist tx os pl ss tk ro re hp) (kk : ∀ hp' ss', rz_RP o nw bf sn hist tx os pl ss' tk ro re hp' → rz_sm o (o + 115) hp hp' → R (some (.int (rz_distance_ nw.2.2.2.2.1 x y))) hp') : rz_ev (d + 6) 109 0 [some (.ref o), some (.int x), some (.int y)] [] hp R := by
  obtain ⟨p0, p1, p2, p3, p4, p5, p6, p7, p8, p9⟩ := id h.1
  unfold rz_distance_ at kk
  by_cases hx : rz_town x
  · have tx1 := fun R => (c_C_isTown (d := d + 5) (hp := hp) (R := R)).1 hx
    by_cases hy : rz_town y
    · have ty := fun R => (c_C_isTown (d := d + 5) (hp := hp) (R := R)).1 hy
      have z1 : ¬ (1 : Int32) = 0 := by decide
      simp only [hx, hy, and_self, if_true] at kk
      obtain ⟨a, ha, hxa⟩ := rz_town_of hx
      have hR2 : rz_fv hp (o + 1) 6 2 = some (.ref (o + 1 + 12)) ∧ rz_RD (o + 1 + 12) nw.2.2.2.2.1 nw.2.2.2.2.2.1 hp := by
        obtain ⟨L, fl, am, lat, rd, laid, ci, co, tb⟩ := nw
        exact ⟨h.2.1.1.2.2.1, h.2.1.2.2.2⟩
      have cw := (rz_RP_cos h).2.2.2.2.2.2.2
      simp only [↓ri_109_0, ↓ri_109_1, ↓ri_109_4, ↓ri_109_7, ↓ri_109_8, ↓ri_109_11, ↓ri_109_14, ↓ri_109_15, ↓ri_109_16, ↓ri_109_17, ↓ri_109_20, ↓ri_109_21, ↓ri_109_22, ↓ri_109_25, ↓ri_109_28, ↓ri_109_31, ↓ri_109_32, ↓ri_109_35, ↓ri_109_36, ↓ri_109_39, Option.some.injEq, Prod.mk.injEq, exists_eq_left', exists_eq', exists_and_left, exists_and_right, true_and, and_true, true_or, or_true, and_self, and_assoc, Option.toList_some, Option.toList_none, List.cons_append, List.nil_append, ↓reduceIte, rz_x01, rz_x10, tx1, ty, ↓if_neg z1, p6, p0, hR2.1, cw]
      rw [hxa]
      refine c_S_findFrom (d := d) hrd (by omega) ha h.2.2.2.2.2.2.2 hR2.2 (fun h1 k1 hs1 => ?_)
      have k2 := rz_RP_ss h k1 hs1
      have cw2 := (rz_RP_cos k2).2.2.2.2.2.2.2
      have hq := fun R => c_S_distanceOf (d := d + 4) (x := y) k1 (R := R) hy
      simp only [↓ri_109_0, ↓ri_109_1, ↓ri_109_4, ↓ri_109_7, ↓ri_109_8, ↓ri_109_11, ↓ri_109_14, ↓ri_109_15, ↓ri_109_16, ↓ri_109_17, ↓ri_109_20, ↓ri_109_21, ↓ri_109_22, ↓ri_109_25, ↓ri_109_28, ↓ri_109_31, ↓ri_109_32, ↓ri_109_35, ↓ri_109_36, ↓ri_109_39, Option.some.injEq, Prod.mk.injEq, exists_eq_left', exists_eq', exists_and_left, exists_and_right, true_and, and_true, true_or, or_true, and_self, and_assoc, Option.toList_some, Option.toList_none, List.cons_append, List.nil_append, ↓reduceIte, rz_x01, rz_x10, k2.1.2.2.2.2.2.2.1, cw2, hq]
      have := kk h1 _ k2 (hs1.wd (by omega) (by omega))
      rw [hxa, nI_clamp (show a < 2 ^ 31 by omega)] at this
      exact this
    · have ty := fun R => (c_C_isTown (d := d + 5) (hp := hp) (R := R)).2 hy
      simp only [hy, and_false, if_false] at kk
      simp only [↓ri_109_0, ↓ri_109_1, ↓ri_109_4, ↓ri_109_7, ↓ri_109_8, ↓ri_109_11, ↓ri_109_14, ↓ri_109_15, ↓ri_109_16, ↓ri_109_17, ↓ri_109_20, ↓ri_109_21, ↓ri_109_22, ↓ri_109_25, ↓ri_109_28, ↓ri_109_31, ↓ri_109_32, ↓ri_109_35, ↓ri_109_36, ↓ri_109_39, Option.some.injEq, Prod.mk.injEq, exists_eq_left', exists_eq', exists_and_left, exists_and_right, true_and, and_true, true_or, or_true, and_self, and_assoc, Option.toList_some, Option.toList_none, List.cons_append, List.nil_append, ↓reduceIte, rz_x01, rz_x10, tx1, ty]
      exact kk _ _ h rz_sm.rf
  · have tx1 := fun R => (c_C_isTown (d := d + 5) (hp := hp) (R := R)).2 hx
    simp only [hx, false_and, if_false] at kk
    simp only [↓ri_109_0, ↓ri_109_1, ↓ri_109_4, ↓ri_109_7, ↓ri_109_8, ↓ri_109_11, ↓ri_109_14, ↓ri_109_15, ↓ri_109_16, ↓ri_109_17, ↓ri_109_20, ↓ri_109_21, ↓ri_109_22, ↓ri_109_25, ↓ri_109_28, ↓ri_109_31, ↓ri_109_32, ↓ri_109_35, ↓ri_109_36, ↓ri_109_39, Option.some.injEq, Prod.mk.injEq, exists_eq_left', exists_eq', exists_and_left, exists_and_right, true_and, and_true, true_or, or_true, and_self, and_assoc, Option.toList_some, Option.toList_none, List.cons_append, List.nil_append, ↓reduceIte, rz_x01, rz_x10, tx1]
    exact kk _ _ h rz_sm.rf
set_option maxHeartbeats 4000000 in
set_option maxRecDepth 100000 in
theorem c_C_search {x what : Int32} (hrd : rz_rdo nw.2.2.2.2.1) (h : rz_RP o nw bf sn hist tx os pl ss tk ro re hp) (kk : ∀ hp' ss', rz_RP o nw bf sn hist tx os pl ss' tk ro re hp' → rz_sm o (o + 115) hp hp' → R (some (.int (rz_search_ nw.2.2.2.2.1 x what))) hp') : rz_ev (d + 6) 110 0 [some (.ref o), some (.int x), some (.int what)] [] hp R := by
  obtain ⟨p0, p1, p2, p3, p4, p5, p6, p7, p8, p9⟩ := id h.1
  unfold rz_search_ at kk
  by_cases hx : rz_town x
  · have tx1 := fun R => (c_C_isTown (d := d + 5) (hp := hp) (R := R)).1 hx
    have z1 : ¬ (1 : Int32) = 0 := by decide
    simp only [hx, if_true] at kk
    obtain ⟨a, ha, hxa⟩ := rz_town_of hx
    have hR2 : rz_fv hp (o + 1) 6 2 = some (.ref (o + 1 + 12)) ∧ rz_RD (o + 1 + 12) nw.2.2.2.2.1 nw.2.2.2.2.2.1 hp := by
      obtain ⟨L, fl, am, lat, rd, laid, ci, co, tb⟩ := nw
      exact ⟨h.2.1.1.2.2.1, h.2.1.2.2.2⟩
    have cw := (rz_RP_cos h).2.2.2.2.2.2.2
    simp only [↓ri_110_0, ↓ri_110_1, ↓ri_110_4, ↓ri_110_7, ↓ri_110_8, ↓ri_110_9, ↓ri_110_10, ↓ri_110_13, ↓ri_110_14, ↓ri_110_15, ↓ri_110_18, ↓ri_110_21, ↓ri_110_24, ↓ri_110_25, ↓ri_110_56, ↓ri_110_57, ↓ri_110_60, ↓ri_110_63, ↓ri_110_64, ↓ri_110_65, ↓ri_110_68, ↓ri_110_71, ↓ri_110_72, ↓ri_110_73, ↓ri_110_76, ↓ri_110_79, ↓ri_110_80, ↓ri_110_81, ↓ri_110_84, ↓ri_110_87, ↓ri_110_88, ↓ri_110_90, Option.some.injEq, Prod.mk.injEq, exists_eq_left', exists_eq', exists_and_left, exists_and_right, true_and, and_true, true_or, or_true, and_self, and_assoc, Option.toList_some, Option.toList_none, List.cons_append, List.nil_append, ↓reduceIte, rz_x01, rz_x10, tx1, ↓if_neg z1, p6, p0, hR2.1, cw]
    rw [hxa]
    refine c_S_findFrom (d := d) hrd (by omega) ha h.2.2.2.2.2.2.2 hR2.2 (fun h1 k1 hs1 => ?_)
    have k2 := rz_RP_ss h k1 hs1
    have cw2 := (rz_RP_cos k2).2.2.2.2.2.2.2
    have kf := kk h1 _ k2 (hs1.wd (by omega) (by omega))
    rw [hxa, nI_clamp (show a < 2 ^ 31 by omega)] at kf
    have g : ∃ L fl am ds dn cm gr, rz_sch nw.2.2.2.2.1 a = (L, fl, am, ds, dn, cm, gr) := ⟨_, _, _, _, _, _, _, rfl⟩
    obtain ⟨L, fl, am, ds, dn, cm, gr, hg⟩ := g
    rw [hg] at kf k1
    obtain ⟨⟨u0, u1, u2, u3, u4⟩, uP, -⟩ := id k1
    have hq := fun R => c_P_allMoves (d := d + 4) uP (R := R)
    simp only [↓ri_110_0, ↓ri_110_1, ↓ri_110_4, ↓ri_110_7, ↓ri_110_8, ↓ri_110_9, ↓ri_110_10, ↓ri_110_13, ↓ri_110_14, ↓ri_110_15, ↓ri_110_18, ↓ri_110_21, ↓ri_110_24, ↓ri_110_25, ↓ri_110_56, ↓ri_110_57, ↓ri_110_60, ↓ri_110_63, ↓ri_110_64, ↓ri_110_65, ↓ri_110_68, ↓ri_110_71, ↓ri_110_72, ↓ri_110_73, ↓ri_110_76, ↓ri_110_79, ↓ri_110_80, ↓ri_110_81, ↓ri_110_84, ↓ri_110_87, ↓ri_110_88, ↓ri_110_90, ↓ri_64_0, ↓ri_64_1, ↓ri_64_4, ↓ri_65_0, ↓ri_65_1, ↓ri_65_4, ↓ri_66_0, ↓ri_66_1, ↓ri_66_4, ↓ri_66_7, ↓ri_67_0, ↓ri_67_1, ↓ri_67_4, Option.some.injEq, Prod.mk.injEq, exists_eq_left', exists_eq', exists_and_left, exists_and_right, true_and, and_true, true_or, or_true, and_self, and_assoc, Option.toList_some, Option.toList_none, List.cons_append, List.nil_append, ↓reduceIte, rz_x01, rz_x10, k2.1.2.2.2.2.2.2.1, cw2, u0, u2, u3, u4, rz_co_fv uP.2.1.1, hq]
    dsimp only at kf
    by_cases w0 : what = 0
    · simp only [Option.some.injEq, Prod.mk.injEq, exists_eq_left', exists_eq', exists_and_left, exists_and_right, true_and, and_true, true_or, or_true, and_self, and_assoc, Option.toList_some, Option.toList_none, List.cons_append, List.nil_append, ↓reduceIte, rz_x01, rz_x10, ↓if_pos w0] at kf ⊢; exact kf
    · by_cases w1 : what = 1
      · simp only [Option.some.injEq, Prod.mk.injEq, exists_eq_left', exists_eq', exists_and_left, exists_and_right, true_and, and_true, true_or, or_true, and_self, and_assoc, Option.toList_some, Option.toList_none, List.cons_append, List.nil_append, ↓reduceIte, rz_x01, rz_x10, ↓if_neg w0, ↓if_pos w1] at kf ⊢; exact kf
      · by_cases w2 : what = 2
        · simp only [Option.some.injEq, Prod.mk.injEq, exists_eq_left', exists_eq', exists_and_left, exists_and_right, true_and, and_true, true_or, or_true, and_self, and_assoc, Option.toList_some, Option.toList_none, List.cons_append, List.nil_append, ↓reduceIte, rz_x01, rz_x10, ↓if_neg w0, ↓if_neg w1, ↓if_pos w2] at kf ⊢; exact kf
        · by_cases w3 : what = 3
          · simp only [Option.some.injEq, Prod.mk.injEq, exists_eq_left', exists_eq', exists_and_left, exists_and_right, true_and, and_true, true_or, or_true, and_self, and_assoc, Option.toList_some, Option.toList_none, List.cons_append, List.nil_append, ↓reduceIte, rz_x01, rz_x10, ↓if_neg w0, ↓if_neg w1, ↓if_neg w2, ↓if_pos w3] at kf ⊢; exact kf
          · simp only [Option.some.injEq, Prod.mk.injEq, exists_eq_left', exists_eq', exists_and_left, exists_and_right, true_and, and_true, true_or, or_true, and_self, and_assoc, Option.toList_some, Option.toList_none, List.cons_append, List.nil_append, ↓reduceIte, rz_x01, rz_x10, ↓if_neg w0, ↓if_neg w1, ↓if_neg w2, ↓if_neg w3] at kf ⊢; exact kf
  · have tx1 := fun R => (c_C_isTown (d := d + 5) (hp := hp) (R := R)).2 hx
    simp only [hx, if_false] at kk
    simp only [↓ri_110_0, ↓ri_110_1, ↓ri_110_4, ↓ri_110_7, ↓ri_110_8, ↓ri_110_9, ↓ri_110_10, ↓ri_110_13, ↓ri_110_14, ↓ri_110_15, ↓ri_110_18, ↓ri_110_21, ↓ri_110_24, ↓ri_110_25, ↓ri_110_56, ↓ri_110_57, ↓ri_110_60, ↓ri_110_63, ↓ri_110_64, ↓ri_110_65, ↓ri_110_68, ↓ri_110_71, ↓ri_110_72, ↓ri_110_73, ↓ri_110_76, ↓ri_110_79, ↓ri_110_80, ↓ri_110_81, ↓ri_110_84, ↓ri_110_87, ↓ri_110_88, ↓ri_110_90, Option.some.injEq, Prod.mk.injEq, exists_eq_left', exists_eq', exists_and_left, exists_and_right, true_and, and_true, true_or, or_true, and_self, and_assoc, Option.toList_some, Option.toList_none, List.cons_append, List.nil_append, ↓reduceIte, rz_x01, rz_x10, tx1]
    exact kk _ _ h rz_sm.rf
set_option maxHeartbeats 4000000 in
set_option maxRecDepth 100000 in
theorem c_C_count {what : Int32} (h : rz_RP o nw bf sn hist tx os pl ss tk ro re hp) : rz_ev (d + 4) 111 0 [some (.ref o), some (.int what)] [] hp R ↔ R (some (.int (rz_count_ nw hist.length tx.length what))) hp := by
  obtain ⟨p0, p1, p2, p3, p4, p5, p6, p7, p8, p9⟩ := id h.1
  obtain ⟨c0, c1, c2, c3, c4, c5, c6, c7⟩ := rz_RP_cos h
  obtain ⟨L, fl, am, lat, rd, laid, ci, co, tb⟩ := nw
  obtain ⟨⟨t0, t1, t2, t3, t4, t5⟩, hP, hT, hRd⟩ := id h.2.1
  have g1 := fun R => c_P_size (d := d + 3) hP (R := R)
  have g2 := fun R => c_P_floor (d := d + 3) hP (R := R)
  have g3 := fun R => c_P_allMoves (d := d + 3) hP (R := R)
  have g4 := fun R => c_P_pilesInUse (d := d) hP (R := R)
  have g5 := fun R => c_R_size (d := d + 3) hRd (R := R)
  have g6 := fun R => c_H_size (d := d + 3) h.2.2.2.2.1 (R := R)
  have g7 := fun R => c_X_size (d := d + 3) h.2.2.2.2.2.1 (R := R)
  unfold rz_count_
  dsimp only
  simp only [↓ri_111_0, ↓ri_111_1, ↓ri_111_56, ↓ri_111_57, ↓ri_111_60, ↓ri_111_63, ↓ri_111_66, ↓ri_111_67, ↓ri_111_68, ↓ri_111_71, ↓ri_111_74, ↓ri_111_75, ↓ri_111_76, ↓ri_111_79, ↓ri_111_82, ↓ri_111_83, ↓ri_111_84, ↓ri_111_87, ↓ri_111_90, ↓ri_111_93, ↓ri_111_94, ↓ri_111_95, ↓ri_111_98, ↓ri_111_101, ↓ri_111_104, ↓ri_111_105, ↓ri_111_106, ↓ri_111_109, ↓ri_111_112, ↓ri_111_115, ↓ri_111_116, ↓ri_111_117, ↓ri_111_120, ↓ri_111_123, ↓ri_111_126, ↓ri_111_127, ↓ri_111_128, ↓ri_111_131, ↓ri_111_134, ↓ri_111_135, ↓ri_111_136, ↓ri_111_139, ↓ri_111_142, ↓ri_111_143, ↓ri_111_144, ↓ri_111_147, ↓ri_111_150, ↓ri_111_151, ↓ri_111_153, Option.some.injEq, Prod.mk.injEq, exists_eq_left', exists_eq', exists_and_left, exists_and_right, true_and, and_true, true_or, or_true, and_self, and_assoc, Option.toList_some, Option.toList_none, List.cons_append, List.nil_append, ↓reduceIte, rz_x01, rz_x10, p0, p3, p4, t0, t2, t3, t4, t5, rz_co_fv hP.2.1.1, rz_co_fv hRd.1, c4, c5, g1, g2, g3, g4, g5, g6, g7]
  by_cases w0 : what = 0
  · simp only [Option.some.injEq, Prod.mk.injEq, exists_eq_left', exists_eq', exists_and_left, exists_and_right, true_and, and_true, true_or, or_true, and_self, and_assoc, Option.toList_some, Option.toList_none, List.cons_append, List.nil_append, ↓reduceIte, rz_x01, rz_x10, ↓if_pos w0]
  · by_cases w1 : what = 1
    · simp only [Option.some.injEq, Prod.mk.injEq, exists_eq_left', exists_eq', exists_and_left, exists_and_right, true_and, and_true, true_or, or_true, and_self, and_assoc, Option.toList_some, Option.toList_none, List.cons_append, List.nil_append, ↓reduceIte, rz_x01, rz_x10, ↓if_neg w0, ↓if_pos w1]
    · by_cases w2 : what = 2
      · simp only [Option.some.injEq, Prod.mk.injEq, exists_eq_left', exists_eq', exists_and_left, exists_and_right, true_and, and_true, true_or, or_true, and_self, and_assoc, Option.toList_some, Option.toList_none, List.cons_append, List.nil_append, ↓reduceIte, rz_x01, rz_x10, ↓if_neg w0, ↓if_neg w1, ↓if_pos w2]
      · by_cases w3 : what = 3
        · simp only [Option.some.injEq, Prod.mk.injEq, exists_eq_left', exists_eq', exists_and_left, exists_and_right, true_and, and_true, true_or, or_true, and_self, and_assoc, Option.toList_some, Option.toList_none, List.cons_append, List.nil_append, ↓reduceIte, rz_x01, rz_x10, ↓if_neg w0, ↓if_neg w1, ↓if_neg w2, ↓if_pos w3]
        · by_cases w4 : what = 4
          · simp only [Option.some.injEq, Prod.mk.injEq, exists_eq_left', exists_eq', exists_and_left, exists_and_right, true_and, and_true, true_or, or_true, and_self, and_assoc, Option.toList_some, Option.toList_none, List.cons_append, List.nil_append, ↓reduceIte, rz_x01, rz_x10, ↓if_neg w0, ↓if_neg w1, ↓if_neg w2, ↓if_neg w3, ↓if_pos w4]
          · by_cases w5 : what = 5
            · simp only [Option.some.injEq, Prod.mk.injEq, exists_eq_left', exists_eq', exists_and_left, exists_and_right, true_and, and_true, true_or, or_true, and_self, and_assoc, Option.toList_some, Option.toList_none, List.cons_append, List.nil_append, ↓reduceIte, rz_x01, rz_x10, ↓if_neg w0, ↓if_neg w1, ↓if_neg w2, ↓if_neg w3, ↓if_neg w4, ↓if_pos w5]
            · by_cases w6 : what = 6
              · simp only [Option.some.injEq, Prod.mk.injEq, exists_eq_left', exists_eq', exists_and_left, exists_and_right, true_and, and_true, true_or, or_true, and_self, and_assoc, Option.toList_some, Option.toList_none, List.cons_append, List.nil_append, ↓reduceIte, rz_x01, rz_x10, ↓if_neg w0, ↓if_neg w1, ↓if_neg w2, ↓if_neg w3, ↓if_neg w4, ↓if_neg w5, ↓if_pos w6]
              · by_cases w7 : what = 7
                · simp only [Option.some.injEq, Prod.mk.injEq, exists_eq_left', exists_eq', exists_and_left, exists_and_right, true_and, and_true, true_or, or_true, and_self, and_assoc, Option.toList_some, Option.toList_none, List.cons_append, List.nil_append, ↓reduceIte, rz_x01, rz_x10, ↓if_neg w0, ↓if_neg w1, ↓if_neg w2, ↓if_neg w3, ↓if_neg w4, ↓if_neg w5, ↓if_neg w6, ↓if_pos w7]
                · by_cases w8 : what = 8
                  · simp only [Option.some.injEq, Prod.mk.injEq, exists_eq_left', exists_eq', exists_and_left, exists_and_right, true_and, and_true, true_or, or_true, and_self, and_assoc, Option.toList_some, Option.toList_none, List.cons_append, List.nil_append, ↓reduceIte, rz_x01, rz_x10, ↓if_neg w0, ↓if_neg w1, ↓if_neg w2, ↓if_neg w3, ↓if_neg w4, ↓if_neg w5, ↓if_neg w6, ↓if_neg w7, ↓if_pos w8]
                  · by_cases w9 : what = 9
                    · simp only [Option.some.injEq, Prod.mk.injEq, exists_eq_left', exists_eq', exists_and_left, exists_and_right, true_and, and_true, true_or, or_true, and_self, and_assoc, Option.toList_some, Option.toList_none, List.cons_append, List.nil_append, ↓reduceIte, rz_x01, rz_x10, ↓if_neg w0, ↓if_neg w1, ↓if_neg w2, ↓if_neg w3, ↓if_neg w4, ↓if_neg w5, ↓if_neg w6, ↓if_neg w7, ↓if_neg w8, ↓if_pos w9]
                    · simp only [Option.some.injEq, Prod.mk.injEq, exists_eq_left', exists_eq', exists_and_left, exists_and_right, true_and, and_true, true_or, or_true, and_self, and_assoc, Option.toList_some, Option.toList_none, List.cons_append, List.nil_append, ↓reduceIte, rz_x01, rz_x10, ↓if_neg w0, ↓if_neg w1, ↓if_neg w2, ↓if_neg w3, ↓if_neg w4, ↓if_neg w5, ↓if_neg w6, ↓if_neg w7, ↓if_neg w8, ↓if_neg w9]
end RZRT
