/-! RisingPilesModel: what is told -/
theorem rz_YZ_take {L : List rz_En} {Y : List rz_Zt} {j : Nat} {y : rz_Zt} {Z : List rz_Zt} {p : Int32} (y1 : Y.map Prod.fst = L) (y2 : Y.Perm Z) (y3 : Y.Pairwise rz_so_) (y5 : Y[j]? = some y) (hp : y.1.2.2.2.2 = p) : Z.countP (fun z => decide (z.1.2.2.2.2 = p ∧ z.2 < y.2)) = rz_cnt (L.take j) p := by
  have hY : Y = Y.take j ++ y :: Y.drop (j + 1) := by
    rw [← (List.getElem?_eq_some_iff.mp y5).2, List.getElem_cons_drop, List.take_append_drop]
  rw [← y2.countP_eq, ← y1, ← List.map_take]
  unfold rz_cnt
  rw [List.countP_map]
  have hw := y3
  rw [hY] at hw
  have p1 := List.pairwise_append.mp hw
  have p2 := List.pairwise_cons.mp p1.2.1
  conv => lhs; rw [hY]
  rw [List.countP_append, List.countP_cons, if_neg (by simp), Nat.add_zero]
  have e1 : (Y.drop (j + 1)).countP (fun z => decide (z.1.2.2.2.2 = p ∧ z.2 < y.2)) = 0 := by
    rw [List.countP_eq_zero]
    intro z hz
    have := p2.1 z hz
    simp only [decide_eq_true_eq]
    exact fun q => absurd q.2 (Nat.not_lt.mpr (Nat.le_of_lt (this (by rw [hp, q.1]))))
  rw [e1, Nat.add_zero]
  refine List.countP_congr (fun z hz => ?_)
  have := p1.2.2 z hz y (List.mem_cons_self)
  simp only [decide_eq_true_eq, Function.comp]
  exact ⟨fun q => q.1, fun q => ⟨q, this (by rw [hp, q])⟩⟩
section RZMF
variable {d a m lo hi n : Nat} {f f2 g : Nat → Int32} {hp h1 : rz_Hp} {R : Option Value → rz_Hp → Prop} {s s2 x : rz_AS} {hist : List rz_AS} {shot : Option rz_AS} {tx : List Int32} {ro re sp sv sh le od : Int32} {os : List rz_Or} {B B2 : Nat} {Z : List rz_Zt} {L : List rz_En} {fl am : Int32} {lat : List rz_La} {rd : Nat → Int32} {laid ci co tb : Int32}
set_option maxHeartbeats 4000000 in
set_option maxRecDepth 100000 in
theorem m_M_placeIn {i : Nat} {y : rz_Zt} (f0 : rz_fv hp m 9 0 = some (.ref (m + 1))) (ha : rz_av hp (m + 1) = some (0, 430, f)) (hZ : rz_ZS f Z) (hy : Z[i]? = some y) : rz_ev (d + 1) 166 0 [some (.ref m), some (.int (nI i)), none, none] [] hp R ↔ R (some (.int (nI (Z.countP (fun z => decide (z.1.2.2.2.2 = y.1.2.2.2.2 ∧ z.2 < y.2)))))) hp := by
  obtain ⟨hl, h1, hz⟩ := hZ
  have hi41 : i < 41 := Nat.lt_of_lt_of_le (List.getElem?_eq_some_iff.mp hy).1 hl
  obtain ⟨y0, y1, y2, y3, y4, y5, y6⟩ := hz i y hy
  have p4 := fun R => m_M_of (d := d) (i := i) (w := 4) (x := 4) ha hi41 (by decide) rfl (R := R)
  have p5 := fun R => m_M_of (d := d) (i := i) (w := 5) (x := 5) ha hi41 (by decide) rfl (R := R)
  rw [y4] at p4
  rw [y5] at p5
  have hL : ∀ n, n ≤ Z.length → (rz_ev (d + 1) 166 4 [some (.ref m), some (.int (nI i)), some (.int (nI ((Z.take n).countP (fun z => decide (z.1.2.2.2.2 = y.1.2.2.2.2 ∧ z.2 < y.2))))), some (.int (nI n))] [] hp R ↔ R (some (.int (nI (Z.countP (fun z => decide (z.1.2.2.2.2 = y.1.2.2.2.2 ∧ z.2 < y.2)))))) hp) := by
    refine rz_down Z.length ?_ ?_
    · have c1 := rz_topZ hl
      rw [ri_166_4, List.take_length]
      simp only [↓ri_166_5, ↓ri_166_6, ↓ri_166_9, ↓ri_166_10, ↓ri_166_11, ↓ri_166_14, ↓ri_166_15, ↓ri_166_16, ↓ri_166_19, ↓ri_166_20, ↓ri_166_21, ↓ri_166_24, ↓ri_166_25, ↓ri_166_28, ↓ri_166_29, ↓ri_166_30, ↓ri_166_33, ↓ri_166_36, ↓ri_166_37, ↓ri_166_40, ↓ri_166_41, ↓ri_166_42, ↓ri_166_45, ↓ri_166_46, ↓ri_166_49, ↓ri_166_50, ↓ri_166_51, ↓ri_166_54, ↓ri_166_57, ↓ri_166_58, ↓ri_166_61, ↓ri_166_62, ↓ri_166_63, ↓ri_166_64, ↓ri_166_67, ↓ri_166_70, ↓ri_166_71, Option.some.injEq, Prod.mk.injEq, exists_eq_left', exists_eq', exists_and_left, exists_and_right, true_and, and_true, true_or, or_true, and_self, and_assoc, Option.toList_some, Option.toList_none, List.cons_append, List.nil_append, ↓reduceIte, rz_x01, rz_x10, f0, ha, rz_v1, rz_k1, h1, ↓if_pos c1]
    · intro n hn ih
      have c1 : ¬ nI Z.length ≤ nI n := nI_ge hn (by omega)
      obtain ⟨x, hx⟩ := rz_ge hn
      obtain ⟨g0, g1, g2, g3, g4, g5, g6⟩ := hz n x hx
      have o4 := fun R => m_M_of (d := d) (i := n) (w := 4) (x := 4) ha (by omega) (by decide) rfl (R := R)
      have o5 := fun R => m_M_of (d := d) (i := n) (w := 5) (x := 5) ha (by omega) (by decide) rfl (R := R)
      rw [g4] at o4
      rw [g5] at o5
      rw [← ih, rz_tk hx, List.countP_append, List.countP_cons, List.countP_nil, ri_166_4]
      by_cases q1 : x.1.2.2.2.2 = y.1.2.2.2.2
      · by_cases q2 : x.2 < y.2
        · have c2 : ¬ nI y.2 ≤ nI x.2 := nI_ge q2 (by omega)
          have c3 : decide (x.1.2.2.2.2 = y.1.2.2.2.2 ∧ x.2 < y.2) = true := decide_eq_true ⟨q1, q2⟩
          simp only [↓ri_166_5, ↓ri_166_6, ↓ri_166_9, ↓ri_166_10, ↓ri_166_11, ↓ri_166_14, ↓ri_166_15, ↓ri_166_16, ↓ri_166_19, ↓ri_166_20, ↓ri_166_21, ↓ri_166_24, ↓ri_166_25, ↓ri_166_28, ↓ri_166_29, ↓ri_166_30, ↓ri_166_33, ↓ri_166_36, ↓ri_166_37, ↓ri_166_40, ↓ri_166_41, ↓ri_166_42, ↓ri_166_45, ↓ri_166_46, ↓ri_166_49, ↓ri_166_50, ↓ri_166_51, ↓ri_166_54, ↓ri_166_57, ↓ri_166_58, ↓ri_166_61, ↓ri_166_62, ↓ri_166_63, ↓ri_166_64, ↓ri_166_67, Option.some.injEq, Prod.mk.injEq, exists_eq_left', exists_eq', exists_and_left, exists_and_right, true_and, and_true, true_or, or_true, and_self, and_assoc, Option.toList_some, Option.toList_none, List.cons_append, List.nil_append, ↓reduceIte, rz_x01, rz_x10, f0, ha, rz_v1, rz_k1, h1, ↓if_neg c1, o4, o5, p4, p5, ↓if_pos q1, ↓if_neg c2, ↓if_pos c3, nI_1, Nat.zero_add]
        · have c2 : nI y.2 ≤ nI x.2 := nI_le (by omega) (by omega)
          have c3 : ¬ decide (x.1.2.2.2.2 = y.1.2.2.2.2 ∧ x.2 < y.2) = true := by simp only [decide_eq_true_eq]; exact fun q => q2 q.2
          simp only [↓ri_166_5, ↓ri_166_6, ↓ri_166_9, ↓ri_166_10, ↓ri_166_11, ↓ri_166_14, ↓ri_166_15, ↓ri_166_16, ↓ri_166_19, ↓ri_166_20, ↓ri_166_21, ↓ri_166_24, ↓ri_166_25, ↓ri_166_28, ↓ri_166_29, ↓ri_166_30, ↓ri_166_33, ↓ri_166_36, ↓ri_166_37, ↓ri_166_40, ↓ri_166_41, ↓ri_166_42, ↓ri_166_45, ↓ri_166_46, ↓ri_166_49, ↓ri_166_50, ↓ri_166_51, ↓ri_166_54, ↓ri_166_57, ↓ri_166_58, ↓ri_166_61, ↓ri_166_62, ↓ri_166_63, ↓ri_166_64, ↓ri_166_67, Option.some.injEq, Prod.mk.injEq, exists_eq_left', exists_eq', exists_and_left, exists_and_right, true_and, and_true, true_or, or_true, and_self, and_assoc, Option.toList_some, Option.toList_none, List.cons_append, List.nil_append, ↓reduceIte, rz_x01, rz_x10, f0, ha, rz_v1, rz_k1, h1, ↓if_neg c1, o4, o5, p4, p5, ↓if_pos q1, ↓if_pos c2, ↓if_neg c3, nI_1, Nat.zero_add, Int32.add_zero, Nat.add_zero]
      · have c3 : ¬ decide (x.1.2.2.2.2 = y.1.2.2.2.2 ∧ x.2 < y.2) = true := by simp only [decide_eq_true_eq]; exact fun q => q1 q.1
        simp only [↓ri_166_5, ↓ri_166_6, ↓ri_166_9, ↓ri_166_10, ↓ri_166_11, ↓ri_166_14, ↓ri_166_15, ↓ri_166_16, ↓ri_166_19, ↓ri_166_20, ↓ri_166_21, ↓ri_166_24, ↓ri_166_25, ↓ri_166_28, ↓ri_166_29, ↓ri_166_30, ↓ri_166_33, ↓ri_166_36, ↓ri_166_37, ↓ri_166_40, ↓ri_166_41, ↓ri_166_42, ↓ri_166_45, ↓ri_166_46, ↓ri_166_49, ↓ri_166_50, ↓ri_166_51, ↓ri_166_54, ↓ri_166_57, ↓ri_166_58, ↓ri_166_61, ↓ri_166_62, ↓ri_166_63, ↓ri_166_64, ↓ri_166_67, Option.some.injEq, Prod.mk.injEq, exists_eq_left', exists_eq', exists_and_left, exists_and_right, true_and, and_true, true_or, or_true, and_self, and_assoc, Option.toList_some, Option.toList_none, List.cons_append, List.nil_append, ↓reduceIte, rz_x01, rz_x10, f0, ha, rz_v1, rz_k1, h1, ↓if_neg c1, o4, p4, ↓if_neg q1, ↓if_neg c3, nI_1, Nat.zero_add, Int32.add_zero, Nat.add_zero]
  have h0 := hL 0 (Nat.zero_le _)
  rw [nI_0, List.take_zero, List.countP_nil, nI_0] at h0
  simp only [↓ri_166_0, ↓ri_166_1, ↓ri_166_2, ↓ri_166_3, h0]
set_option maxHeartbeats 4000000 in
set_option maxRecDepth 100000 in
theorem m_M_entry {num what : Int32} (h : rz_MM m s hist shot tx ro re sp os B hp) (hI : rz_IV s) : rz_ev (d + 2) 167 0 [some (.ref m), some (.int num), some (.int what), none] [] hp R ↔ R (some (.int (rz_entry_ s.1 num what))) hp := by
  obtain ⟨L, fl, am, lat, rd, laid, ci, co, tb⟩ := s
  obtain ⟨⟨f0, -⟩, ⟨f, a1, w1⟩, -⟩ := id h
  obtain ⟨S, Z, hS, -, hZ, hY⟩ := id w1
  unfold rz_entry_
  cases hf : rz_fi L num with
  | none =>
    have os := fun R => m_M_slotOf (d := d) (m := num) (tgt := -5) a1 hZ (rz_slot_none hY hf) (R := R)
    have c1 : (-5 : Int32) = -5 := rfl
    simp only [↓ri_167_0, ↓ri_167_1, ↓ri_167_4, ↓ri_167_5, ↓ri_167_8, ↓ri_167_9, ↓ri_167_10, ↓ri_167_12, ↓ri_167_15, ↓ri_167_16, Option.some.injEq, Prod.mk.injEq, exists_eq_left', exists_eq', exists_and_left, exists_and_right, true_and, and_true, true_or, or_true, and_self, and_assoc, Option.toList_some, Option.toList_none, List.cons_append, List.nil_append, ↓reduceIte, rz_x01, rz_x10, f0, os, ↓if_pos c1, hf]
  | some j =>
    obtain ⟨e, he, hen⟩ := rz_fi_some hf
    have hd : L.getD j (0, 0, 0, 0, 0) = e := by rw [List.getD_eq_getElem?_getD, he]; rfl
    obtain ⟨Y, y, i, y1, y2, y3, y4, y5, y6, hzi, hsl⟩ := rz_slot_some hY hI.1.2 he hen
    have os' := fun R => m_M_slotOf (d := d) (m := num) (tgt := nI i) a1 hZ hsl (R := R)
    have hi41 : i < 41 := Nat.lt_of_lt_of_le (List.getElem?_eq_some_iff.mp hzi).1 hZ.1
    have c1 : ¬ nI i = -5 := rz_ne5 (by omega)
    obtain ⟨g0, g1, g2, g3, g4, g5, g6⟩ := hZ.2.2 i y hzi
    have o1 := fun R => m_M_of (d := d + 1) (i := i) (w := 1) (x := 1) a1 hi41 (by decide) rfl (R := R)
    have o2 := fun R => m_M_of (d := d + 1) (i := i) (w := 2) (x := 2) a1 hi41 (by decide) rfl (R := R)
    have o3 := fun R => m_M_of (d := d + 1) (i := i) (w := 3) (x := 3) a1 hi41 (by decide) rfl (R := R)
    have o4 := fun R => m_M_of (d := d + 1) (i := i) (w := 4) (x := 4) a1 hi41 (by decide) rfl (R := R)
    rw [g1, y6] at o1
    rw [g2, y6] at o2
    rw [g3, y6] at o3
    rw [g4, y6] at o4
    have op := fun R => m_M_placeIn (d := d) f0 a1 hZ hzi (R := R)
    rw [rz_YZ_take y1 y2 y3 y5 rfl, y6] at op
    simp only [hf, hd]
    by_cases w0 : what = 0
    · simp only [↓ri_167_0, ↓ri_167_1, ↓ri_167_4, ↓ri_167_5, ↓ri_167_8, ↓ri_167_9, ↓ri_167_10, ↓ri_167_12, ↓ri_167_15, ↓ri_167_16, ↓ri_167_17, ↓ri_167_18, ↓ri_167_52, ↓ri_167_53, ↓ri_167_56, ↓ri_167_57, ↓ri_167_58, ↓ri_167_61, ↓ri_167_62, ↓ri_167_63, ↓ri_167_66, ↓ri_167_67, ↓ri_167_68, ↓ri_167_71, ↓ri_167_72, ↓ri_167_73, ↓ri_167_76, ↓ri_167_77, ↓ri_167_78, ↓ri_167_81, ↓ri_167_82, ↓ri_167_83, ↓ri_167_84, ↓ri_167_87, ↓ri_167_88, ↓ri_167_89, ↓ri_167_92, ↓ri_167_93, ↓ri_167_94, ↓ri_167_97, ↓ri_167_98, ↓ri_167_100, Option.some.injEq, Prod.mk.injEq, exists_eq_left', exists_eq', exists_and_left, exists_and_right, true_and, and_true, true_or, or_true, and_self, and_assoc, Option.toList_some, Option.toList_none, List.cons_append, List.nil_append, ↓reduceIte, rz_x01, rz_x10, f0, os', ↓if_neg c1, ↓if_pos w0, o1]
    · by_cases w1' : what = 1
      · simp only [↓ri_167_0, ↓ri_167_1, ↓ri_167_4, ↓ri_167_5, ↓ri_167_8, ↓ri_167_9, ↓ri_167_10, ↓ri_167_12, ↓ri_167_15, ↓ri_167_16, ↓ri_167_17, ↓ri_167_18, ↓ri_167_52, ↓ri_167_53, ↓ri_167_56, ↓ri_167_57, ↓ri_167_58, ↓ri_167_61, ↓ri_167_62, ↓ri_167_63, ↓ri_167_66, ↓ri_167_67, ↓ri_167_68, ↓ri_167_71, ↓ri_167_72, ↓ri_167_73, ↓ri_167_76, ↓ri_167_77, ↓ri_167_78, ↓ri_167_81, ↓ri_167_82, ↓ri_167_83, ↓ri_167_84, ↓ri_167_87, ↓ri_167_88, ↓ri_167_89, ↓ri_167_92, ↓ri_167_93, ↓ri_167_94, ↓ri_167_97, ↓ri_167_98, ↓ri_167_100, Option.some.injEq, Prod.mk.injEq, exists_eq_left', exists_eq', exists_and_left, exists_and_right, true_and, and_true, true_or, or_true, and_self, and_assoc, Option.toList_some, Option.toList_none, List.cons_append, List.nil_append, ↓reduceIte, rz_x01, rz_x10, f0, os', ↓if_neg c1, ↓if_neg w0, ↓if_pos w1', o2]
      · by_cases w2 : what = 2
        · simp only [↓ri_167_0, ↓ri_167_1, ↓ri_167_4, ↓ri_167_5, ↓ri_167_8, ↓ri_167_9, ↓ri_167_10, ↓ri_167_12, ↓ri_167_15, ↓ri_167_16, ↓ri_167_17, ↓ri_167_18, ↓ri_167_52, ↓ri_167_53, ↓ri_167_56, ↓ri_167_57, ↓ri_167_58, ↓ri_167_61, ↓ri_167_62, ↓ri_167_63, ↓ri_167_66, ↓ri_167_67, ↓ri_167_68, ↓ri_167_71, ↓ri_167_72, ↓ri_167_73, ↓ri_167_76, ↓ri_167_77, ↓ri_167_78, ↓ri_167_81, ↓ri_167_82, ↓ri_167_83, ↓ri_167_84, ↓ri_167_87, ↓ri_167_88, ↓ri_167_89, ↓ri_167_92, ↓ri_167_93, ↓ri_167_94, ↓ri_167_97, ↓ri_167_98, ↓ri_167_100, Option.some.injEq, Prod.mk.injEq, exists_eq_left', exists_eq', exists_and_left, exists_and_right, true_and, and_true, true_or, or_true, and_self, and_assoc, Option.toList_some, Option.toList_none, List.cons_append, List.nil_append, ↓reduceIte, rz_x01, rz_x10, f0, os', ↓if_neg c1, ↓if_neg w0, ↓if_neg w1', ↓if_pos w2, o4]
        · by_cases w3 : what = 3
          · simp only [↓ri_167_0, ↓ri_167_1, ↓ri_167_4, ↓ri_167_5, ↓ri_167_8, ↓ri_167_9, ↓ri_167_10, ↓ri_167_12, ↓ri_167_15, ↓ri_167_16, ↓ri_167_17, ↓ri_167_18, ↓ri_167_52, ↓ri_167_53, ↓ri_167_56, ↓ri_167_57, ↓ri_167_58, ↓ri_167_61, ↓ri_167_62, ↓ri_167_63, ↓ri_167_66, ↓ri_167_67, ↓ri_167_68, ↓ri_167_71, ↓ri_167_72, ↓ri_167_73, ↓ri_167_76, ↓ri_167_77, ↓ri_167_78, ↓ri_167_81, ↓ri_167_82, ↓ri_167_83, ↓ri_167_84, ↓ri_167_87, ↓ri_167_88, ↓ri_167_89, ↓ri_167_92, ↓ri_167_93, ↓ri_167_94, ↓ri_167_97, ↓ri_167_98, ↓ri_167_100, Option.some.injEq, Prod.mk.injEq, exists_eq_left', exists_eq', exists_and_left, exists_and_right, true_and, and_true, true_or, or_true, and_self, and_assoc, Option.toList_some, Option.toList_none, List.cons_append, List.nil_append, ↓reduceIte, rz_x01, rz_x10, f0, os', ↓if_neg c1, ↓if_neg w0, ↓if_neg w1', ↓if_neg w2, ↓if_pos w3, rz_co_fv f0, op]
          · by_cases w4 : what = 4
            · simp only [↓ri_167_0, ↓ri_167_1, ↓ri_167_4, ↓ri_167_5, ↓ri_167_8, ↓ri_167_9, ↓ri_167_10, ↓ri_167_12, ↓ri_167_15, ↓ri_167_16, ↓ri_167_17, ↓ri_167_18, ↓ri_167_52, ↓ri_167_53, ↓ri_167_56, ↓ri_167_57, ↓ri_167_58, ↓ri_167_61, ↓ri_167_62, ↓ri_167_63, ↓ri_167_66, ↓ri_167_67, ↓ri_167_68, ↓ri_167_71, ↓ri_167_72, ↓ri_167_73, ↓ri_167_76, ↓ri_167_77, ↓ri_167_78, ↓ri_167_81, ↓ri_167_82, ↓ri_167_83, ↓ri_167_84, ↓ri_167_87, ↓ri_167_88, ↓ri_167_89, ↓ri_167_92, ↓ri_167_93, ↓ri_167_94, ↓ri_167_97, ↓ri_167_98, ↓ri_167_100, Option.some.injEq, Prod.mk.injEq, exists_eq_left', exists_eq', exists_and_left, exists_and_right, true_and, and_true, true_or, or_true, and_self, and_assoc, Option.toList_some, Option.toList_none, List.cons_append, List.nil_append, ↓reduceIte, rz_x01, rz_x10, f0, os', ↓if_neg c1, ↓if_neg w0, ↓if_neg w1', ↓if_neg w2, ↓if_neg w3, ↓if_pos w4, o3]
            · simp only [↓ri_167_0, ↓ri_167_1, ↓ri_167_4, ↓ri_167_5, ↓ri_167_8, ↓ri_167_9, ↓ri_167_10, ↓ri_167_12, ↓ri_167_15, ↓ri_167_16, ↓ri_167_17, ↓ri_167_18, ↓ri_167_52, ↓ri_167_53, ↓ri_167_56, ↓ri_167_57, ↓ri_167_58, ↓ri_167_61, ↓ri_167_62, ↓ri_167_63, ↓ri_167_66, ↓ri_167_67, ↓ri_167_68, ↓ri_167_71, ↓ri_167_72, ↓ri_167_73, ↓ri_167_76, ↓ri_167_77, ↓ri_167_78, ↓ri_167_81, ↓ri_167_82, ↓ri_167_83, ↓ri_167_84, ↓ri_167_87, ↓ri_167_88, ↓ri_167_89, ↓ri_167_92, ↓ri_167_93, ↓ri_167_94, ↓ri_167_97, ↓ri_167_98, ↓ri_167_100, Option.some.injEq, Prod.mk.injEq, exists_eq_left', exists_eq', exists_and_left, exists_and_right, true_and, and_true, true_or, or_true, and_self, and_assoc, Option.toList_some, Option.toList_none, List.cons_append, List.nil_append, ↓reduceIte, rz_x01, rz_x10, f0, os', ↓if_neg c1, ↓if_neg w0, ↓if_neg w1', ↓if_neg w2, ↓if_neg w3, ↓if_neg w4]
set_option maxHeartbeats 4000000 in
set_option maxRecDepth 100000 in
theorem m_M_pile {p what : Int32} (h : rz_MM m s hist shot tx ro re sp os B hp) (hI : rz_IV s) : rz_ev (d + 2) 168 0 [some (.ref m), some (.int p), some (.int what), none] [] hp R ↔ R (some (.int (rz_pile_ s.1 p what))) hp := by
  obtain ⟨L, fl, am, lat, rd, laid, ci, co, tb⟩ := s
  obtain ⟨⟨f0, -⟩, ⟨f, a1, w1⟩, -⟩ := id h
  obtain ⟨S, Z, hS, -, hZ, hY⟩ := id w1
  have z10 : ¬ (1 : Int32) = 0 := by decide
  have hlt := hI.1.lt40
  have hpm := rz_YZ_perm hY
  unfold rz_pile_
  by_cases hp16 : 0 ≤ p ∧ p ≤ 16
  · have oi := fun R => (m_M_in (d := d + 1) (hp := hp) (R := R)).1 hp16
    have g1 : ¬ (p < 0 ∨ 17 ≤ p) := fun q => q.elim (Int32.not_lt.mpr hp16.1) (fun q => absurd (Int32.le_trans q hp16.2) (by decide))
    obtain ⟨b, hb, ob⟩ := m_M_frontOf_ex (d := d) (p := p) a1 hZ (rz_YZ_dz hY)
    have om := fun R => m_M_manyIn (d := d) (p := p) a1 hZ (R := R)
    rw [rz_cnt_perm hpm] at om
    have ok0 := fun R => m_M_keyIn0 (d := d) (p := p) a1 hZ (R := R)
    have ok1 := fun R => m_M_keyIn1 (d := d) (p := p) a1 hZ (fun z hz => (hlt z.1 (rz_YZ_mem hY hz)).2.1) (R := R)
    rw [rz_mk_perm hpm p (fun x hx q => absurd (hlt x hx).2.1 (by rw [q]; decide))] at ok0
    rw [rz_xk_perm hpm] at ok1
    rw [if_neg g1]
    by_cases w0 : what = 0
    · simp only [↓ri_168_0, ↓ri_168_1, ↓ri_168_2, ↓ri_168_4, ↓ri_168_7, ↓ri_168_10, ↓ri_168_11, ↓ri_168_12, ↓ri_168_13, ↓ri_168_16, ↓ri_168_17, ↓ri_168_20, ↓ri_168_21, ↓ri_168_22, ↓ri_168_52, ↓ri_168_53, ↓ri_168_56, ↓ri_168_57, ↓ri_168_60, ↓ri_168_61, ↓ri_168_62, ↓ri_168_65, ↓ri_168_66, ↓ri_168_67, ↓ri_168_68, ↓ri_168_71, ↓ri_168_72, ↓ri_168_75, ↓ri_168_76, ↓ri_168_79, ↓ri_168_80, ↓ri_168_81, ↓ri_168_83, ↓ri_168_86, ↓ri_168_88, ↓ri_168_91, ↓ri_168_92, ↓ri_168_95, ↓ri_168_96, ↓ri_168_97, ↓ri_168_100, ↓ri_168_101, ↓ri_168_103, Option.some.injEq, Prod.mk.injEq, exists_eq_left', exists_eq', exists_and_left, exists_and_right, true_and, and_true, true_or, or_true, and_self, and_assoc, Option.toList_some, Option.toList_none, List.cons_append, List.nil_append, ↓reduceIte, rz_x01, rz_x10, f0, oi, ↓if_neg z10, ob, om, ↓if_pos w0]
    · by_cases w1' : what = 1
      · subst w1'
        have n2 : ¬ (1 : Int32) = 2 := by decide
        have r1 : (1 : Int32) = 1 := rfl
        simp only [↓ri_168_0, ↓ri_168_1, ↓ri_168_2, ↓ri_168_4, ↓ri_168_7, ↓ri_168_10, ↓ri_168_11, ↓ri_168_12, ↓ri_168_13, ↓ri_168_16, ↓ri_168_17, ↓ri_168_20, ↓ri_168_21, ↓ri_168_22, ↓ri_168_52, ↓ri_168_53, ↓ri_168_56, ↓ri_168_57, ↓ri_168_60, ↓ri_168_61, ↓ri_168_62, ↓ri_168_65, ↓ri_168_66, ↓ri_168_67, ↓ri_168_68, ↓ri_168_71, ↓ri_168_72, ↓ri_168_75, ↓ri_168_76, ↓ri_168_79, ↓ri_168_80, ↓ri_168_81, ↓ri_168_83, ↓ri_168_86, ↓ri_168_88, ↓ri_168_91, ↓ri_168_92, ↓ri_168_95, ↓ri_168_96, ↓ri_168_97, ↓ri_168_100, ↓ri_168_101, ↓ri_168_103, Option.some.injEq, Prod.mk.injEq, exists_eq_left', exists_eq', exists_and_left, exists_and_right, true_and, and_true, true_or, or_true, and_self, and_assoc, Option.toList_some, Option.toList_none, List.cons_append, List.nil_append, ↓reduceIte, rz_x01, rz_x10, f0, oi, ↓if_neg z10, ob, ↓if_pos r1, ↓if_neg n2, ok0]
      · by_cases w2 : what = 2
        · simp only [↓ri_168_0, ↓ri_168_1, ↓ri_168_2, ↓ri_168_4, ↓ri_168_7, ↓ri_168_10, ↓ri_168_11, ↓ri_168_12, ↓ri_168_13, ↓ri_168_16, ↓ri_168_17, ↓ri_168_20, ↓ri_168_21, ↓ri_168_22, ↓ri_168_52, ↓ri_168_53, ↓ri_168_56, ↓ri_168_57, ↓ri_168_60, ↓ri_168_61, ↓ri_168_62, ↓ri_168_65, ↓ri_168_66, ↓ri_168_67, ↓ri_168_68, ↓ri_168_71, ↓ri_168_72, ↓ri_168_75, ↓ri_168_76, ↓ri_168_79, ↓ri_168_80, ↓ri_168_81, ↓ri_168_83, ↓ri_168_86, ↓ri_168_88, ↓ri_168_91, ↓ri_168_92, ↓ri_168_95, ↓ri_168_96, ↓ri_168_97, ↓ri_168_100, ↓ri_168_101, ↓ri_168_103, Option.some.injEq, Prod.mk.injEq, exists_eq_left', exists_eq', exists_and_left, exists_and_right, true_and, and_true, true_or, or_true, and_self, and_assoc, Option.toList_some, Option.toList_none, List.cons_append, List.nil_append, ↓reduceIte, rz_x01, rz_x10, f0, oi, ↓if_neg z10, ob, ↓if_neg w0, ↓if_neg w1', ↓if_pos w2, ok1]
        · by_cases w3 : what = 3
          · rcases rz_fr_ex (L := L) (p := p) with ⟨r1, r2⟩ | ⟨j, e, he, hep, r2, r3⟩
            · have hb5 : b = -5 := by
                rcases hb with ⟨q, -⟩ | ⟨k, -, hk, z, hz, hzp, -⟩
                · exact q
                · exact absurd hzp (r2 z.1 (rz_YZ_mem hY (List.mem_of_getElem? hz)))
              simp only [↓ri_168_0, ↓ri_168_1, ↓ri_168_2, ↓ri_168_4, ↓ri_168_7, ↓ri_168_10, ↓ri_168_11, ↓ri_168_12, ↓ri_168_13, ↓ri_168_16, ↓ri_168_17, ↓ri_168_20, ↓ri_168_21, ↓ri_168_22, ↓ri_168_52, ↓ri_168_53, ↓ri_168_56, ↓ri_168_57, ↓ri_168_60, ↓ri_168_61, ↓ri_168_62, ↓ri_168_65, ↓ri_168_66, ↓ri_168_67, ↓ri_168_68, ↓ri_168_71, ↓ri_168_72, ↓ri_168_75, ↓ri_168_76, ↓ri_168_79, ↓ri_168_80, ↓ri_168_81, ↓ri_168_83, ↓ri_168_86, ↓ri_168_88, ↓ri_168_91, ↓ri_168_92, ↓ri_168_95, ↓ri_168_96, ↓ri_168_97, ↓ri_168_100, ↓ri_168_101, ↓ri_168_103, Option.some.injEq, Prod.mk.injEq, exists_eq_left', exists_eq', exists_and_left, exists_and_right, true_and, and_true, true_or, or_true, and_self, and_assoc, Option.toList_some, Option.toList_none, List.cons_append, List.nil_append, ↓reduceIte, rz_x01, rz_x10, f0, oi, ↓if_neg z10, ob, ↓if_neg w0, ↓if_neg w1', ↓if_neg w2, ↓if_pos w3, ↓if_pos hb5, r1]
            · obtain ⟨Y, y, y1, y2, y3, y4, y5, y6⟩ := rz_YZ_at hY he
              replace y1 : Y.map Prod.fst = L := y1
              obtain ⟨i, hfz, hzi⟩ := rz_fzY y2 y3 y5 (by rw [y6]; exact hep) (fun k x hk hx => r2 k x.1 hk (by rw [← y1, List.getElem?_map, hx]; rfl))
              have hbi : b = nI i := rz_frS_one (rz_YZ_dz hY) hb (Or.inr ⟨i, rfl, hfz⟩)
              have hi41 : i < 41 := Nat.lt_of_lt_of_le hfz.1 hZ.1
              have c5 : ¬ b = -5 := by rw [hbi]; exact rz_ne5 (by omega)
              have o0 := fun R => m_M_of (d := d + 1) (i := i) (w := 0) (x := 0) a1 hi41 (by decide) rfl (R := R)
              rw [Nat.add_zero (184 + 6 * i), (hZ.2.2 i y hzi).1, y6, ← hbi] at o0
              simp only [↓ri_168_0, ↓ri_168_1, ↓ri_168_2, ↓ri_168_4, ↓ri_168_7, ↓ri_168_10, ↓ri_168_11, ↓ri_168_12, ↓ri_168_13, ↓ri_168_16, ↓ri_168_17, ↓ri_168_20, ↓ri_168_21, ↓ri_168_22, ↓ri_168_52, ↓ri_168_53, ↓ri_168_56, ↓ri_168_57, ↓ri_168_60, ↓ri_168_61, ↓ri_168_62, ↓ri_168_65, ↓ri_168_66, ↓ri_168_67, ↓ri_168_68, ↓ri_168_71, ↓ri_168_72, ↓ri_168_75, ↓ri_168_76, ↓ri_168_79, ↓ri_168_80, ↓ri_168_81, ↓ri_168_83, ↓ri_168_86, ↓ri_168_88, ↓ri_168_91, ↓ri_168_92, ↓ri_168_95, ↓ri_168_96, ↓ri_168_97, ↓ri_168_100, ↓ri_168_101, ↓ri_168_103, Option.some.injEq, Prod.mk.injEq, exists_eq_left', exists_eq', exists_and_left, exists_and_right, true_and, and_true, true_or, or_true, and_self, and_assoc, Option.toList_some, Option.toList_none, List.cons_append, List.nil_append, ↓reduceIte, rz_x01, rz_x10, f0, oi, ↓if_neg z10, ob, ↓if_neg w0, ↓if_neg w1', ↓if_neg w2, ↓if_pos w3, ↓if_neg c5, o0, r3]
          · simp only [↓ri_168_0, ↓ri_168_1, ↓ri_168_2, ↓ri_168_4, ↓ri_168_7, ↓ri_168_10, ↓ri_168_11, ↓ri_168_12, ↓ri_168_13, ↓ri_168_16, ↓ri_168_17, ↓ri_168_20, ↓ri_168_21, ↓ri_168_22, ↓ri_168_52, ↓ri_168_53, ↓ri_168_56, ↓ri_168_57, ↓ri_168_60, ↓ri_168_61, ↓ri_168_62, ↓ri_168_65, ↓ri_168_66, ↓ri_168_67, ↓ri_168_68, ↓ri_168_71, ↓ri_168_72, ↓ri_168_75, ↓ri_168_76, ↓ri_168_79, ↓ri_168_80, ↓ri_168_81, ↓ri_168_83, ↓ri_168_86, ↓ri_168_88, ↓ri_168_91, ↓ri_168_92, ↓ri_168_95, ↓ri_168_96, ↓ri_168_97, ↓ri_168_100, ↓ri_168_101, ↓ri_168_103, Option.some.injEq, Prod.mk.injEq, exists_eq_left', exists_eq', exists_and_left, exists_and_right, true_and, and_true, true_or, or_true, and_self, and_assoc, Option.toList_some, Option.toList_none, List.cons_append, List.nil_append, ↓reduceIte, rz_x01, rz_x10, f0, oi, ↓if_neg z10, ob, ↓if_neg w0, ↓if_neg w1', ↓if_neg w2, ↓if_neg w3]
  · have oi := fun R => (m_M_in (d := d + 1) (hp := hp) (R := R)).2 hp16
    have g1 : p < 0 ∨ 17 ≤ p := by
      by_cases q : p < 0
      · exact Or.inl q
      · right
        have q2 : 16 < p := Int32.not_le.mp (fun q3 => hp16 ⟨Int32.not_lt.mp q, q3⟩)
        obtain ⟨k, hk, rfl⟩ := nI_of q
        have := (nI_ltI (a := 16) (by decide) hk).mp q2
        exact nI_le (a := 17) (by omega) hk
    rw [if_pos g1]
    simp only [↓ri_168_0, ↓ri_168_1, ↓ri_168_2, ↓ri_168_4, ↓ri_168_7, ↓ri_168_10, ↓ri_168_11, Option.some.injEq, Prod.mk.injEq, exists_eq_left', exists_eq', exists_and_left, exists_and_right, true_and, and_true, true_or, or_true, and_self, and_assoc, Option.toList_some, Option.toList_none, List.cons_append, List.nil_append, ↓reduceIte, rz_x01, rz_x10, oi]
set_option maxHeartbeats 4000000 in
set_option maxRecDepth 100000 in
theorem m_M_movesLeft (h : rz_MM m s hist shot tx ro re sp os B hp) : rz_ev (d + 1) 173 0 [some (.ref m), none, none] [] hp R ↔ R (some (.int (rz_sp s.1))) hp := by
  obtain ⟨⟨f0, -⟩, ⟨f, a1, w1⟩, -⟩ := id h
  obtain ⟨S, Z, hS, -, hZ, hY⟩ := id w1
  rw [← rz_sp_perm (rz_YZ_perm hY)]
  obtain ⟨hl, h1, hz⟩ := hZ
  have hL : ∀ n, n ≤ Z.length → (rz_ev (d + 1) 173 4 [some (.ref m), some (.int (rz_sp ((Z.map Prod.fst).take n))), some (.int (nI n))] [] hp R ↔ R (some (.int (rz_sp (Z.map Prod.fst)))) hp) := by
    refine rz_down Z.length ?_ ?_
    · have c1 := rz_topZ hl
      rw [ri_173_4, rz_mlen]
      simp only [↓ri_173_5, ↓ri_173_6, ↓ri_173_9, ↓ri_173_10, ↓ri_173_11, ↓ri_173_14, ↓ri_173_15, ↓ri_173_16, ↓ri_173_19, ↓ri_173_20, ↓ri_173_21, ↓ri_173_24, ↓ri_173_25, ↓ri_173_26, ↓ri_173_29, ↓ri_173_32, ↓ri_173_33, Option.some.injEq, Prod.mk.injEq, exists_eq_left', exists_eq', exists_and_left, exists_and_right, true_and, and_true, true_or, or_true, and_self, and_assoc, Option.toList_some, Option.toList_none, List.cons_append, List.nil_append, ↓reduceIte, rz_x01, rz_x10, f0, a1, rz_v1, rz_k1, h1, ↓if_pos c1]
    · intro n hn ih
      have c1 : ¬ nI Z.length ≤ nI n := nI_ge hn (by omega)
      obtain ⟨x, hx⟩ := rz_ge hn
      obtain ⟨g0, g1, g2, g3, g4, g5, g6⟩ := hz n x hx
      have o4 := fun R => m_M_of (d := d) (i := n) (w := 4) (x := 4) a1 (by omega) (by decide) rfl (R := R)
      rw [g4] at o4
      have e1 : rz_sp ((Z.map Prod.fst).take (n + 1)) = rz_sp ((Z.map Prod.fst).take n) + x.1.2.2.2.2 := by
        unfold rz_sp
        rw [rz_tk (rz_mpt hx), List.foldl_append, List.foldl_cons, List.foldl_nil]
      rw [← ih, e1, ri_173_4]
      simp only [↓ri_173_5, ↓ri_173_6, ↓ri_173_9, ↓ri_173_10, ↓ri_173_11, ↓ri_173_14, ↓ri_173_15, ↓ri_173_16, ↓ri_173_19, ↓ri_173_20, ↓ri_173_21, ↓ri_173_24, ↓ri_173_25, ↓ri_173_26, ↓ri_173_29, Option.some.injEq, Prod.mk.injEq, exists_eq_left', exists_eq', exists_and_left, exists_and_right, true_and, and_true, true_or, or_true, and_self, and_assoc, Option.toList_some, Option.toList_none, List.cons_append, List.nil_append, ↓reduceIte, rz_x01, rz_x10, f0, a1, rz_v1, rz_k1, h1, ↓if_neg c1, o4, nI_1]
  have h0 := hL 0 (Nat.zero_le _)
  rw [nI_0, show rz_sp ((Z.map Prod.fst).take 0) = 0 from rfl] at h0
  simp only [↓ri_173_0, ↓ri_173_1, ↓ri_173_2, ↓ri_173_3, h0]
set_option maxHeartbeats 4000000 in
set_option maxRecDepth 100000 in
theorem m_M_roadOf {x y : Int32} (h : rz_MM m (L, fl, am, lat, rd, laid, ci, co, tb) hist shot tx ro re sp os B hp) : rz_ev (d + 2) 175 0 [some (.ref m), some (.int x), some (.int y)] [] hp R ↔ R (some (.int (rz_roadOf_ rd x y))) hp := by
  obtain ⟨⟨f0, -⟩, ⟨f, a1, w1⟩, -⟩ := id h
  obtain ⟨S, Z, hS, ⟨q0, q2, q3, q4, q5, q6, q7, q8⟩, hZ, hY⟩ := id w1
  have z10 : ¬ (1 : Int32) = 0 := by decide
  unfold rz_roadOf_
  by_cases hx : rz_town x
  · have tx' := fun R => (m_M_isTown (d := d) (hp := hp) (R := R)).1 hx
    by_cases hy : rz_town y
    · have ty := fun R => (m_M_isTown (d := d) (hp := hp) (R := R)).1 hy
      have hix := (rz_ix_of hx hy).1
      have op := fun hp R => m_M_placeOf (d := d + 1) (hp := hp) hx hy (R := R)
      have v2 : vp_in (nI (40 + rz_ix x y)) 430 := vp_in_nI (by omega) (by decide)
      have k2 : (nI (40 + rz_ix x y)).toNatClampNeg = 40 + rz_ix x y := nI_clamp (by omega)
      simp only [↓ri_175_0, ↓ri_175_1, ↓ri_175_4, ↓ri_175_7, ↓ri_175_8, ↓ri_175_11, ↓ri_175_14, ↓ri_175_15, ↓ri_175_18, ↓ri_175_19, ↓ri_175_20, ↓ri_175_23, ↓ri_175_24, ↓ri_175_27, ↓ri_175_28, Option.some.injEq, Prod.mk.injEq, exists_eq_left', exists_eq', exists_and_left, exists_and_right, true_and, and_true, true_or, or_true, and_self, and_assoc, Option.toList_some, Option.toList_none, List.cons_append, List.nil_append, ↓reduceIte, rz_x01, rz_x10, tx', ty, ↓if_neg z10, op, f0, a1, v2, k2, q8 _ hix, ↓if_pos (And.intro hx hy)]
    · have ty := fun R => (m_M_isTown (d := d) (hp := hp) (R := R)).2 hy
      have h1 : ¬ (rz_town x ∧ rz_town y) := fun q => hy q.2
      simp only [↓ri_175_0, ↓ri_175_1, ↓ri_175_4, ↓ri_175_7, ↓ri_175_8, ↓ri_175_11, ↓ri_175_14, ↓ri_175_15, ↓ri_175_18, ↓ri_175_19, ↓ri_175_20, ↓ri_175_23, ↓ri_175_24, ↓ri_175_27, ↓ri_175_28, Option.some.injEq, Prod.mk.injEq, exists_eq_left', exists_eq', exists_and_left, exists_and_right, true_and, and_true, true_or, or_true, and_self, and_assoc, Option.toList_some, Option.toList_none, List.cons_append, List.nil_append, ↓reduceIte, rz_x01, rz_x10, tx', ty, ↓if_neg z10, ↓if_neg h1]
  · have tx' := fun R => (m_M_isTown (d := d) (hp := hp) (R := R)).2 hx
    have h1 : ¬ (rz_town x ∧ rz_town y) := fun q => hx q.1
    simp only [↓ri_175_0, ↓ri_175_1, ↓ri_175_4, ↓ri_175_7, ↓ri_175_8, ↓ri_175_11, ↓ri_175_14, ↓ri_175_15, ↓ri_175_18, ↓ri_175_19, ↓ri_175_20, ↓ri_175_23, ↓ri_175_24, ↓ri_175_27, ↓ri_175_28, Option.some.injEq, Prod.mk.injEq, exists_eq_left', exists_eq', exists_and_left, exists_and_right, true_and, and_true, true_or, or_true, and_self, and_assoc, Option.toList_some, Option.toList_none, List.cons_append, List.nil_append, ↓reduceIte, rz_x01, rz_x10, tx', ↓if_neg h1]
set_option maxHeartbeats 4000000 in
set_option maxRecDepth 100000 in
theorem m_M_out {back what : Int32} (h : rz_MM m (L, fl, am, lat, rd, laid, ci, co, tb) hist shot tx ro re sp os B hp) : rz_ev (d + 1) 174 0 [some (.ref m), some (.int back), some (.int what)] [] hp R ↔ R (some (.int (rz_tell lat back what))) hp := by
  obtain ⟨⟨f0, -⟩, ⟨f, a1, w1⟩, -⟩ := id h
  obtain ⟨S, Z, hS, ⟨q0, q2, q3, q4, q5, q6, ⟨h8, h7, hA⟩, q8⟩, hZ, hY⟩ := id w1
  have z10 : ¬ (1 : Int32) = 0 := by decide
  unfold rz_tell
  by_cases hb : back < 0
  · simp only [↓ri_174_0, ↓ri_174_1, ↓ri_174_4, ↓ri_174_5, ↓ri_174_6, ↓ri_174_7, ↓ri_174_10, ↓ri_174_13, ↓ri_174_15, Option.some.injEq, Prod.mk.injEq, exists_eq_left', exists_eq', exists_and_left, exists_and_right, true_and, and_true, true_or, or_true, and_self, and_assoc, Option.toList_some, Option.toList_none, List.cons_append, List.nil_append, ↓reduceIte, rz_x01, rz_x10, ↓if_pos hb, ↓if_pos (Or.inl (b := what < 0 ∨ 3 < what) hb)]
  · by_cases hw : 0 ≤ what ∧ what ≤ 3
    · have oi := fun R => (m_M_in (d := d) (hp := hp) (R := R)).1 hw
      have g1 : ¬ (back < 0 ∨ what < 0 ∨ 3 < what) := fun q => q.elim hb (fun q => q.elim (Int32.not_lt.mpr hw.1) (Int32.not_lt.mpr hw.2))
      obtain ⟨k, hk, rfl⟩ := nI_of hb
      obtain ⟨w, hw4, rfl⟩ := nI_of2 (M := 3) (n := 3) (by decide) (Int32.not_lt.mpr hw.1) hw.2
      rw [if_neg g1, nI_clamp hk]
      by_cases hkl : k < lat.length
      · have c1 : ¬ nI lat.length ≤ nI k := nI_ge hkl (by omega)
        obtain ⟨x, hx⟩ := rz_ge hkl
        obtain ⟨r0, r1, r2, r3⟩ := hA k x hx
        have e1 : (8 : Int32) + 4 * (nI lat.length - 1 - nI k) + nI w = nI (8 + 4 * (lat.length - 1 - k) + w) := by
          rw [show (1 : Int32) = nI 1 from rfl, pk_sub (by omega), pk_sub (by omega), show (8 : Int32) = nI 8 from rfl, show (4 : Int32) = nI 4 from rfl, pk_mul, nI_add, nI_add]
        have v2 : vp_in (nI (8 + 4 * (lat.length - 1 - k) + w)) 430 := vp_in_nI (by omega) (by decide)
        have k2 : (nI (8 + 4 * (lat.length - 1 - k) + w)).toNatClampNeg = 8 + 4 * (lat.length - 1 - k) + w := nI_clamp (by omega)
        have ef : f (8 + 4 * (lat.length - 1 - k) + w) = (if nI w = 0 then x.1 else if nI w = 1 then x.2.1 else if nI w = 2 then x.2.2.1 else x.2.2.2) := by
          have n10 : ¬ nI 1 = 0 := by decide
          have n20 : ¬ nI 2 = 0 := by decide
          have n21 : ¬ nI 2 = 1 := by decide
          have n30 : ¬ nI 3 = 0 := by decide
          have n31 : ¬ nI 3 = 1 := by decide
          have n32 : ¬ nI 3 = 2 := by decide
          have hw5 : w = 0 ∨ w = 1 ∨ w = 2 ∨ w = 3 := by omega
          rcases hw5 with rfl | rfl | rfl | rfl
          · rw [if_pos (show nI 0 = 0 from rfl)]; exact r0
          · rw [if_neg n10, if_pos (show nI 1 = 1 from rfl)]; exact r1
          · rw [if_neg n20, if_neg n21, if_pos (show nI 2 = 2 from rfl)]; exact r2
          · rw [if_neg n30, if_neg n31, if_neg n32]; exact r3
        simp only [↓ri_174_0, ↓ri_174_1, ↓ri_174_4, ↓ri_174_5, ↓ri_174_6, ↓ri_174_7, ↓ri_174_10, ↓ri_174_13, ↓ri_174_15, ↓ri_174_16, ↓ri_174_17, ↓ri_174_18, ↓ri_174_21, ↓ri_174_23, ↓ri_174_24, ↓ri_174_27, ↓ri_174_28, ↓ri_174_31, ↓ri_174_33, ↓ri_174_34, ↓ri_174_35, ↓ri_174_38, ↓ri_174_40, ↓ri_174_41, ↓ri_174_42, ↓ri_174_43, ↓ri_174_44, ↓ri_174_45, ↓ri_174_46, ↓ri_174_47, ↓ri_174_48, ↓ri_174_49, ↓ri_174_50, ↓ri_174_53, ↓ri_174_55, Option.some.injEq, Prod.mk.injEq, exists_eq_left', exists_eq', exists_and_left, exists_and_right, true_and, and_true, true_or, or_true, and_self, and_assoc, Option.toList_some, Option.toList_none, List.cons_append, List.nil_append, ↓reduceIte, rz_x01, rz_x10, ↓if_neg hb, oi, ↓if_neg z10, f0, a1, rz_v7, rz_k7, h7, ↓if_neg c1, e1, v2, k2, hx, ef]
      · have c1 : nI lat.length ≤ nI k := nI_le (by omega) hk
        have hx : lat[k]? = none := List.getElem?_eq_none (by omega)
        simp only [↓ri_174_0, ↓ri_174_1, ↓ri_174_4, ↓ri_174_5, ↓ri_174_6, ↓ri_174_7, ↓ri_174_10, ↓ri_174_13, ↓ri_174_15, ↓ri_174_16, ↓ri_174_17, ↓ri_174_18, ↓ri_174_21, ↓ri_174_23, ↓ri_174_24, ↓ri_174_27, ↓ri_174_28, ↓ri_174_31, ↓ri_174_33, ↓ri_174_34, ↓ri_174_35, ↓ri_174_38, ↓ri_174_40, ↓ri_174_41, ↓ri_174_42, ↓ri_174_43, ↓ri_174_44, ↓ri_174_45, ↓ri_174_46, ↓ri_174_47, ↓ri_174_48, ↓ri_174_49, ↓ri_174_50, ↓ri_174_53, ↓ri_174_55, Option.some.injEq, Prod.mk.injEq, exists_eq_left', exists_eq', exists_and_left, exists_and_right, true_and, and_true, true_or, or_true, and_self, and_assoc, Option.toList_some, Option.toList_none, List.cons_append, List.nil_append, ↓reduceIte, rz_x01, rz_x10, ↓if_neg hb, oi, ↓if_neg z10, f0, a1, rz_v7, rz_k7, h7, ↓if_pos c1, hx]
    · have oi := fun R => (m_M_in (d := d) (hp := hp) (R := R)).2 hw
      have g1 : back < 0 ∨ what < 0 ∨ 3 < what := by
        by_cases q : what < 0
        · exact Or.inr (Or.inl q)
        · exact Or.inr (Or.inr (Int32.not_le.mp (fun q2 => hw ⟨Int32.not_lt.mp q, q2⟩)))
      simp only [↓ri_174_0, ↓ri_174_1, ↓ri_174_4, ↓ri_174_5, ↓ri_174_6, ↓ri_174_7, ↓ri_174_10, ↓ri_174_13, ↓ri_174_15, Option.some.injEq, Prod.mk.injEq, exists_eq_left', exists_eq', exists_and_left, exists_and_right, true_and, and_true, true_or, or_true, and_self, and_assoc, Option.toList_some, Option.toList_none, List.cons_append, List.nil_append, ↓reduceIte, rz_x01, rz_x10, ↓if_neg hb, oi, ↓if_pos g1]
set_option maxHeartbeats 4000000 in
set_option maxRecDepth 100000 in
theorem m_M_pilesFull (h : rz_MM m s hist shot tx ro re sp os B hp) (hI : rz_IV s) : rz_ev (d + 2) 181 0 [some (.ref m), none, none] [] hp R ↔ R (some (.int (nI (rz_pu s.1 17)))) hp := by
  obtain ⟨L, fl, am, lat, rd, laid, ci, co, tb⟩ := s
  obtain ⟨⟨f0, -⟩, ⟨f, a1, w1⟩, -⟩ := id h
  obtain ⟨S, Z, hS, -, hZ, hY⟩ := id w1
  have hlt := hI.1.lt40
  have hlen : L.length ≤ 41 := w1.one.2
  show _ ↔ R (some (.int (nI (rz_pu L 17)))) hp
  have hL : ∀ n, n ≤ 17 → (rz_ev (d + 2) 181 4 [some (.ref m), some (.int (nI (rz_pu L n))), some (.int (nI n))] [] hp R ↔ R (some (.int (nI (rz_pu L 17)))) hp) := by
    refine rz_down 17 ?_ ?_
    · have c1 : (17 : Int32) ≤ nI 17 := by decide
      rw [ri_181_4]
      simp only [↓ri_181_5, ↓ri_181_7, ↓ri_181_10, ↓ri_181_11, ↓ri_181_12, ↓ri_181_15, ↓ri_181_16, ↓ri_181_19, ↓ri_181_22, ↓ri_181_23, ↓ri_181_26, ↓ri_181_27, ↓ri_181_28, ↓ri_181_29, ↓ri_181_32, ↓ri_181_35, ↓ri_181_36, Option.some.injEq, Prod.mk.injEq, exists_eq_left', exists_eq', exists_and_left, exists_and_right, true_and, and_true, true_or, or_true, and_self, and_assoc, Option.toList_some, Option.toList_none, List.cons_append, List.nil_append, ↓reduceIte, rz_x01, rz_x10, ↓if_pos c1]
    · intro n hn ih
      have c1 : ¬ (17 : Int32) ≤ nI n := nI_ge (b := 17) hn (by decide)
      have om := fun R => m_M_manyIn (d := d) (p := nI n) a1 hZ (R := R)
      rw [rz_cnt_perm (rz_YZ_perm hY)] at om
      have hle := rz_cnt_le L (nI n)
      have e1 : rz_pu L (n + 1) = rz_pu L n + if 0 < rz_cnt L (nI n) then 1 else 0 := by
        unfold rz_pu
        rw [List.range_succ, List.countP_append, List.countP_cons, List.countP_nil]
        congr 1
        by_cases q : 0 < rz_cnt L (nI n)
        · rw [if_pos q, if_pos (by simpa using (rz_fr_cnt (fun x hx => (hlt x hx).2.2.2.2)).mpr q)]
        · rw [if_neg q, if_neg (by simpa using fun q2 => q ((rz_fr_cnt (fun x hx => (hlt x hx).2.2.2.2)).mp q2))]
      rw [← ih, e1, ri_181_4]
      by_cases q : 0 < rz_cnt L (nI n)
      · have c2 : ¬ nI (rz_cnt L (nI n)) ≤ 0 := nI_nle q (by omega)
        simp only [↓ri_181_5, ↓ri_181_7, ↓ri_181_10, ↓ri_181_11, ↓ri_181_12, ↓ri_181_15, ↓ri_181_16, ↓ri_181_19, ↓ri_181_22, ↓ri_181_23, ↓ri_181_26, ↓ri_181_27, ↓ri_181_28, ↓ri_181_29, ↓ri_181_32, Option.some.injEq, Prod.mk.injEq, exists_eq_left', exists_eq', exists_and_left, exists_and_right, true_and, and_true, true_or, or_true, and_self, and_assoc, Option.toList_some, Option.toList_none, List.cons_append, List.nil_append, ↓reduceIte, rz_x01, rz_x10, f0, ↓if_neg c1, om, ↓if_neg c2, ↓if_pos q, nI_1]
      · have c2 : nI (rz_cnt L (nI n)) ≤ 0 := by rw [show rz_cnt L (nI n) = 0 by omega]; decide
        simp only [↓ri_181_5, ↓ri_181_7, ↓ri_181_10, ↓ri_181_11, ↓ri_181_12, ↓ri_181_15, ↓ri_181_16, ↓ri_181_19, ↓ri_181_22, ↓ri_181_23, ↓ri_181_26, ↓ri_181_27, ↓ri_181_28, ↓ri_181_29, ↓ri_181_32, Option.some.injEq, Prod.mk.injEq, exists_eq_left', exists_eq', exists_and_left, exists_and_right, true_and, and_true, true_or, or_true, and_self, and_assoc, Option.toList_some, Option.toList_none, List.cons_append, List.nil_append, ↓reduceIte, rz_x01, rz_x10, f0, ↓if_neg c1, om, ↓if_pos c2, ↓if_neg q, nI_1, Int32.add_zero, Nat.add_zero]
  have h0 := hL 0 (Nat.zero_le _)
  rw [nI_0, show rz_pu L 0 = 0 from rfl, nI_0] at h0
  simp only [↓ri_181_0, ↓ri_181_1, ↓ri_181_2, ↓ri_181_3, h0]
set_option maxHeartbeats 4000000 in
set_option maxRecDepth 100000 in
theorem m_M_count {what : Int32} (h : rz_MM m s hist shot tx ro re sp os B hp) (hI : rz_IV s) : rz_ev (d + 3) 182 0 [some (.ref m), some (.int what)] [] hp R ↔ R (some (.int (rz_count_ s hist.length tx.length what))) hp := by
  obtain ⟨L, fl, am, lat, rd, laid, ci, co, tb⟩ := s
  obtain ⟨⟨f0, f1, f2, f3, f4, f5, f6, f7, f8, -⟩, ⟨f, a1, w1⟩, -⟩ := id h
  have hone := w1.one.1
  replace hone : f 1 = nI L.length := hone
  obtain ⟨S, Z, hS, ⟨q0, q2, q3, q4, q5, q6, q7, q8⟩, hZ, hY⟩ := id w1
  have op := fun R => m_M_pilesFull (d := d) h hI (R := R)
  have or := fun R => m_M_roads (d := d + 2) h (R := R)
  have v5 : vp_in 5 430 := vp_in_nI (n := 5) (by decide) (by decide)
  have k5 : (5 : Int32).toNatClampNeg = 5 := rfl
  have hla : nI (rz_tot rd) = laid := hI.2.2.2.symm
  rw [hla] at or
  replace op : ∀ R, rz_ev (d + 2) 181 0 [some (.ref m), none, none] [] hp R ↔ R (some (.int (nI (rz_pu L 17)))) hp := op
  unfold rz_count_
  by_cases w0 : what = 0
  · simp only [↓ri_182_0, ↓ri_182_1, ↓ri_182_56, ↓ri_182_57, ↓ri_182_60, ↓ri_182_61, ↓ri_182_62, ↓ri_182_63, ↓ri_182_64, ↓ri_182_67, ↓ri_182_68, ↓ri_182_69, ↓ri_182_70, ↓ri_182_71, ↓ri_182_74, ↓ri_182_75, ↓ri_182_76, ↓ri_182_77, ↓ri_182_78, ↓ri_182_81, ↓ri_182_82, ↓ri_182_83, ↓ri_182_84, ↓ri_182_85, ↓ri_182_88, ↓ri_182_89, ↓ri_182_90, ↓ri_182_91, ↓ri_182_92, ↓ri_182_95, ↓ri_182_96, ↓ri_182_97, ↓ri_182_100, ↓ri_182_101, ↓ri_182_102, ↓ri_182_105, ↓ri_182_106, ↓ri_182_107, ↓ri_182_108, ↓ri_182_109, ↓ri_182_112, ↓ri_182_113, ↓ri_182_114, ↓ri_182_117, ↓ri_182_118, ↓ri_182_120, Option.some.injEq, Prod.mk.injEq, exists_eq_left', exists_eq', exists_and_left, exists_and_right, true_and, and_true, true_or, or_true, and_self, and_assoc, Option.toList_some, Option.toList_none, List.cons_append, List.nil_append, ↓reduceIte, rz_x01, rz_x10, f0, a1, rz_v1, rz_k1, hone, ↓if_pos w0]
  by_cases w1 : what = 1
  · simp only [↓ri_182_0, ↓ri_182_1, ↓ri_182_56, ↓ri_182_57, ↓ri_182_60, ↓ri_182_61, ↓ri_182_62, ↓ri_182_63, ↓ri_182_64, ↓ri_182_67, ↓ri_182_68, ↓ri_182_69, ↓ri_182_70, ↓ri_182_71, ↓ri_182_74, ↓ri_182_75, ↓ri_182_76, ↓ri_182_77, ↓ri_182_78, ↓ri_182_81, ↓ri_182_82, ↓ri_182_83, ↓ri_182_84, ↓ri_182_85, ↓ri_182_88, ↓ri_182_89, ↓ri_182_90, ↓ri_182_91, ↓ri_182_92, ↓ri_182_95, ↓ri_182_96, ↓ri_182_97, ↓ri_182_100, ↓ri_182_101, ↓ri_182_102, ↓ri_182_105, ↓ri_182_106, ↓ri_182_107, ↓ri_182_108, ↓ri_182_109, ↓ri_182_112, ↓ri_182_113, ↓ri_182_114, ↓ri_182_117, ↓ri_182_118, ↓ri_182_120, Option.some.injEq, Prod.mk.injEq, exists_eq_left', exists_eq', exists_and_left, exists_and_right, true_and, and_true, true_or, or_true, and_self, and_assoc, Option.toList_some, Option.toList_none, List.cons_append, List.nil_append, ↓reduceIte, rz_x01, rz_x10, f0, a1, rz_v2, rz_k2, q2, ↓if_neg w0, ↓if_pos w1]
  by_cases w2 : what = 2
  · simp only [↓ri_182_0, ↓ri_182_1, ↓ri_182_56, ↓ri_182_57, ↓ri_182_60, ↓ri_182_61, ↓ri_182_62, ↓ri_182_63, ↓ri_182_64, ↓ri_182_67, ↓ri_182_68, ↓ri_182_69, ↓ri_182_70, ↓ri_182_71, ↓ri_182_74, ↓ri_182_75, ↓ri_182_76, ↓ri_182_77, ↓ri_182_78, ↓ri_182_81, ↓ri_182_82, ↓ri_182_83, ↓ri_182_84, ↓ri_182_85, ↓ri_182_88, ↓ri_182_89, ↓ri_182_90, ↓ri_182_91, ↓ri_182_92, ↓ri_182_95, ↓ri_182_96, ↓ri_182_97, ↓ri_182_100, ↓ri_182_101, ↓ri_182_102, ↓ri_182_105, ↓ri_182_106, ↓ri_182_107, ↓ri_182_108, ↓ri_182_109, ↓ri_182_112, ↓ri_182_113, ↓ri_182_114, ↓ri_182_117, ↓ri_182_118, ↓ri_182_120, Option.some.injEq, Prod.mk.injEq, exists_eq_left', exists_eq', exists_and_left, exists_and_right, true_and, and_true, true_or, or_true, and_self, and_assoc, Option.toList_some, Option.toList_none, List.cons_append, List.nil_append, ↓reduceIte, rz_x01, rz_x10, f0, a1, rz_v3, rz_k3, q3, ↓if_neg w0, ↓if_neg w1, ↓if_pos w2]
  by_cases w3 : what = 3
  · simp only [↓ri_182_0, ↓ri_182_1, ↓ri_182_56, ↓ri_182_57, ↓ri_182_60, ↓ri_182_61, ↓ri_182_62, ↓ri_182_63, ↓ri_182_64, ↓ri_182_67, ↓ri_182_68, ↓ri_182_69, ↓ri_182_70, ↓ri_182_71, ↓ri_182_74, ↓ri_182_75, ↓ri_182_76, ↓ri_182_77, ↓ri_182_78, ↓ri_182_81, ↓ri_182_82, ↓ri_182_83, ↓ri_182_84, ↓ri_182_85, ↓ri_182_88, ↓ri_182_89, ↓ri_182_90, ↓ri_182_91, ↓ri_182_92, ↓ri_182_95, ↓ri_182_96, ↓ri_182_97, ↓ri_182_100, ↓ri_182_101, ↓ri_182_102, ↓ri_182_105, ↓ri_182_106, ↓ri_182_107, ↓ri_182_108, ↓ri_182_109, ↓ri_182_112, ↓ri_182_113, ↓ri_182_114, ↓ri_182_117, ↓ri_182_118, ↓ri_182_120, Option.some.injEq, Prod.mk.injEq, exists_eq_left', exists_eq', exists_and_left, exists_and_right, true_and, and_true, true_or, or_true, and_self, and_assoc, Option.toList_some, Option.toList_none, List.cons_append, List.nil_append, ↓reduceIte, rz_x01, rz_x10, f0, a1, rz_v0, rz_k0, q0, ↓if_neg w0, ↓if_neg w1, ↓if_neg w2, ↓if_pos w3]
  by_cases w4 : what = 4
  · simp only [↓ri_182_0, ↓ri_182_1, ↓ri_182_56, ↓ri_182_57, ↓ri_182_60, ↓ri_182_61, ↓ri_182_62, ↓ri_182_63, ↓ri_182_64, ↓ri_182_67, ↓ri_182_68, ↓ri_182_69, ↓ri_182_70, ↓ri_182_71, ↓ri_182_74, ↓ri_182_75, ↓ri_182_76, ↓ri_182_77, ↓ri_182_78, ↓ri_182_81, ↓ri_182_82, ↓ri_182_83, ↓ri_182_84, ↓ri_182_85, ↓ri_182_88, ↓ri_182_89, ↓ri_182_90, ↓ri_182_91, ↓ri_182_92, ↓ri_182_95, ↓ri_182_96, ↓ri_182_97, ↓ri_182_100, ↓ri_182_101, ↓ri_182_102, ↓ri_182_105, ↓ri_182_106, ↓ri_182_107, ↓ri_182_108, ↓ri_182_109, ↓ri_182_112, ↓ri_182_113, ↓ri_182_114, ↓ri_182_117, ↓ri_182_118, ↓ri_182_120, Option.some.injEq, Prod.mk.injEq, exists_eq_left', exists_eq', exists_and_left, exists_and_right, true_and, and_true, true_or, or_true, and_self, and_assoc, Option.toList_some, Option.toList_none, List.cons_append, List.nil_append, ↓reduceIte, rz_x01, rz_x10, f0, a1, rz_v4, rz_k4, q4, ↓if_neg w0, ↓if_neg w1, ↓if_neg w2, ↓if_neg w3, ↓if_pos w4]
  by_cases w5 : what = 5
  · simp only [↓ri_182_0, ↓ri_182_1, ↓ri_182_56, ↓ri_182_57, ↓ri_182_60, ↓ri_182_61, ↓ri_182_62, ↓ri_182_63, ↓ri_182_64, ↓ri_182_67, ↓ri_182_68, ↓ri_182_69, ↓ri_182_70, ↓ri_182_71, ↓ri_182_74, ↓ri_182_75, ↓ri_182_76, ↓ri_182_77, ↓ri_182_78, ↓ri_182_81, ↓ri_182_82, ↓ri_182_83, ↓ri_182_84, ↓ri_182_85, ↓ri_182_88, ↓ri_182_89, ↓ri_182_90, ↓ri_182_91, ↓ri_182_92, ↓ri_182_95, ↓ri_182_96, ↓ri_182_97, ↓ri_182_100, ↓ri_182_101, ↓ri_182_102, ↓ri_182_105, ↓ri_182_106, ↓ri_182_107, ↓ri_182_108, ↓ri_182_109, ↓ri_182_112, ↓ri_182_113, ↓ri_182_114, ↓ri_182_117, ↓ri_182_118, ↓ri_182_120, Option.some.injEq, Prod.mk.injEq, exists_eq_left', exists_eq', exists_and_left, exists_and_right, true_and, and_true, true_or, or_true, and_self, and_assoc, Option.toList_some, Option.toList_none, List.cons_append, List.nil_append, ↓reduceIte, rz_x01, rz_x10, rz_co_fv f0, op, ↓if_neg w0, ↓if_neg w1, ↓if_neg w2, ↓if_neg w3, ↓if_neg w4, ↓if_pos w5]
  by_cases w6 : what = 6
  · simp only [↓ri_182_0, ↓ri_182_1, ↓ri_182_56, ↓ri_182_57, ↓ri_182_60, ↓ri_182_61, ↓ri_182_62, ↓ri_182_63, ↓ri_182_64, ↓ri_182_67, ↓ri_182_68, ↓ri_182_69, ↓ri_182_70, ↓ri_182_71, ↓ri_182_74, ↓ri_182_75, ↓ri_182_76, ↓ri_182_77, ↓ri_182_78, ↓ri_182_81, ↓ri_182_82, ↓ri_182_83, ↓ri_182_84, ↓ri_182_85, ↓ri_182_88, ↓ri_182_89, ↓ri_182_90, ↓ri_182_91, ↓ri_182_92, ↓ri_182_95, ↓ri_182_96, ↓ri_182_97, ↓ri_182_100, ↓ri_182_101, ↓ri_182_102, ↓ri_182_105, ↓ri_182_106, ↓ri_182_107, ↓ri_182_108, ↓ri_182_109, ↓ri_182_112, ↓ri_182_113, ↓ri_182_114, ↓ri_182_117, ↓ri_182_118, ↓ri_182_120, Option.some.injEq, Prod.mk.injEq, exists_eq_left', exists_eq', exists_and_left, exists_and_right, true_and, and_true, true_or, or_true, and_self, and_assoc, Option.toList_some, Option.toList_none, List.cons_append, List.nil_append, ↓reduceIte, rz_x01, rz_x10, rz_co_fv f0, or, ↓if_neg w0, ↓if_neg w1, ↓if_neg w2, ↓if_neg w3, ↓if_neg w4, ↓if_neg w5, ↓if_pos w6]
  by_cases w7 : what = 7
  · simp only [↓ri_182_0, ↓ri_182_1, ↓ri_182_56, ↓ri_182_57, ↓ri_182_60, ↓ri_182_61, ↓ri_182_62, ↓ri_182_63, ↓ri_182_64, ↓ri_182_67, ↓ri_182_68, ↓ri_182_69, ↓ri_182_70, ↓ri_182_71, ↓ri_182_74, ↓ri_182_75, ↓ri_182_76, ↓ri_182_77, ↓ri_182_78, ↓ri_182_81, ↓ri_182_82, ↓ri_182_83, ↓ri_182_84, ↓ri_182_85, ↓ri_182_88, ↓ri_182_89, ↓ri_182_90, ↓ri_182_91, ↓ri_182_92, ↓ri_182_95, ↓ri_182_96, ↓ri_182_97, ↓ri_182_100, ↓ri_182_101, ↓ri_182_102, ↓ri_182_105, ↓ri_182_106, ↓ri_182_107, ↓ri_182_108, ↓ri_182_109, ↓ri_182_112, ↓ri_182_113, ↓ri_182_114, ↓ri_182_117, ↓ri_182_118, ↓ri_182_120, Option.some.injEq, Prod.mk.injEq, exists_eq_left', exists_eq', exists_and_left, exists_and_right, true_and, and_true, true_or, or_true, and_self, and_assoc, Option.toList_some, Option.toList_none, List.cons_append, List.nil_append, ↓reduceIte, rz_x01, rz_x10, f0, a1, v5, k5, q5, ↓if_neg w0, ↓if_neg w1, ↓if_neg w2, ↓if_neg w3, ↓if_neg w4, ↓if_neg w5, ↓if_neg w6, ↓if_pos w7]
  by_cases w8 : what = 8
  · simp only [↓ri_182_0, ↓ri_182_1, ↓ri_182_56, ↓ri_182_57, ↓ri_182_60, ↓ri_182_61, ↓ri_182_62, ↓ri_182_63, ↓ri_182_64, ↓ri_182_67, ↓ri_182_68, ↓ri_182_69, ↓ri_182_70, ↓ri_182_71, ↓ri_182_74, ↓ri_182_75, ↓ri_182_76, ↓ri_182_77, ↓ri_182_78, ↓ri_182_81, ↓ri_182_82, ↓ri_182_83, ↓ri_182_84, ↓ri_182_85, ↓ri_182_88, ↓ri_182_89, ↓ri_182_90, ↓ri_182_91, ↓ri_182_92, ↓ri_182_95, ↓ri_182_96, ↓ri_182_97, ↓ri_182_100, ↓ri_182_101, ↓ri_182_102, ↓ri_182_105, ↓ri_182_106, ↓ri_182_107, ↓ri_182_108, ↓ri_182_109, ↓ri_182_112, ↓ri_182_113, ↓ri_182_114, ↓ri_182_117, ↓ri_182_118, ↓ri_182_120, Option.some.injEq, Prod.mk.injEq, exists_eq_left', exists_eq', exists_and_left, exists_and_right, true_and, and_true, true_or, or_true, and_self, and_assoc, Option.toList_some, Option.toList_none, List.cons_append, List.nil_append, ↓reduceIte, rz_x01, rz_x10, f4, ↓if_neg w0, ↓if_neg w1, ↓if_neg w2, ↓if_neg w3, ↓if_neg w4, ↓if_neg w5, ↓if_neg w6, ↓if_neg w7, ↓if_pos w8]
  by_cases w9 : what = 9
  · simp only [↓ri_182_0, ↓ri_182_1, ↓ri_182_56, ↓ri_182_57, ↓ri_182_60, ↓ri_182_61, ↓ri_182_62, ↓ri_182_63, ↓ri_182_64, ↓ri_182_67, ↓ri_182_68, ↓ri_182_69, ↓ri_182_70, ↓ri_182_71, ↓ri_182_74, ↓ri_182_75, ↓ri_182_76, ↓ri_182_77, ↓ri_182_78, ↓ri_182_81, ↓ri_182_82, ↓ri_182_83, ↓ri_182_84, ↓ri_182_85, ↓ri_182_88, ↓ri_182_89, ↓ri_182_90, ↓ri_182_91, ↓ri_182_92, ↓ri_182_95, ↓ri_182_96, ↓ri_182_97, ↓ri_182_100, ↓ri_182_101, ↓ri_182_102, ↓ri_182_105, ↓ri_182_106, ↓ri_182_107, ↓ri_182_108, ↓ri_182_109, ↓ri_182_112, ↓ri_182_113, ↓ri_182_114, ↓ri_182_117, ↓ri_182_118, ↓ri_182_120, Option.some.injEq, Prod.mk.injEq, exists_eq_left', exists_eq', exists_and_left, exists_and_right, true_and, and_true, true_or, or_true, and_self, and_assoc, Option.toList_some, Option.toList_none, List.cons_append, List.nil_append, ↓reduceIte, rz_x01, rz_x10, f8, ↓if_neg w0, ↓if_neg w1, ↓if_neg w2, ↓if_neg w3, ↓if_neg w4, ↓if_neg w5, ↓if_neg w6, ↓if_neg w7, ↓if_neg w8, ↓if_pos w9]
  simp only [↓ri_182_0, ↓ri_182_1, ↓ri_182_56, ↓ri_182_57, ↓ri_182_60, ↓ri_182_61, ↓ri_182_62, ↓ri_182_63, ↓ri_182_64, ↓ri_182_67, ↓ri_182_68, ↓ri_182_69, ↓ri_182_70, ↓ri_182_71, ↓ri_182_74, ↓ri_182_75, ↓ri_182_76, ↓ri_182_77, ↓ri_182_78, ↓ri_182_81, ↓ri_182_82, ↓ri_182_83, ↓ri_182_84, ↓ri_182_85, ↓ri_182_88, ↓ri_182_89, ↓ri_182_90, ↓ri_182_91, ↓ri_182_92, ↓ri_182_95, ↓ri_182_96, ↓ri_182_97, ↓ri_182_100, ↓ri_182_101, ↓ri_182_102, ↓ri_182_105, ↓ri_182_106, ↓ri_182_107, ↓ri_182_108, ↓ri_182_109, ↓ri_182_112, ↓ri_182_113, ↓ri_182_114, ↓ri_182_117, ↓ri_182_118, ↓ri_182_120, Option.some.injEq, Prod.mk.injEq, exists_eq_left', exists_eq', exists_and_left, exists_and_right, true_and, and_true, true_or, or_true, and_self, and_assoc, Option.toList_some, Option.toList_none, List.cons_append, List.nil_append, ↓reduceIte, rz_x01, rz_x10, ↓if_neg w0, ↓if_neg w1, ↓if_neg w2, ↓if_neg w3, ↓if_neg w4, ↓if_neg w5, ↓if_neg w6, ↓if_neg w7, ↓if_neg w8, ↓if_neg w9]
end RZMF
