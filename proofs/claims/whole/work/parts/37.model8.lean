/-! RisingPilesModel: orders are carried out -/
section RZME
variable {d a m lo hi n : Nat} {f f2 g : Nat → Int32} {hp h1 : rz_Hp} {R : Option Value → rz_Hp → Prop} {s s2 x : rz_AS} {hist : List rz_AS} {shot : Option rz_AS} {tx : List Int32} {ro re sp sv sh le od : Int32} {os : List rz_Or} {B B2 : Nat} {Z : List rz_Zt} {L : List rz_En} {fl am : Int32} {lat : List rz_La} {rd : Nat → Int32} {laid ci co tb : Int32}
set_option maxHeartbeats 4000000 in
set_option maxRecDepth 100000 in
theorem m_M_does_in {p q : Int32} (h : rz_MM m s hist shot tx ro re sp os B hp) (hI : rz_IV s) (hB : B < 2 ^ 29) (kk : ∀ hp', rz_MM m (rz_in_ s p q).2 hist shot tx ro re sp os (B + 41) hp' → rz_sm (m + 1) (m + 2) hp hp' → R (some (.int (rz_in_ s p q).1)) hp') : rz_ev (d + 5) 163 0 [some (.ref m), some (.int 43), some (.int p), some (.int q), none] [] hp R := by
  obtain ⟨L, fl, am, lat, rd, laid, ci, co, tb⟩ := s
  obtain ⟨⟨f0, -⟩, ⟨f, a1, w1⟩, -⟩ := id h
  have om := fun R => m_M_mayIn (d := d + 3) (key := p) (val := q) h hI (R := R)
  have k43 : (43 : Int32) = 43 := rfl
  by_cases hm : rz_mayI (L, fl, am, lat, rd, laid, ci, co, tb) p q < 0
  · have c1 : ¬ 0 ≤ rz_mayI (L, fl, am, lat, rd, laid, ci, co, tb) p q := Int32.not_le.mpr hm
    simp only [↓ri_163_0, ↓ri_163_1, ↓ri_163_3, ↓ri_163_6, ↓ri_163_7, ↓ri_163_8, ↓ri_163_9, ↓ri_163_12, ↓ri_163_72, ↓ri_163_74, ↓ri_163_76, ↓ri_163_79, ↓ri_163_81, Option.some.injEq, Prod.mk.injEq, exists_eq_left', exists_eq', exists_and_left, exists_and_right, true_and, and_true, true_or, or_true, and_self, and_assoc, Option.toList_some, Option.toList_none, List.cons_append, List.nil_append, ↓reduceIte, rz_x01, rz_x10, ↓if_pos k43, om, rz_co_fv f0, ↓if_neg c1]
    rw [rz_in_may hm] at kk
    exact kk hp (h.mono (by omega)) rz_sm.rf
  · obtain ⟨e1, hk, hfl, hl, hc⟩ := rz_in_ok hm
    have c1 : 0 ≤ rz_mayI (L, fl, am, lat, rd, laid, ci, co, tb) p q := Int32.not_lt.mp hm
    obtain ⟨b, hb, rfl⟩ := rz_key_of hk
    simp only [↓ri_163_0, ↓ri_163_1, ↓ri_163_3, ↓ri_163_6, ↓ri_163_7, ↓ri_163_8, ↓ri_163_9, ↓ri_163_12, ↓ri_163_72, ↓ri_163_74, ↓ri_163_76, ↓ri_163_79, ↓ri_163_81, ↓ri_163_82, ↓ri_163_83, ↓ri_163_116, ↓ri_163_117, ↓ri_163_120, ↓ri_163_121, ↓ri_163_122, Option.some.injEq, Prod.mk.injEq, exists_eq_left', exists_eq', exists_and_left, exists_and_right, true_and, and_true, true_or, or_true, and_self, and_assoc, Option.toList_some, Option.toList_none, List.cons_append, List.nil_append, ↓reduceIte, rz_x01, rz_x10, ↓if_pos k43, om, rz_co_fv f0, ↓if_pos c1, f0]
    refine m_M_comesInW (d := d + 2) a1 w1 hI.1 (by omega) hb (by omega) (fun h2 f2 a2 w2 s2 => ?_)
    simp only [↓ri_163_125, Option.some.injEq, Prod.mk.injEq, exists_eq_left', exists_eq', exists_and_left, exists_and_right, true_and, and_true, true_or, or_true, and_self, and_assoc, Option.toList_some, Option.toList_none, List.cons_append, List.nil_append, ↓reduceIte, rz_x01, rz_x10]
    rw [e1] at kk
    exact kk h2 (h.row ⟨f2, a2, w2.mono (by omega)⟩ (by omega) s2) s2
set_option maxHeartbeats 4000000 in
set_option maxRecDepth 100000 in
theorem m_M_does_out {p q : Int32} (h : rz_MM m s hist shot tx ro re sp os B hp) (hI : rz_IV s) (hB : B < 2 ^ 29) (kk : ∀ hp', rz_MM m (rz_out_ s).2 hist shot tx ro re sp os (B + 41) hp' → rz_sm (m + 1) (m + 2) hp hp' → R (some (.int (rz_out_ s).1)) hp') : rz_ev (d + 5) 163 0 [some (.ref m), some (.int 45), some (.int p), some (.int q), none] [] hp R := by
  obtain ⟨L, fl, am, lat, rd, laid, ci, co, tb⟩ := s
  obtain ⟨⟨f0, -⟩, ⟨f, a1, w1⟩, -⟩ := id h
  have h1 := w1.one.1
  replace h1 : f 1 = nI L.length := h1
  have k1 : ¬ (45 : Int32) = 43 := by decide
  have k2 : (45 : Int32) = 45 := rfl
  cases hn : rz_nxf L with
  | none =>
    have hL := rz_nxf_none hn
    subst hL
    have c1 : nI ([] : List rz_En).length = 0 := rfl
    have c2 : ¬ (0 : Int32) ≤ -5 := by decide
    simp only [↓ri_163_0, ↓ri_163_1, ↓ri_163_3, ↓ri_163_6, ↓ri_163_7, ↓ri_163_8, ↓ri_163_9, ↓ri_163_12, ↓ri_163_15, ↓ri_163_16, ↓ri_163_18, ↓ri_163_21, ↓ri_163_22, ↓ri_163_25, ↓ri_163_26, ↓ri_163_27, ↓ri_163_30, ↓ri_163_32, ↓ri_163_35, ↓ri_163_72, ↓ri_163_74, ↓ri_163_76, ↓ri_163_79, ↓ri_163_81, Option.some.injEq, Prod.mk.injEq, exists_eq_left', exists_eq', exists_and_left, exists_and_right, true_and, and_true, true_or, or_true, and_self, and_assoc, Option.toList_some, Option.toList_none, List.cons_append, List.nil_append, ↓reduceIte, rz_x01, rz_x10, f0, a1, rz_v1, rz_k1, h1, ↓if_pos c1, ↓if_neg c2, ↓if_neg k1, ↓if_pos k2]
    rw [rz_out_none] at kk
    exact kk hp (h.mono (by omega)) rz_sm.rf
  | some j =>
    have hnx := rz_nxf_some hn
    obtain ⟨e, he, -, -⟩ := id hnx
    have hj := (List.getElem?_eq_some_iff.mp he).1
    have h40 := hI.2.1
    have c1 : ¬ nI L.length = 0 := nI_ne0 (by omega) (by omega)
    have c2 : (0 : Int32) ≤ 0 := by decide
    simp only [↓ri_163_0, ↓ri_163_1, ↓ri_163_3, ↓ri_163_6, ↓ri_163_7, ↓ri_163_8, ↓ri_163_9, ↓ri_163_12, ↓ri_163_15, ↓ri_163_16, ↓ri_163_18, ↓ri_163_21, ↓ri_163_22, ↓ri_163_25, ↓ri_163_26, ↓ri_163_27, ↓ri_163_30, ↓ri_163_32, ↓ri_163_35, ↓ri_163_36, ↓ri_163_72, ↓ri_163_74, ↓ri_163_76, ↓ri_163_79, ↓ri_163_81, ↓ri_163_82, ↓ri_163_83, ↓ri_163_126, ↓ri_163_127, ↓ri_163_130, Option.some.injEq, Prod.mk.injEq, exists_eq_left', exists_eq', exists_and_left, exists_and_right, true_and, and_true, true_or, or_true, and_self, and_assoc, Option.toList_some, Option.toList_none, List.cons_append, List.nil_append, ↓reduceIte, rz_x01, rz_x10, f0, a1, rz_v1, rz_k1, h1, ↓if_neg c1, ↓if_pos c2, ↓if_neg k1, ↓if_pos k2]
    refine m_M_comesOut (d := d) a1 w1 hI.1 hn (by omega) (fun h2 f2 a2 w2 s2 => ?_)
    simp only [↓ri_163_133, Option.some.injEq, Prod.mk.injEq, exists_eq_left', exists_eq', exists_and_left, exists_and_right, true_and, and_true, true_or, or_true, and_self, and_assoc, Option.toList_some, Option.toList_none, List.cons_append, List.nil_append, ↓reduceIte, rz_x01, rz_x10]
    exact kk h2 (h.row ⟨f2, a2, w2⟩ (by omega) s2) s2
set_option maxHeartbeats 4000000 in
set_option maxRecDepth 100000 in
theorem m_M_does_less {p q : Int32} (h : rz_MM m s hist shot tx ro re sp os B hp) (hI : rz_IV s) (hB : B < 2 ^ 29) (kk : ∀ hp', rz_MM m (rz_less_ s p q).2 hist shot tx ro re sp os (B + 41) hp' → rz_sm (m + 1) (m + 2) hp hp' → R (some (.int (rz_less_ s p q).1)) hp') : rz_ev (d + 5) 163 0 [some (.ref m), some (.int 60), some (.int p), some (.int q), none] [] hp R := by
  obtain ⟨L, fl, am, lat, rd, laid, ci, co, tb⟩ := s
  obtain ⟨⟨f0, -⟩, ⟨f, a1, w1⟩, -⟩ := id h
  have om := fun R => m_M_mayLess (d := d + 2) (num := p) (key := q) h hI (R := R)
  have k1 : ¬ (60 : Int32) = 43 := by decide
  have k2 : ¬ (60 : Int32) = 45 := by decide
  have k3 : (60 : Int32) = 60 := rfl
  by_cases hm : rz_mayL (L, fl, am, lat, rd, laid, ci, co, tb) p q < 0
  · have c1 : ¬ 0 ≤ rz_mayL (L, fl, am, lat, rd, laid, ci, co, tb) p q := Int32.not_le.mpr hm
    simp only [↓ri_163_0, ↓ri_163_1, ↓ri_163_3, ↓ri_163_15, ↓ri_163_16, ↓ri_163_18, ↓ri_163_39, ↓ri_163_40, ↓ri_163_42, ↓ri_163_45, ↓ri_163_46, ↓ri_163_47, ↓ri_163_48, ↓ri_163_51, ↓ri_163_72, ↓ri_163_74, ↓ri_163_76, ↓ri_163_79, ↓ri_163_81, Option.some.injEq, Prod.mk.injEq, exists_eq_left', exists_eq', exists_and_left, exists_and_right, true_and, and_true, true_or, or_true, and_self, and_assoc, Option.toList_some, Option.toList_none, List.cons_append, List.nil_append, ↓reduceIte, rz_x01, rz_x10, ↓if_neg k1, ↓if_neg k2, ↓if_pos k3, om, rz_co_fv f0, ↓if_neg c1]
    rw [rz_less_may hm] at kk
    exact kk hp (h.mono (by omega)) rz_sm.rf
  · obtain ⟨j, e, hf, he, hen, hk, h1, h2, h3⟩ := rz_less_ok hm
    have c1 : 0 ≤ rz_mayL (L, fl, am, lat, rd, laid, ci, co, tb) p q := Int32.not_lt.mp hm
    obtain ⟨b, hb, rfl⟩ := rz_key_of hk
    simp only [↓ri_163_0, ↓ri_163_1, ↓ri_163_3, ↓ri_163_15, ↓ri_163_16, ↓ri_163_18, ↓ri_163_39, ↓ri_163_40, ↓ri_163_42, ↓ri_163_45, ↓ri_163_46, ↓ri_163_47, ↓ri_163_48, ↓ri_163_51, ↓ri_163_72, ↓ri_163_74, ↓ri_163_76, ↓ri_163_79, ↓ri_163_81, ↓ri_163_82, ↓ri_163_83, ↓ri_163_134, ↓ri_163_135, ↓ri_163_136, ↓ri_163_137, Option.some.injEq, Prod.mk.injEq, exists_eq_left', exists_eq', exists_and_left, exists_and_right, true_and, and_true, true_or, or_true, and_self, and_assoc, Option.toList_some, Option.toList_none, List.cons_append, List.nil_append, ↓reduceIte, rz_x01, rz_x10, ↓if_neg k1, ↓if_neg k2, ↓if_pos k3, om, rz_co_fv f0, ↓if_pos c1]
    refine m_M_makesLess (d := d + 1) h hI he hen hb (by omega) (fun h2 k2 s2 => ?_)
    simp only [↓ri_163_140, Option.some.injEq, Prod.mk.injEq, exists_eq_left', exists_eq', exists_and_left, exists_and_right, true_and, and_true, true_or, or_true, and_self, and_assoc, Option.toList_some, Option.toList_none, List.cons_append, List.nil_append, ↓reduceIte, rz_x01, rz_x10]
    rw [h3] at kk
    exact kk h2 (k2.mono (by omega)) s2
set_option maxHeartbeats 4000000 in
set_option maxRecDepth 100000 in
theorem m_M_does_back {p q : Int32} (h : rz_MM m s hist shot tx ro re sp os B hp) (hI : rz_IV s) (kk : ∀ hp', rz_MM m (rz_back_ s p).2 hist shot tx ro re sp os (B + 41) hp' → rz_sm (m + 1) (m + 2) hp hp' → R (some (.int (rz_back_ s p).1)) hp') : rz_ev (d + 5) 163 0 [some (.ref m), some (.int 120), some (.int p), some (.int q), none] [] hp R := by
  obtain ⟨L, fl, am, lat, rd, laid, ci, co, tb⟩ := s
  obtain ⟨⟨f0, -⟩, ⟨f, a1, w1⟩, -⟩ := id h
  obtain ⟨S, Z, hS, -, hZ, hY⟩ := id w1
  have k1 : ¬ (120 : Int32) = 43 := by decide
  have k2 : ¬ (120 : Int32) = 45 := by decide
  have k3 : ¬ (120 : Int32) = 60 := by decide
  unfold rz_back_ at kk
  cases hf : rz_fi L p with
  | none =>
    simp only [hf] at kk
    have os := fun R => m_M_slotOf (d := d + 3) (m := p) (tgt := -5) a1 hZ (rz_slot_none hY hf) (R := R)
    have c1 : (-5 : Int32) = -5 := rfl
    have c2 : ¬ (0 : Int32) ≤ -1 := by decide
    simp only [↓ri_163_0, ↓ri_163_1, ↓ri_163_3, ↓ri_163_15, ↓ri_163_16, ↓ri_163_18, ↓ri_163_39, ↓ri_163_40, ↓ri_163_42, ↓ri_163_54, ↓ri_163_55, ↓ri_163_58, ↓ri_163_59, ↓ri_163_62, ↓ri_163_64, ↓ri_163_67, ↓ri_163_68, ↓ri_163_71, ↓ri_163_72, ↓ri_163_74, ↓ri_163_76, ↓ri_163_79, ↓ri_163_81, Option.some.injEq, Prod.mk.injEq, exists_eq_left', exists_eq', exists_and_left, exists_and_right, true_and, and_true, true_or, or_true, and_self, and_assoc, Option.toList_some, Option.toList_none, List.cons_append, List.nil_append, ↓reduceIte, rz_x01, rz_x10, ↓if_neg k1, ↓if_neg k2, ↓if_neg k3, f0, os, ↓if_pos c1, ↓if_neg c2]
    exact kk hp (h.mono (by omega)) rz_sm.rf
  | some j =>
    obtain ⟨e, he, hen⟩ := rz_fi_some hf
    have hd : L.getD j (0, 0, 0, 0, 0) = e := by rw [List.getD_eq_getElem?_getD, he]; rfl
    simp only [hf, hd] at kk
    obtain ⟨Y, y, i, y1, y2, y3, y4, y5, y6, hzi, hsl⟩ := rz_slot_some hY hI.1.2 he hen
    have os' := fun R => m_M_slotOf (d := d + 3) (m := p) (tgt := nI i) a1 hZ hsl (R := R)
    have hi41 : i < 41 := Nat.lt_of_lt_of_le (List.getElem?_eq_some_iff.mp hzi).1 hZ.1
    have c1 : ¬ nI i = -5 := rz_ne5 (by omega)
    have c2 : (0 : Int32) ≤ 0 := by decide
    simp only [↓ri_163_0, ↓ri_163_1, ↓ri_163_3, ↓ri_163_15, ↓ri_163_16, ↓ri_163_18, ↓ri_163_39, ↓ri_163_40, ↓ri_163_42, ↓ri_163_54, ↓ri_163_55, ↓ri_163_58, ↓ri_163_59, ↓ri_163_62, ↓ri_163_64, ↓ri_163_67, ↓ri_163_68, ↓ri_163_71, ↓ri_163_72, ↓ri_163_74, ↓ri_163_76, ↓ri_163_79, ↓ri_163_81, ↓ri_163_82, ↓ri_163_83, ↓ri_163_141, ↓ri_163_142, ↓ri_163_143, Option.some.injEq, Prod.mk.injEq, exists_eq_left', exists_eq', exists_and_left, exists_and_right, true_and, and_true, true_or, or_true, and_self, and_assoc, Option.toList_some, Option.toList_none, List.cons_append, List.nil_append, ↓reduceIte, rz_x01, rz_x10, ↓if_neg k1, ↓if_neg k2, ↓if_neg k3, f0, os', ↓if_neg c1, ↓if_pos c2, rz_co_fv f0]
    refine m_M_takesBack (d := d + 2) h hI he hen (fun h2 k2 s2 => ?_)
    simp only [↓ri_163_146, Option.some.injEq, Prod.mk.injEq, exists_eq_left', exists_eq', exists_and_left, exists_and_right, true_and, and_true, true_or, or_true, and_self, and_assoc, Option.toList_some, Option.toList_none, List.cons_append, List.nil_append, ↓reduceIte, rz_x01, rz_x10]
    exact kk h2 (k2.mono (by omega)) s2
set_option maxHeartbeats 4000000 in
set_option maxRecDepth 100000 in
theorem m_M_does {k p q : Int32} (hk : rz_kd4 k) (h : rz_MM m s hist shot tx ro re sp os B hp) (hI : rz_IV s) (hB : B < 2 ^ 29) (kk : ∀ hp', rz_MM m (rz_do_ s k p q).2 hist shot tx ro re sp os (B + 41) hp' → rz_sm (m + 1) (m + 2) hp hp' → R (some (.int (rz_do_ s k p q).1)) hp') : rz_ev (d + 5) 163 0 [some (.ref m), some (.int k), some (.int p), some (.int q), none] [] hp R := by
  have k1 : ¬ (45 : Int32) = 43 := by decide
  have k2 : ¬ (60 : Int32) = 43 := by decide
  have k3 : ¬ (60 : Int32) = 45 := by decide
  have k4 : ¬ (120 : Int32) = 43 := by decide
  have k5 : ¬ (120 : Int32) = 45 := by decide
  have k6 : ¬ (60 : Int32) = 120 := by decide
  unfold rz_do_ at kk
  rcases hk with rfl | rfl | rfl | rfl
  · rw [if_pos rfl] at kk
    exact m_M_does_in h hI hB kk
  · rw [if_neg k1, if_pos rfl] at kk
    exact m_M_does_out h hI hB kk
  · rw [if_neg k2, if_neg k3, if_neg k6, if_pos rfl] at kk
    exact m_M_does_less h hI hB kk
  · rw [if_neg k4, if_neg k5, if_pos rfl] at kk
    exact m_M_does_back h hI kk
set_option maxHeartbeats 4000000 in
set_option maxRecDepth 100000 in
theorem m_M_perform_loop {bf : rz_AS} {B0 : Nat} (hB0 : B0 < 2 ^ 28) (hkd : ∀ o ∈ os, rz_kd4 o.1) (hos : os.length ≤ 30) (kk1 : ∀ hp' nw', rz_pw os 0 bf = (none, nw') → rz_MM m nw' (rz_rec hist bf) shot tx ro re sp os (B0 + 2000) hp' → rz_sm m (m + 9) hp hp' → R (some (.int (nI os.length))) hp') (kk2 : ∀ hp' i er nw', rz_pw os 0 bf = (some (i, er), nw') → rz_MM m bf hist shot tx (nI i) er sp os (B0 + 2000) hp' → rz_sm m (m + 9) hp hp' → R (some (.int (-4))) hp') : ∀ i, i ≤ os.length → ∀ (nw : rz_AS) (hp1 : rz_Hp) (l2 : Option Value), rz_pw os 0 bf = rz_pw (os.drop i) i nw → rz_IV nw → rz_MM m nw hist shot tx ro re sp os (B0 + 41 * i) hp1 → rz_RO (m + 2) bf B0 hp1 → rz_sm m (m + 9) hp hp1 → rz_ev (d + 6) 164 30 [some (.ref m), some (.int (nI i)), l2] [] hp1 R := by
  refine rz_down os.length ?_ ?_
  · intro nw hp1 l2 hpw hI h hA hs
    obtain ⟨f0, f1, f2, f3, f4, f5, f6, f7, f8, f9, f10, f11, f12, f13, f14⟩ := id h.1
    have e1 : nI os.length ≤ nI os.length := nI_le (Nat.le_refl _) (by omega)
    rw [List.drop_length] at hpw
    obtain ⟨fa, aa, wa⟩ := id hA
    rw [ri_164_30]
    simp only [↓ri_164_31, ↓ri_164_32, ↓ri_164_35, ↓ri_164_113, ↓ri_164_114, ↓ri_164_115, ↓ri_164_118, Option.some.injEq, Prod.mk.injEq, exists_eq_left', exists_eq', exists_and_left, exists_and_right, true_and, and_true, true_or, or_true, and_self, and_assoc, Option.toList_some, Option.toList_none, List.cons_append, List.nil_append, ↓reduceIte, rz_x01, rz_x10, f13, ↓if_pos e1, f1, rz_co_fv f0]
    refine m_M_recordsRow (d := d + 4) (h.mono (B2 := B0 + 2000) (by omega)) aa (Or.inr rfl) (wa.mono (by omega)) (fun h2 k2 s2 => ?_)
    obtain ⟨g0, g1, g2, g3, g4, g5, g6, g7, g8, g9, g10, g11, g12, g13, g14⟩ := id k2.1
    simp only [↓ri_164_121, ↓ri_164_122, ↓ri_164_125, Option.some.injEq, Prod.mk.injEq, exists_eq_left', exists_eq', exists_and_left, exists_and_right, true_and, and_true, true_or, or_true, and_self, and_assoc, Option.toList_some, Option.toList_none, List.cons_append, List.nil_append, ↓reduceIte, rz_x01, rz_x10, g13]
    exact kk1 h2 nw (by rw [hpw]; rfl) k2 (hs.tr s2)
  · intro i hi ih nw hp1 l2 hpw hI h hA hs
    obtain ⟨f0, f1, f2, f3, f4, f5, f6, f7, f8, f9, f10, f11, f12, f13, f14⟩ := id h.1
    obtain ⟨p0, p1, p2, p3, p4, p5, p6, ⟨h32, fo, a7, hf⟩, p8⟩ := id h
    have e1 : ¬ nI os.length ≤ nI i := nI_ge hi (by omega)
    obtain ⟨x, hx⟩ := rz_ge (L := os) (i := i) (by omega)
    have hdr : os.drop i = x :: os.drop (i + 1) := by
      rw [List.drop_eq_getElem_cons hi, (List.getElem?_eq_some_iff.mp hx).2]
    obtain ⟨q0, q1, q2⟩ := hf i x hx
    rw [hdr] at hpw
    have hun : rz_pw (x :: os.drop (i + 1)) i nw = if (rz_do_ nw x.1 x.2.1 x.2.2).1 < 0 ∧ ¬ (rz_do_ nw x.1 x.2.1 x.2.2).1 = -5 then (some (i, (rz_do_ nw x.1 x.2.1 x.2.2).1), nw) else rz_pw (os.drop (i + 1)) (i + 1) (rz_do_ nw x.1 x.2.1 x.2.2).2 := rfl
    rw [hun] at hpw
    have e0 : (3 : Int32) * nI i = nI (3 * i) := pk_mul 3 _
    have e2 : nI (3 * i) + 1 = nI (3 * i + 1) := nI_1 _
    have e3 : nI (3 * i) + 2 = nI (3 * i + 2) := nI_add _ 2
    have v0 : vp_in (nI (3 * i)) 96 := vp_in_nI (by omega) (by decide)
    have v1 : vp_in (nI (3 * i + 1)) 96 := vp_in_nI (by omega) (by decide)
    have v2 : vp_in (nI (3 * i + 2)) 96 := vp_in_nI (by omega) (by decide)
    have k0 : (nI (3 * i)).toNatClampNeg = 3 * i := nI_clamp (by omega)
    have k1 : (nI (3 * i + 1)).toNatClampNeg = 3 * i + 1 := nI_clamp (by omega)
    have k2 : (nI (3 * i + 2)).toNatClampNeg = 3 * i + 2 := nI_clamp (by omega)
    rw [ri_164_30]
    simp only [↓ri_164_31, ↓ri_164_32, ↓ri_164_35, ↓ri_164_38, ↓ri_164_39, ↓ri_164_40, ↓ri_164_43, ↓ri_164_44, ↓ri_164_45, ↓ri_164_46, ↓ri_164_47, ↓ri_164_48, ↓ri_164_51, ↓ri_164_52, ↓ri_164_53, ↓ri_164_54, ↓ri_164_55, ↓ri_164_56, ↓ri_164_57, ↓ri_164_58, ↓ri_164_61, ↓ri_164_62, ↓ri_164_63, ↓ri_164_64, ↓ri_164_65, ↓ri_164_66, ↓ri_164_67, Option.some.injEq, Prod.mk.injEq, exists_eq_left', exists_eq', exists_and_left, exists_and_right, true_and, and_true, true_or, or_true, and_self, and_assoc, Option.toList_some, Option.toList_none, List.cons_append, List.nil_append, ↓reduceIte, rz_x01, rz_x10, f12, f13, ↓if_neg e1, rz_co_fv f0, e0, e2, e3, v0, v1, v2, k0, k1, k2, a7, q0, q1, q2]
    refine m_M_does (d := d) (hkd x (List.mem_of_getElem? hx)) h hI (by omega) (fun h2 k2 s2 => ?_)
    have hA2 := hA.sm s2 (by omega)
    have hs2 := hs.tr (s2.wd (lo2 := m) (hi2 := m + 9) (by omega) (by omega))
    obtain ⟨g0, g1, g2, g3, g4, g5, g6, g7, g8, g9, g10, g11, g12, g13, g14⟩ := id k2.1
    by_cases he : (rz_do_ nw x.1 x.2.1 x.2.2).1 < 0 ∧ ¬ (rz_do_ nw x.1 x.2.1 x.2.2).1 = -5
    · rw [if_pos he] at hpw
      have c1 : ¬ 0 ≤ (rz_do_ nw x.1 x.2.1 x.2.2).1 := Int32.not_le.mpr he.1
      obtain ⟨fa, aa, wa⟩ := id hA2
      obtain ⟨r0, ⟨fs, as, ws⟩, r2, r3, r4, r5, r6, r7, r8⟩ := id k2
      simp only [↓ri_164_70, ↓ri_164_71, ↓ri_164_72, ↓ri_164_75, ↓ri_164_76, ↓ri_164_78, ↓ri_164_81, ↓ri_164_82, ↓ri_164_85, ↓ri_164_86, ↓ri_164_87, ↓ri_164_90, ↓ri_164_91, Option.some.injEq, Prod.mk.injEq, exists_eq_left', exists_eq', exists_and_left, exists_and_right, true_and, and_true, true_or, or_true, and_self, and_assoc, Option.toList_some, Option.toList_none, List.cons_append, List.nil_append, ↓reduceIte, rz_x01, rz_x10, ↓if_neg c1, ↓if_neg he.2, g0, g1]
      refine m_M_lays (d := d + 5) (p := 0) (q := 0) aa as (by omega) rfl rfl (by omega) (by omega) (by decide) (by decide) (fun h3 a3 s3 => ?_)
      have k3 := k2.row (B2 := B0 + 2000) (s2 := bf) ⟨_, a3, (wa.ext (fun j hj => by rw [pk_cpy_in (by omega) (by omega)]; try (congr 1 <;> omega))).mono (by omega)⟩ (by omega) s3
      obtain ⟨t0, t1, t2, t3, t4, t5, t6, t7, t8⟩ := id k3
      obtain ⟨g0, g1, g2, g3, g4, g5, g6, g7, g8, g9, g10, g11, g12, g13, g14⟩ := id t0
      simp only [↓ri_164_94, ↓ri_164_95, ↓ri_164_96, ↓ri_164_99, ↓ri_164_100, ↓ri_164_101, ↓ri_164_104, ↓ri_164_106, Option.some.injEq, Prod.mk.injEq, exists_eq_left', exists_eq', exists_and_left, exists_and_right, true_and, and_true, true_or, or_true, and_self, and_assoc, Option.toList_some, Option.toList_none, List.cons_append, List.nil_append, ↓reduceIte, rz_x01, rz_x10, rz_fv_pf, rz_av_pf, rz_qv_pf, rz_ln_pf, rz_co_pf, rz_fv_pa, rz_av_pa, rz_qv_pa, rz_ln_pa, rz_co_pa, rz_fv_pq, rz_av_pq, rz_qv_pq, rz_ln_pq, rz_co_pq, Nat.reduceEqDiff, Nat.add_eq_left, Nat.left_eq_add, Nat.one_ne_zero, Option.map_some, exists_const, g9, g10]
      have s4 : rz_sm m (m + 1) h3 (rz_pf (rz_pf h3 m 9 (.int (nI i))) m 10 (.int (rz_do_ nw x.1 x.2.1 x.2.2).1)) := (rz_sm_pf (by omega) (by omega)).tr (rz_sm_pf (by omega) (by omega))
      refine kk2 _ i _ nw hpw ⟨?_, t1.sm s4 (by omega), t2.sm s4 (by omega), t3.sm s4 (by omega), t4.sm s4 (by omega), t5.sm s4 (by omega), t6.sm s4 (by omega), t7.sm s4 (by omega), t8.sm s4 (by omega)⟩ ((hs2.tr (s3.wd (by omega) (by omega))).tr (s4.wd (by omega) (by omega)))
      simp only [rz_MF, rz_fv_pf, rz_av_pf, rz_qv_pf, rz_ln_pf, rz_co_pf, rz_fv_pa, rz_av_pa, rz_qv_pa, rz_ln_pa, rz_co_pa, rz_fv_pq, rz_av_pq, rz_qv_pq, rz_ln_pq, rz_co_pq, Nat.reduceEqDiff, Nat.add_eq_left, Nat.left_eq_add, Nat.one_ne_zero, Option.map_some, exists_const, Option.some.injEq, Prod.mk.injEq, exists_eq_left', exists_eq', exists_and_left, exists_and_right, true_and, and_true, true_or, or_true, and_self, and_assoc, Option.toList_some, Option.toList_none, List.cons_append, List.nil_append, ↓reduceIte, rz_x01, rz_x10, g0, g1, g2, g3, g4, g5, g6, g7, g8, g9, g10, g11, g12, g13, g14]
    · rw [if_neg he] at hpw
      have hstep := ih (rz_do_ nw x.1 x.2.1 x.2.2).2 h2 (some (.int (rz_do_ nw x.1 x.2.1 x.2.2).1)) hpw (rz_IV_do hI) (k2.mono (by omega)) hA2 hs2
      by_cases c1 : 0 ≤ (rz_do_ nw x.1 x.2.1 x.2.2).1
      · simp only [↓ri_164_70, ↓ri_164_71, ↓ri_164_72, ↓ri_164_107, ↓ri_164_110, Option.some.injEq, Prod.mk.injEq, exists_eq_left', exists_eq', exists_and_left, exists_and_right, true_and, and_true, true_or, or_true, and_self, and_assoc, Option.toList_some, Option.toList_none, List.cons_append, List.nil_append, ↓reduceIte, rz_x01, rz_x10, ↓if_pos c1, nI_1]
        exact hstep
      · have c2 : (rz_do_ nw x.1 x.2.1 x.2.2).1 = -5 := Classical.byContradiction (fun q => he ⟨Int32.not_le.mp c1, q⟩)
        simp only [↓ri_164_70, ↓ri_164_71, ↓ri_164_72, ↓ri_164_75, ↓ri_164_76, ↓ri_164_78, ↓ri_164_107, ↓ri_164_110, Option.some.injEq, Prod.mk.injEq, exists_eq_left', exists_eq', exists_and_left, exists_and_right, true_and, and_true, true_or, or_true, and_self, and_assoc, Option.toList_some, Option.toList_none, List.cons_append, List.nil_append, ↓reduceIte, rz_x01, rz_x10, ↓if_neg c1, ↓if_pos c2, nI_1]
        exact hstep
set_option maxHeartbeats 4000000 in
set_option maxRecDepth 100000 in
theorem m_M_perform (hc : ∀ c ∈ tx, 0 ≤ c) (h : rz_MM m s hist shot tx ro re sp os B hp) (hI : rz_IV s) (hB : B < 2 ^ 28) (kk0 : ∀ hp' sp' os' j, (rz_rt tx 30 0 []).1 = some j → rz_MM m s hist shot tx ro re sp' os' (B + 2000) hp' → rz_sm m (m + 9) hp hp' → R (some (.int (-100 - nI j))) hp')
    (kk1 : ∀ hp' sp' os' nw', (rz_rt tx 30 0 []).1 = none → rz_pw (rz_rt tx 30 0 []).2 0 s = (none, nw') → rz_MM m nw' (rz_rec hist s) shot tx ro re sp' os' (B + 2000) hp' → rz_sm m (m + 9) hp hp' → R (some (.int (nI (rz_rt tx 30 0 []).2.length))) hp')
    (kk2 : ∀ hp' sp' os' i er nw', (rz_rt tx 30 0 []).1 = none → rz_pw (rz_rt tx 30 0 []).2 0 s = (some (i, er), nw') → rz_MM m s hist shot tx (nI i) er sp' os' (B + 2000) hp' → rz_sm m (m + 9) hp hp' → R (some (.int (-4))) hp') : rz_ev (d + 6) 164 0 [some (.ref m), none, none] [] hp R := by
  obtain ⟨p0, p1, p2, p3, p4, p5, p6, ⟨h32, fo, a7, hf⟩, p8⟩ := id h
  obtain ⟨f0, f1, f2, f3, f4, f5, f6, f7, f8, f9, f10, f11, f12, f13, f14⟩ := id p0
  have z10 : ¬ (1 : Int32) = 0 := by decide
  simp only [↓ri_164_0, ↓ri_164_1, Option.some.injEq, Prod.mk.injEq, exists_eq_left', exists_eq', exists_and_left, exists_and_right, true_and, and_true, true_or, or_true, and_self, and_assoc, Option.toList_some, Option.toList_none, List.cons_append, List.nil_append, ↓reduceIte, rz_x01, rz_x10, rz_co_fv f0]
  simp only [↓ri_162_0, ↓ri_162_1, ↓ri_162_2, ↓ri_162_5, ↓ri_162_6, ↓ri_162_7, ↓ri_162_10, ↓ri_162_11, Option.some.injEq, Prod.mk.injEq, exists_eq_left', exists_eq', exists_and_left, exists_and_right, true_and, and_true, true_or, or_true, and_self, and_assoc, Option.toList_some, Option.toList_none, List.cons_append, List.nil_append, ↓reduceIte, rz_x01, rz_x10, rz_fv_pf, rz_av_pf, rz_qv_pf, rz_ln_pf, rz_co_pf, rz_fv_pa, rz_av_pa, rz_qv_pa, rz_ln_pa, rz_co_pa, rz_fv_pq, rz_av_pq, rz_qv_pq, rz_ln_pq, rz_co_pq, Nat.reduceEqDiff, Nat.add_eq_left, Nat.left_eq_add, Nat.one_ne_zero, Option.map_some, exists_const, f11, f13]
  have s0 : rz_sm m (m + 1) hp (rz_pf (rz_pf hp m 11 (.int 0)) m 13 (.int 0)) := (rz_sm_pf (by omega) (by omega)).tr (rz_sm_pf (by omega) (by omega))
  have k0 : rz_MM m s hist shot tx ro re (nI 0) [] B (rz_pf (rz_pf hp m 11 (.int 0)) m 13 (.int 0)) := by
    refine ⟨?_, p1.sm s0 (by omega), p2.sm s0 (by omega), p3.sm s0 (by omega), p4.sm s0 (by omega), p5.sm s0 (by omega), p6.sm s0 (by omega), ⟨by decide, fo, by rw [s0.av (by omega)]; exact a7, fun i x hx => by simp at hx⟩, p8.sm s0 (by omega)⟩
    simp only [rz_MF, rz_fv_pf, rz_av_pf, rz_qv_pf, rz_ln_pf, rz_co_pf, rz_fv_pa, rz_av_pa, rz_qv_pa, rz_ln_pa, rz_co_pa, rz_fv_pq, rz_av_pq, rz_qv_pq, rz_ln_pq, rz_co_pq, Nat.reduceEqDiff, Nat.add_eq_left, Nat.left_eq_add, Nat.one_ne_zero, Option.map_some, exists_const, Option.some.injEq, Prod.mk.injEq, exists_eq_left', exists_eq', exists_and_left, exists_and_right, true_and, and_true, true_or, or_true, and_self, and_assoc, Option.toList_some, Option.toList_none, List.cons_append, List.nil_append, ↓reduceIte, rz_x01, rz_x10, f0, f1, f2, f3, f4, f5, f6, f7, f8, f9, f10, f11, f12, f13, f14, List.length_nil, nI_0]
  refine m_M_isText_loop (d := d + 1) (hp := hp) hc (fun h2 os' j hj ho k2 s2 => ?_) (fun h2 sp' hj k2 s2 => ?_) 30 0 [] _ rfl (by omega) (Nat.zero_le _) (by decide) k0 (s0.wd (by omega) (by omega))
  · obtain ⟨g0, g1, g2, g3, g4, g5, g6, g7, g8, g9, g10, g11, g12, g13, g14⟩ := id k2.1
    simp only [↓ri_164_4, ↓ri_164_7, ↓ri_164_9, ↓ri_164_10, ↓ri_164_13, ↓ri_164_14, Option.some.injEq, Prod.mk.injEq, exists_eq_left', exists_eq', exists_and_left, exists_and_right, true_and, and_true, true_or, or_true, and_self, and_assoc, Option.toList_some, Option.toList_none, List.cons_append, List.nil_append, ↓reduceIte, rz_x01, rz_x10, g11]
    exact kk0 h2 _ os' j hj (k2.mono (by omega)) s2
  · obtain ⟨g0, g1, g2, g3, g4, g5, g6, g7, g8, g9, g10, g11, g12, g13, g14⟩ := id k2.1
    obtain ⟨t0, ⟨fs, as, ws⟩, ⟨fa, aa⟩, t3, t4, t5, t6, t7, t8⟩ := id k2
    simp only [↓ri_164_4, ↓ri_164_7, ↓ri_164_9, ↓ri_164_10, ↓ri_164_13, ↓ri_164_14, ↓ri_164_15, ↓ri_164_16, ↓ri_164_19, ↓ri_164_20, ↓ri_164_21, ↓ri_164_24, ↓ri_164_25, Option.some.injEq, Prod.mk.injEq, exists_eq_left', exists_eq', exists_and_left, exists_and_right, true_and, and_true, true_or, or_true, and_self, and_assoc, Option.toList_some, Option.toList_none, List.cons_append, List.nil_append, ↓reduceIte, rz_x01, rz_x10, ↓if_neg z10, g0, g1]
    refine m_M_lays (d := d + 5) (p := 0) (q := 0) as aa (by omega) rfl rfl (by omega) (by omega) (by decide) (by decide) (fun h3 a3 s3 => ?_)
    simp only [↓ri_164_28, ↓ri_164_29, Option.some.injEq, Prod.mk.injEq, exists_eq_left', exists_eq', exists_and_left, exists_and_right, true_and, and_true, true_or, or_true, and_self, and_assoc, Option.toList_some, Option.toList_none, List.cons_append, List.nil_append, ↓reduceIte, rz_x01, rz_x10]
    have k3 := k2.aside ⟨_, a3⟩ s3
    have hlen := rz_rt_len tx 30 0 []
    have := m_M_perform_loop (d := d) (m := m) (R := R) (hp := hp) (B0 := B) (bf := s) (os := (rz_rt tx 30 0 []).2) (hist := hist) (shot := shot) (tx := tx) (ro := ro) (re := re) (sp := sp') hB (rz_rt_kd 30 0 [] (fun o ho => absurd ho (List.not_mem_nil))) (by simpa using hlen) (fun hp' nw' e1 e2 e3 => kk1 hp' _ _ nw' hj e1 e2 e3) (fun hp' i er nw' e1 e2 e3 => kk2 hp' _ _ i er nw' hj e1 e2 e3) 0 (Nat.zero_le _) s h3 none (by rw [List.drop_zero]) hI k3 ⟨_, a3, ws.ext (fun j hj => by rw [pk_cpy_in (by omega) (by omega)]; try (congr 1 <;> omega))⟩ (s2.tr (s3.wd (by omega) (by omega)))
    rw [nI_0] at this
    exact this
set_option maxHeartbeats 4000000 in
set_option maxRecDepth 100000 in
theorem m_M_refusal {what : Int32} (h : rz_MM m s hist shot tx ro re sp os B hp) : rz_ev d 165 0 [some (.ref m), some (.int what)] [] hp R ↔ R (some (.int (if what = 0 then ro else if what = 1 then re else -2))) hp := by
  obtain ⟨f0, f1, f2, f3, f4, f5, f6, f7, f8, f9, f10, f11, f12, f13, f14⟩ := id h.1
  by_cases h0 : what = 0
  · simp only [↓ri_165_0, ↓ri_165_1, ↓ri_165_4, ↓ri_165_5, ↓ri_165_8, ↓ri_165_11, ↓ri_165_12, ↓ri_165_13, ↓ri_165_16, ↓ri_165_17, ↓ri_165_20, ↓ri_165_23, ↓ri_165_25, Option.some.injEq, Prod.mk.injEq, exists_eq_left', exists_eq', exists_and_left, exists_and_right, true_and, and_true, true_or, or_true, and_self, and_assoc, Option.toList_some, Option.toList_none, List.cons_append, List.nil_append, ↓reduceIte, rz_x01, rz_x10, ↓if_pos h0, f9]
  · by_cases h1 : what = 1
    · simp only [↓ri_165_0, ↓ri_165_1, ↓ri_165_4, ↓ri_165_5, ↓ri_165_8, ↓ri_165_11, ↓ri_165_12, ↓ri_165_13, ↓ri_165_16, ↓ri_165_17, ↓ri_165_20, ↓ri_165_23, ↓ri_165_25, Option.some.injEq, Prod.mk.injEq, exists_eq_left', exists_eq', exists_and_left, exists_and_right, true_and, and_true, true_or, or_true, and_self, and_assoc, Option.toList_some, Option.toList_none, List.cons_append, List.nil_append, ↓reduceIte, rz_x01, rz_x10, ↓if_neg h0, ↓if_pos h1, f10]
    · simp only [↓ri_165_0, ↓ri_165_1, ↓ri_165_4, ↓ri_165_5, ↓ri_165_8, ↓ri_165_11, ↓ri_165_12, ↓ri_165_13, ↓ri_165_16, ↓ri_165_17, ↓ri_165_20, ↓ri_165_23, ↓ri_165_25, Option.some.injEq, Prod.mk.injEq, exists_eq_left', exists_eq', exists_and_left, exists_and_right, true_and, and_true, true_or, or_true, and_self, and_assoc, Option.toList_some, Option.toList_none, List.cons_append, List.nil_append, ↓reduceIte, rz_x01, rz_x10, ↓if_neg h0, ↓if_neg h1]
end RZME
