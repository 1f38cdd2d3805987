/-! RisingPilesModel: less and taken back -/
section RZMA
variable {d a m lo hi n : Nat} {f f2 g : Nat → Int32} {hp h1 : rz_Hp} {R : Option Value → rz_Hp → Prop} {s s2 x : rz_AS} {hist : List rz_AS} {shot : Option rz_AS} {tx : List Int32} {ro re sp sv sh le od : Int32} {os : List rz_Or} {B B2 : Nat} {Z : List rz_Zt} {L : List rz_En} {fl am : Int32} {lat : List rz_La} {rd : Nat → Int32} {laid ci co tb : Int32}
set_option maxHeartbeats 4000000 in
set_option maxRecDepth 100000 in
theorem m_M_mayLess {num key : Int32} (h : rz_MM m (L, fl, am, lat, rd, laid, ci, co, tb) hist shot tx ro re sp os B hp) (hI : rz_IV (L, fl, am, lat, rd, laid, ci, co, tb)) : rz_ev (d + 2) 145 0 [some (.ref m), some (.int num), some (.int key), none, none] [] hp R ↔ R (some (.int (rz_mayL (L, fl, am, lat, rd, laid, ci, co, tb) num key))) hp := by
  obtain ⟨⟨f0, -⟩, ⟨f, a1, w1⟩, -⟩ := id h
  obtain ⟨S, Z, hS, ⟨q0, q2, q3, q4, q5, q6, q7, q8⟩, hZ, hY⟩ := id w1
  unfold rz_mayL
  have z10 : ¬ (1 : Int32) = 0 := by decide
  cases hf : rz_fi L num with
  | none =>
    have os := fun R => m_M_slotOf (d := d) (m := num) (tgt := -5) a1 hZ (rz_slot_none hY hf) (R := R)
    have c1 : (-5 : Int32) = -5 := rfl
    simp only [↓ri_145_0, ↓ri_145_1, ↓ri_145_4, ↓ri_145_5, ↓ri_145_8, ↓ri_145_9, ↓ri_145_10, ↓ri_145_12, ↓ri_145_15, ↓ri_145_16, Option.some.injEq, Prod.mk.injEq, exists_eq_left', exists_eq', exists_and_left, exists_and_right, true_and, and_true, true_or, or_true, and_self, and_assoc, Option.toList_some, Option.toList_none, List.cons_append, List.nil_append, ↓reduceIte, rz_x01, rz_x10, f0, os, ↓if_pos c1, hf]
  | some j =>
    obtain ⟨e, he, hen⟩ := rz_fi_some hf
    have hd : L.getD j (0, 0, 0, 0, 0) = e := by rw [List.getD_eq_getElem?_getD, he]; rfl
    obtain ⟨Y, y, i, y1, y2, y3, y4, y5, y6, hzi, hsl⟩ := rz_slot_some hY hI.1.2 he hen
    have os := fun R => m_M_slotOf (d := d) (m := num) (tgt := nI i) a1 hZ hsl (R := R)
    have hi41 : i < 41 := Nat.lt_of_lt_of_le (List.getElem?_eq_some_iff.mp hzi).1 hZ.1
    have c1 : ¬ nI i = -5 := fun q => nI_pos (show i < 2 ^ 31 by omega) (by rw [q]; decide)
    have o1 := fun R => m_M_of (d := d + 1) (i := i) (w := 1) (x := 1) a1 hi41 (by decide) rfl (R := R)
    rw [(hZ.2.2 i y hzi).2.1, y6] at o1
    simp only [hf, hd]
    by_cases hk : rz_key key
    · have oi := fun R => (m_M_in (d := d + 1) (hp := hp) (R := R)).1 hk
      have g1 : ¬ ¬ rz_key key := fun q => q hk
      simp only [if_neg g1]
      by_cases h2 : key < fl
      · simp only [↓ri_145_0, ↓ri_145_1, ↓ri_145_4, ↓ri_145_5, ↓ri_145_8, ↓ri_145_9, ↓ri_145_10, ↓ri_145_12, ↓ri_145_15, ↓ri_145_16, ↓ri_145_17, ↓ri_145_18, ↓ri_145_19, ↓ri_145_21, ↓ri_145_24, ↓ri_145_27, ↓ri_145_29, ↓ri_145_30, ↓ri_145_31, ↓ri_145_34, ↓ri_145_35, ↓ri_145_36, ↓ri_145_39, ↓ri_145_41, ↓ri_145_42, ↓ri_145_43, ↓ri_145_46, ↓ri_145_47, ↓ri_145_48, ↓ri_145_51, ↓ri_145_52, ↓ri_145_54, ↓ri_145_57, ↓ri_145_59, ↓ri_145_62, ↓ri_145_63, ↓ri_145_65, ↓ri_145_68, ↓ri_145_70, ↓ri_145_73, ↓ri_145_74, Option.some.injEq, Prod.mk.injEq, exists_eq_left', exists_eq', exists_and_left, exists_and_right, true_and, and_true, true_or, or_true, and_self, and_assoc, Option.toList_some, Option.toList_none, List.cons_append, List.nil_append, ↓reduceIte, rz_x01, rz_x10, f0, os, ↓if_neg c1, oi, ↓if_neg z10, o1, a1, rz_v0, rz_k0, q0, ↓if_pos h2, ↓if_pos (Or.inl (b := e.2.1 < key) h2)]
      · by_cases h3 : e.2.1 < key
        · have c3 : ¬ key ≤ e.2.1 := Int32.not_le.mpr h3
          simp only [↓ri_145_0, ↓ri_145_1, ↓ri_145_4, ↓ri_145_5, ↓ri_145_8, ↓ri_145_9, ↓ri_145_10, ↓ri_145_12, ↓ri_145_15, ↓ri_145_16, ↓ri_145_17, ↓ri_145_18, ↓ri_145_19, ↓ri_145_21, ↓ri_145_24, ↓ri_145_27, ↓ri_145_29, ↓ri_145_30, ↓ri_145_31, ↓ri_145_34, ↓ri_145_35, ↓ri_145_36, ↓ri_145_39, ↓ri_145_41, ↓ri_145_42, ↓ri_145_43, ↓ri_145_46, ↓ri_145_47, ↓ri_145_48, ↓ri_145_51, ↓ri_145_52, ↓ri_145_54, ↓ri_145_57, ↓ri_145_59, ↓ri_145_62, ↓ri_145_63, ↓ri_145_65, ↓ri_145_68, ↓ri_145_70, ↓ri_145_73, ↓ri_145_74, Option.some.injEq, Prod.mk.injEq, exists_eq_left', exists_eq', exists_and_left, exists_and_right, true_and, and_true, true_or, or_true, and_self, and_assoc, Option.toList_some, Option.toList_none, List.cons_append, List.nil_append, ↓reduceIte, rz_x01, rz_x10, f0, os, ↓if_neg c1, oi, ↓if_neg z10, o1, a1, rz_v0, rz_k0, q0, ↓if_neg h2, ↓if_neg c3, ↓if_pos (Or.inr (a := key < fl) h3)]
        · have c3 : key ≤ e.2.1 := Int32.not_lt.mp h3
          have c4 : ¬ (key < fl ∨ e.2.1 < key) := fun q => q.elim h2 h3
          by_cases h5 : key = e.2.1
          · simp only [↓ri_145_0, ↓ri_145_1, ↓ri_145_4, ↓ri_145_5, ↓ri_145_8, ↓ri_145_9, ↓ri_145_10, ↓ri_145_12, ↓ri_145_15, ↓ri_145_16, ↓ri_145_17, ↓ri_145_18, ↓ri_145_19, ↓ri_145_21, ↓ri_145_24, ↓ri_145_27, ↓ri_145_29, ↓ri_145_30, ↓ri_145_31, ↓ri_145_34, ↓ri_145_35, ↓ri_145_36, ↓ri_145_39, ↓ri_145_41, ↓ri_145_42, ↓ri_145_43, ↓ri_145_46, ↓ri_145_47, ↓ri_145_48, ↓ri_145_51, ↓ri_145_52, ↓ri_145_54, ↓ri_145_57, ↓ri_145_59, ↓ri_145_62, ↓ri_145_63, ↓ri_145_65, ↓ri_145_68, ↓ri_145_70, ↓ri_145_73, ↓ri_145_74, Option.some.injEq, Prod.mk.injEq, exists_eq_left', exists_eq', exists_and_left, exists_and_right, true_and, and_true, true_or, or_true, and_self, and_assoc, Option.toList_some, Option.toList_none, List.cons_append, List.nil_append, ↓reduceIte, rz_x01, rz_x10, f0, os, ↓if_neg c1, oi, ↓if_neg z10, o1, a1, rz_v0, rz_k0, q0, ↓if_neg h2, ↓if_pos c3, ↓if_neg c4, ↓if_pos h5]
          · simp only [↓ri_145_0, ↓ri_145_1, ↓ri_145_4, ↓ri_145_5, ↓ri_145_8, ↓ri_145_9, ↓ri_145_10, ↓ri_145_12, ↓ri_145_15, ↓ri_145_16, ↓ri_145_17, ↓ri_145_18, ↓ri_145_19, ↓ri_145_21, ↓ri_145_24, ↓ri_145_27, ↓ri_145_29, ↓ri_145_30, ↓ri_145_31, ↓ri_145_34, ↓ri_145_35, ↓ri_145_36, ↓ri_145_39, ↓ri_145_41, ↓ri_145_42, ↓ri_145_43, ↓ri_145_46, ↓ri_145_47, ↓ri_145_48, ↓ri_145_51, ↓ri_145_52, ↓ri_145_54, ↓ri_145_57, ↓ri_145_59, ↓ri_145_62, ↓ri_145_63, ↓ri_145_65, ↓ri_145_68, ↓ri_145_70, ↓ri_145_73, ↓ri_145_74, Option.some.injEq, Prod.mk.injEq, exists_eq_left', exists_eq', exists_and_left, exists_and_right, true_and, and_true, true_or, or_true, and_self, and_assoc, Option.toList_some, Option.toList_none, List.cons_append, List.nil_append, ↓reduceIte, rz_x01, rz_x10, f0, os, ↓if_neg c1, oi, ↓if_neg z10, o1, a1, rz_v0, rz_k0, q0, ↓if_neg h2, ↓if_pos c3, ↓if_neg c4, ↓if_neg h5]
    · have oi := fun R => (m_M_in (d := d + 1) (hp := hp) (R := R)).2 hk
      simp only [↓ri_145_0, ↓ri_145_1, ↓ri_145_4, ↓ri_145_5, ↓ri_145_8, ↓ri_145_9, ↓ri_145_10, ↓ri_145_12, ↓ri_145_15, ↓ri_145_16, ↓ri_145_17, ↓ri_145_18, ↓ri_145_19, ↓ri_145_21, ↓ri_145_24, ↓ri_145_27, ↓ri_145_29, ↓ri_145_30, ↓ri_145_31, ↓ri_145_34, ↓ri_145_35, ↓ri_145_36, ↓ri_145_39, ↓ri_145_41, ↓ri_145_42, ↓ri_145_43, ↓ri_145_46, ↓ri_145_47, ↓ri_145_48, ↓ri_145_51, ↓ri_145_52, ↓ri_145_54, ↓ri_145_57, ↓ri_145_59, ↓ri_145_62, ↓ri_145_63, ↓ri_145_65, ↓ri_145_68, ↓ri_145_70, ↓ri_145_73, ↓ri_145_74, Option.some.injEq, Prod.mk.injEq, exists_eq_left', exists_eq', exists_and_left, exists_and_right, true_and, and_true, true_or, or_true, and_self, and_assoc, Option.toList_some, Option.toList_none, List.cons_append, List.nil_append, ↓reduceIte, rz_x01, rz_x10, f0, os, ↓if_neg c1, oi, ↓if_pos hk]
set_option maxHeartbeats 4000000 in
set_option maxRecDepth 100000 in
theorem m_M_makesLess {num : Int32} {j b : Nat} {e : rz_En} (h : rz_MM m (L, fl, am, lat, rd, laid, ci, co, tb) hist shot tx ro re sp os B hp) (hI : rz_IV (L, fl, am, lat, rd, laid, ci, co, tb)) (he : L[j]? = some e) (hen : e.1 = num) (hb : b < 65536) (hB : B + 1 < 2 ^ 30) (kk : ∀ hp', rz_MM m (rz_le L j e (nI b) (rz_pl fl (nI b)), fl, if rz_pl fl (nI b) = e.2.2.2.2 then am else am + 1, lat, rd, laid, ci, co, tb) hist shot tx ro re sp os (B + 1) hp' → rz_sm (m + 1) (m + 2) hp hp' → R (some (.int (rz_pl fl (nI b)))) hp') : rz_ev (d + 3) 146 0 [some (.ref m), some (.int num), some (.int (nI b)), none, none] [] hp R := by
  obtain ⟨⟨f0, -⟩, ⟨f, a1, w1⟩, -⟩ := id h
  obtain ⟨S, Z, hS, ⟨q0, q2, q3, q4, q5, q6, q7, q8⟩, hZ, hY⟩ := id w1
  obtain ⟨⟨c, n, hc, hfl, -⟩, hnd⟩ := hI.1
  obtain ⟨Y, y, i, y1, y2, y3, y4, y5, y6, hzi, hsl⟩ := rz_slot_some hY hnd he hen
  replace y1 : Y.map Prod.fst = L := y1
  have os' := fun R => m_M_slotOf (d := d + 1) (m := num) (tgt := nI i) a1 hZ hsl (R := R)
  have hil := (List.getElem?_eq_some_iff.mp hzi).1
  have hi41 : i < 41 := Nat.lt_of_lt_of_le hil hZ.1
  obtain ⟨g0, g1, g2, g3, g4, g5, g6⟩ := hZ.2.2 i y hzi
  have hj := (List.getElem?_eq_some_iff.mp y5).1
  simp only [↓ri_146_0, ↓ri_146_1, ↓ri_146_4, ↓ri_146_5, ↓ri_146_8, ↓ri_146_9, ↓ri_146_10, ↓ri_146_13, ↓ri_146_14, ↓ri_146_15, ↓ri_146_16, Option.some.injEq, Prod.mk.injEq, exists_eq_left', exists_eq', exists_and_left, exists_and_right, true_and, and_true, true_or, or_true, and_self, and_assoc, Option.toList_some, Option.toList_none, List.cons_append, List.nil_append, ↓reduceIte, rz_x01, rz_x10, f0, os']
  refine m_M_puts (d := d + 2) (w := 1) (x := 1) a1 hi41 (by decide) rfl (fun h2 a2 s2 => ?_)
  have f0' : rz_fv h2 m 9 0 = some (.ref (m + 1)) := by rw [s2.fv (by omega)]; exact f0
  have op := fun R => m_M_pileFor (d := d + 2) a2 (pk_un (show ¬ 0 = 184 + 6 * i + 1 by omega)) rfl (by rw [q0]; exact hfl) hb hc (R := R)
  rw [q0] at op
  have o4 := fun R => m_M_of (d := d + 2) (i := i) (w := 4) (x := 4) a2 hi41 (by decide) rfl (R := R)
  rw [pk_un (by omega), g4, y6] at o4
  have hZ1 : rz_ZS (upd f (184 + 6 * i + 1) (nI b)) (Z.set i ((y.1.1, nI b, y.1.2.2.1, y.1.2.2.2.1, y.1.2.2.2.2), y.2)) := by
    refine rz_ZS_set hZ (pk_un (by omega)) (fun j hj hj2 => pk_un (by omega)) ⟨?_, ?_, ?_, ?_, ?_, ?_, g6⟩
    · rw [pk_un (by omega)]; exact g0
    · exact pk_us
    · rw [pk_un (by omega)]; exact g2
    · rw [pk_un (by omega)]; exact g3
    · rw [pk_un (by omega)]; exact g4
    · rw [pk_un (by omega)]; exact g5
  have hH1 : rz_RH (upd f (184 + 6 * i + 1) (nI b)) (L, fl, am, lat, rd, laid, ci, co, tb) S := ⟨by rw [pk_un (by omega)]; exact q0, by rw [pk_un (by omega)]; exact q2, by rw [pk_un (by omega)]; exact q3, by rw [pk_un (by omega)]; exact q4, by rw [pk_un (by omega)]; exact q5, by rw [pk_un (by omega)]; exact q6, rz_la_hd q7 (fun j _ hj => pk_un (by omega)), fun k hk => by rw [pk_un (by omega)]; exact q8 k hk⟩
  by_cases hpl : rz_pl fl (nI b) = e.2.2.2.2
  · simp only [↓ri_146_19, ↓ri_146_20, ↓ri_146_23, ↓ri_146_24, ↓ri_146_27, ↓ri_146_29, ↓ri_146_31, ↓ri_146_32, ↓ri_146_35, ↓ri_146_36, ↓ri_146_37, ↓ri_146_40, ↓ri_146_43, ↓ri_146_44, ↓ri_146_47, ↓ri_146_48, ↓ri_146_51, ↓ri_146_53, Option.some.injEq, Prod.mk.injEq, exists_eq_left', exists_eq', exists_and_left, exists_and_right, true_and, and_true, true_or, or_true, and_self, and_assoc, Option.toList_some, Option.toList_none, List.cons_append, List.nil_append, ↓reduceIte, rz_x01, rz_x10, f0', op, o4, ↓if_pos hpl]
    refine kk h2 (h.row ⟨_, a2, S, _, by omega, ?_, hZ1, ?_⟩ (by omega) s2) s2
    · rw [if_pos hpl]; exact hH1
    · show rz_YZ (rz_le L j e (nI b) (rz_pl fl (nI b))) S _
      unfold rz_le
      rw [if_pos hpl]
      obtain ⟨A, T, hAT, hAl⟩ : ∃ A T, Y = A ++ y :: T ∧ A.length = j := ⟨Y.take j, Y.drop (j + 1), by rw [← (List.getElem?_eq_some_iff.mp y5).2, List.getElem_cons_drop, List.take_append_drop], by rw [List.length_take]; omega⟩
      have hset : ∀ w : rz_Zt, Y.set j w = A ++ w :: T := by
        intro w
        rw [hAT, List.set_append_right _ _ (by omega), hAl, Nat.sub_self]
        rfl
      refine ⟨Y.set j ((y.1.1, nI b, y.1.2.2.1, y.1.2.2.2.1, y.1.2.2.2.2), y.2), by rw [List.map_set, y1, y6], ?_, ?_, fun x hx => ?_⟩
      · rw [hset]
        exact rz_put_perm hzi (by rw [← hAT]; exact y2)
      · rw [hset]
        rw [hAT] at y3
        have p1 := List.pairwise_append.mp y3
        have p2 := List.pairwise_cons.mp p1.2.1
        refine List.pairwise_append.mpr ⟨p1.1, List.pairwise_cons.mpr ⟨fun x hx => p2.1 x hx, p2.2⟩, fun x hx w hw => ?_⟩
        rcases List.mem_cons.mp hw with q | q
        · subst q; exact p1.2.2 x hx y (List.mem_cons_self)
        · exact p1.2.2 x hx w (List.mem_cons_of_mem _ q)
      · rcases List.mem_or_eq_of_mem_set hx with q | q
        · exact y4 x q
        · subst q; exact y4 y (List.mem_of_getElem? y5)
  · have hZ1i : (Z.set i ((y.1.1, nI b, y.1.2.2.1, y.1.2.2.2.1, y.1.2.2.2.2), y.2))[i]? = some ((y.1.1, nI b, y.1.2.2.1, y.1.2.2.2.1, y.1.2.2.2.2), y.2) := by
      rw [List.getElem?_set, if_pos rfl, if_pos hil]
    simp only [↓ri_146_19, ↓ri_146_20, ↓ri_146_23, ↓ri_146_24, ↓ri_146_27, ↓ri_146_29, ↓ri_146_31, ↓ri_146_32, ↓ri_146_35, ↓ri_146_36, ↓ri_146_37, ↓ri_146_40, ↓ri_146_43, ↓ri_146_44, ↓ri_146_47, ↓ri_146_48, Option.some.injEq, Prod.mk.injEq, exists_eq_left', exists_eq', exists_and_left, exists_and_right, true_and, and_true, true_or, or_true, and_self, and_assoc, Option.toList_some, Option.toList_none, List.cons_append, List.nil_append, ↓reduceIte, rz_x01, rz_x10, f0', op, o4, ↓if_neg hpl]
    refine m_M_moves (d := d) (S := S) (b := b) (c := c) a2 hZ1 hZ1i (by rw [pk_un (by omega)]; exact q6) (by omega) rfl (by rw [pk_un (by omega), q0]; exact hfl) hb hc (fun h3 f3 a3 z3 e3 s3 => ?_)
    rw [pk_un (by omega), q0, List.set_set] at z3
    have hH3 := rz_RH_mv (L2 := rz_le L j e (nI b) (rz_pl fl (nI b))) hH1 e3
    simp only [↓ri_146_51, ↓ri_146_53, Option.some.injEq, Prod.mk.injEq, exists_eq_left', exists_eq', exists_and_left, exists_and_right, true_and, and_true, true_or, or_true, and_self, and_assoc, Option.toList_some, Option.toList_none, List.cons_append, List.nil_append, ↓reduceIte, rz_x01, rz_x10]
    refine kk h3 (h.row ⟨f3, a3, S + 1, _, by omega, ?_, z3, ?_⟩ (by omega) (s2.tr s3)) (s2.tr s3)
    · rw [if_neg hpl]; exact hH3
    · show rz_YZ (rz_le L j e (nI b) (rz_pl fl (nI b))) (S + 1) _
      unfold rz_le
      rw [if_neg hpl]
      refine ⟨Y.eraseIdx j ++ [((y.1.1, nI b, y.1.2.2.1, y.1.2.2.2.1 + 1, rz_pl fl (nI b)), S)], by rw [List.map_append, rz_eraseMap, y1, y6]; rfl, ?_, List.pairwise_append.mpr ⟨y3.sublist (List.eraseIdx_sublist _ _), List.pairwise_singleton _ _, fun x hx w hw => ?_⟩, fun x hx => ?_⟩
      · have p1 : (Y.eraseIdx j).Perm (Z.eraseIdx i) := (((rz_er_perm y5).trans y2).trans (rz_er_perm hzi).symm).cons_inv
        exact (List.perm_append_singleton _ _).trans ((p1.cons _).trans (rz_set_perm hzi))
      · rw [List.mem_singleton] at hw
        subst hw
        exact fun _ => y4 x ((List.eraseIdx_sublist _ _).subset hx)
      · rcases List.mem_append.mp hx with q | q
        · exact Nat.lt_succ_of_lt (y4 x ((List.eraseIdx_sublist _ _).subset q))
        · rw [List.mem_singleton] at q
          subst q
          exact Nat.lt_succ_self _
set_option maxHeartbeats 4000000 in
set_option maxRecDepth 100000 in
theorem m_M_less {num key : Int32} (h : rz_MM m s hist shot tx ro re sp os B hp) (hI : rz_IV s) (hB : B < 2 ^ 29) (kk : ∀ hp', rz_MM m (rz_less_ s num key).2 (rz_hs (rz_less_ s num key).1 s hist) shot tx ro re sp os (B + 2000) hp' → rz_sm m (m + 9) hp hp' → R (some (.int (rz_less_ s num key).1)) hp') : rz_ev (d + 4) 147 0 [some (.ref m), some (.int num), some (.int key), none] [] hp R := by
  obtain ⟨L, fl, am, lat, rd, laid, ci, co, tb⟩ := s
  have om := fun R => m_M_mayLess (d := d + 1) (num := num) (key := key) h hI (R := R)
  have f0 := h.1.1
  by_cases hm : rz_mayL (L, fl, am, lat, rd, laid, ci, co, tb) num key < 0
  · have c1 : ¬ 0 ≤ rz_mayL (L, fl, am, lat, rd, laid, ci, co, tb) num key := Int32.not_le.mpr hm
    simp only [↓ri_147_0, ↓ri_147_1, ↓ri_147_2, ↓ri_147_3, ↓ri_147_6, ↓ri_147_7, ↓ri_147_8, ↓ri_147_11, ↓ri_147_12, ↓ri_147_13, ↓ri_147_14, ↓ri_147_17, ↓ri_147_18, ↓ri_147_19, ↓ri_147_20, ↓ri_147_23, Option.some.injEq, Prod.mk.injEq, exists_eq_left', exists_eq', exists_and_left, exists_and_right, true_and, and_true, true_or, or_true, and_self, and_assoc, Option.toList_some, Option.toList_none, List.cons_append, List.nil_append, ↓reduceIte, rz_x01, rz_x10, om, rz_co_fv f0, ↓if_neg c1]
    rw [rz_less_may hm] at kk
    refine kk hp ?_ rz_sm.rf
    unfold rz_hs
    rw [if_pos hm]
    exact h.mono (by omega)
  · obtain ⟨j, e, hf, he, hen, hk, h1, h2, h3⟩ := rz_less_ok hm
    have c1 : 0 ≤ rz_mayL (L, fl, am, lat, rd, laid, ci, co, tb) num key := Int32.not_lt.mp hm
    obtain ⟨b, hb, rfl⟩ := rz_key_of hk
    simp only [↓ri_147_0, ↓ri_147_1, ↓ri_147_2, ↓ri_147_3, ↓ri_147_6, ↓ri_147_7, ↓ri_147_8, ↓ri_147_11, ↓ri_147_12, ↓ri_147_13, ↓ri_147_14, Option.some.injEq, Prod.mk.injEq, exists_eq_left', exists_eq', exists_and_left, exists_and_right, true_and, and_true, true_or, or_true, and_self, and_assoc, Option.toList_some, Option.toList_none, List.cons_append, List.nil_append, ↓reduceIte, rz_x01, rz_x10, om, rz_co_fv f0, ↓if_pos c1]
    refine m_M_records (d := d + 1) h (fun h1 k1 s1 => ?_)
    have g0 := k1.1.1
    simp only [↓ri_147_17, ↓ri_147_18, ↓ri_147_19, ↓ri_147_20, Option.some.injEq, Prod.mk.injEq, exists_eq_left', exists_eq', exists_and_left, exists_and_right, true_and, and_true, true_or, or_true, and_self, and_assoc, Option.toList_some, Option.toList_none, List.cons_append, List.nil_append, ↓reduceIte, rz_x01, rz_x10, rz_co_fv g0]
    refine m_M_makesLess (d := d) k1 hI he hen hb (by omega) (fun h2 k2 s2 => ?_)
    simp only [↓ri_147_23, Option.some.injEq, Prod.mk.injEq, exists_eq_left', exists_eq', exists_and_left, exists_and_right, true_and, and_true, true_or, or_true, and_self, and_assoc, Option.toList_some, Option.toList_none, List.cons_append, List.nil_append, ↓reduceIte, rz_x01, rz_x10]
    rw [h3] at kk
    refine kk h2 ?_ (s1.tr (s2.wd (by omega) (by omega)))
    obtain ⟨⟨c, n, hc, rfl, -⟩, -⟩ := hI.1
    unfold rz_hs
    have h16 := rz_b16 hb hc
    rw [rz_plN hb hc, if_neg (nI_pos (by omega))]
    rw [rz_plN hb hc] at k2
    exact k2.mono (by omega)
set_option maxHeartbeats 4000000 in
set_option maxRecDepth 100000 in
theorem m_M_takesBack {num : Int32} {j : Nat} {e : rz_En} (h : rz_MM m (L, fl, am, lat, rd, laid, ci, co, tb) hist shot tx ro re sp os B hp) (hI : rz_IV (L, fl, am, lat, rd, laid, ci, co, tb)) (he : L[j]? = some e) (hen : e.1 = num) (kk : ∀ hp', rz_MM m (L.eraseIdx j, fl, am, lat, rd, laid, ci, co, tb + 1) hist shot tx ro re sp os B hp' → rz_sm (m + 1) (m + 2) hp hp' → R (some (.int e.2.1)) hp') : rz_ev (d + 2) 148 0 [some (.ref m), some (.int num), none, none] [] hp R := by
  obtain ⟨⟨f0, -⟩, ⟨f, a1, w1⟩, -⟩ := id h
  obtain ⟨S, Z, hS, ⟨q0, q2, q3, q4, q5, q6, q7, q8⟩, hZ, hY⟩ := id w1
  obtain ⟨Y, y, i, y1, y2, y3, y4, y5, y6, hzi, hsl⟩ := rz_slot_some hY hI.1.2 he hen
  replace y1 : Y.map Prod.fst = L := y1
  have os' := fun R => m_M_slotOf (d := d) (m := num) (tgt := nI i) a1 hZ hsl (R := R)
  have hi41 : i < 41 := Nat.lt_of_lt_of_le (List.getElem?_eq_some_iff.mp hzi).1 hZ.1
  have o1 := fun R => m_M_of (d := d + 1) (i := i) (w := 1) (x := 1) a1 hi41 (by decide) rfl (R := R)
  rw [(hZ.2.2 i y hzi).2.1, y6] at o1
  simp only [↓ri_148_0, ↓ri_148_1, ↓ri_148_4, ↓ri_148_5, ↓ri_148_8, ↓ri_148_9, ↓ri_148_10, ↓ri_148_13, ↓ri_148_14, ↓ri_148_15, ↓ri_148_18, ↓ri_148_19, ↓ri_148_20, ↓ri_148_23, ↓ri_148_24, Option.some.injEq, Prod.mk.injEq, exists_eq_left', exists_eq', exists_and_left, exists_and_right, true_and, and_true, true_or, or_true, and_self, and_assoc, Option.toList_some, Option.toList_none, List.cons_append, List.nil_append, ↓reduceIte, rz_x01, rz_x10, f0, os', o1]
  refine m_M_drops (d := d) a1 hZ hzi (fun h3 f3 Z3 a3 z3 p3 e3 s3 => ?_)
  have f0' : rz_fv h3 m 9 0 = some (.ref (m + 1)) := by rw [s3.fv (by omega)]; exact f0
  have e5 : f3 5 = tb := by rw [e3 5 (by omega) (by omega)]; exact q5
  have v5 : vp_in 5 430 := vp_in_nI (n := 5) (by decide) (by decide)
  have k5 : (5 : Int32).toNatClampNeg = 5 := rfl
  simp only [↓ri_148_27, ↓ri_148_28, ↓ri_148_31, ↓ri_148_32, ↓ri_148_33, ↓ri_148_34, ↓ri_148_35, ↓ri_148_36, ↓ri_148_37, ↓ri_148_38, Option.some.injEq, Prod.mk.injEq, exists_eq_left', exists_eq', exists_and_left, exists_and_right, true_and, and_true, true_or, or_true, and_self, and_assoc, Option.toList_some, Option.toList_none, List.cons_append, List.nil_append, ↓reduceIte, rz_x01, rz_x10, f0', a3, v5, k5, e5]
  have s4 : rz_sm (m + 1) (m + 2) h3 (rz_pa h3 (m + 1) (upd f3 5 (tb + 1))) := rz_sm_pa (by omega) (by omega)
  refine kk _ (h.row ⟨_, rz_avS a3, S, Z3, hS, ⟨?_, ?_, ?_, ?_, ?_, ?_, ?_, fun i hi => ?_⟩, rz_ZS_hd z3 (pk_un (by omega)) (fun j hj => pk_un (by omega)), rz_YZ_er y1 y2 y3 y4 y5 p3⟩ (Nat.le_refl _) (s3.tr s4)) (s3.tr s4)
  · rw [pk_un (by omega), e3 0 (by omega) (by omega)]; exact q0
  · rw [pk_un (by omega), e3 2 (by omega) (by omega)]; exact q2
  · rw [pk_un (by omega), e3 3 (by omega) (by omega)]; exact q3
  · rw [pk_un (by omega), e3 4 (by omega) (by omega)]; exact q4
  · exact pk_us
  · rw [pk_un (by omega), e3 6 (by omega) (by omega)]; exact q6
  · exact rz_la_hd q7 (fun j hj hj2 => by rw [pk_un (by omega), e3 j (by omega) (by omega)])
  · rw [pk_un (by omega), e3 _ (by omega) (by omega)]; exact q8 i hi
set_option maxHeartbeats 4000000 in
set_option maxRecDepth 100000 in
theorem m_M_takeBack {num : Int32} (h : rz_MM m s hist shot tx ro re sp os B hp) (hI : rz_IV s) (kk : ∀ hp', rz_MM m (rz_back_ s num).2 (rz_hs (rz_back_ s num).1 s hist) shot tx ro re sp os (B + 2000) hp' → rz_sm m (m + 9) hp hp' → R (some (.int (rz_back_ s num).1)) hp') : rz_ev (d + 3) 149 0 [some (.ref m), some (.int num)] [] hp R := by
  obtain ⟨L, fl, am, lat, rd, laid, ci, co, tb⟩ := s
  obtain ⟨⟨f0, -⟩, ⟨f, a1, w1⟩, -⟩ := id h
  obtain ⟨S, Z, hS, -, hZ, hY⟩ := id w1
  unfold rz_back_ at kk
  cases hf : rz_fi L num with
  | none =>
    simp only [hf] at kk
    have os := fun R => m_M_slotOf (d := d + 1) (m := num) (tgt := -5) a1 hZ (rz_slot_none hY hf) (R := R)
    have c1 : (-5 : Int32) = -5 := rfl
    simp only [↓ri_149_0, ↓ri_149_1, ↓ri_149_4, ↓ri_149_5, ↓ri_149_8, ↓ri_149_10, ↓ri_149_13, ↓ri_149_14, Option.some.injEq, Prod.mk.injEq, exists_eq_left', exists_eq', exists_and_left, exists_and_right, true_and, and_true, true_or, or_true, and_self, and_assoc, Option.toList_some, Option.toList_none, List.cons_append, List.nil_append, ↓reduceIte, rz_x01, rz_x10, f0, os, ↓if_pos c1]
    exact kk hp (by unfold rz_hs; rw [if_pos (show (-1 : Int32) < 0 by decide)]; exact h.mono (by omega)) rz_sm.rf
  | some j =>
    obtain ⟨e, he, hen⟩ := rz_fi_some hf
    have hd : L.getD j (0, 0, 0, 0, 0) = e := by rw [List.getD_eq_getElem?_getD, he]; rfl
    simp only [hf, hd] at kk
    obtain ⟨Y, y, i, y1, y2, y3, y4, y5, y6, hzi, hsl⟩ := rz_slot_some hY hI.1.2 he hen
    have os' := fun R => m_M_slotOf (d := d + 1) (m := num) (tgt := nI i) a1 hZ hsl (R := R)
    have hi41 : i < 41 := Nat.lt_of_lt_of_le (List.getElem?_eq_some_iff.mp hzi).1 hZ.1
    have c1 : ¬ nI i = -5 := fun q => nI_pos (show i < 2 ^ 31 by omega) (by rw [q]; decide)
    simp only [↓ri_149_0, ↓ri_149_1, ↓ri_149_4, ↓ri_149_5, ↓ri_149_8, ↓ri_149_10, ↓ri_149_13, ↓ri_149_14, ↓ri_149_15, ↓ri_149_16, Option.some.injEq, Prod.mk.injEq, exists_eq_left', exists_eq', exists_and_left, exists_and_right, true_and, and_true, true_or, or_true, and_self, and_assoc, Option.toList_some, Option.toList_none, List.cons_append, List.nil_append, ↓reduceIte, rz_x01, rz_x10, f0, os', ↓if_neg c1, rz_co_fv f0]
    refine m_M_records (d := d) h (fun h1 k1 s1 => ?_)
    have g0 := k1.1.1
    simp only [↓ri_149_19, ↓ri_149_20, ↓ri_149_21, Option.some.injEq, Prod.mk.injEq, exists_eq_left', exists_eq', exists_and_left, exists_and_right, true_and, and_true, true_or, or_true, and_self, and_assoc, Option.toList_some, Option.toList_none, List.cons_append, List.nil_append, ↓reduceIte, rz_x01, rz_x10, rz_co_fv g0]
    refine m_M_takesBack (d := d) k1 hI he hen (fun h2 k2 s2 => ?_)
    simp only [↓ri_149_24, Option.some.injEq, Prod.mk.injEq, exists_eq_left', exists_eq', exists_and_left, exists_and_right, true_and, and_true, true_or, or_true, and_self, and_assoc, Option.toList_some, Option.toList_none, List.cons_append, List.nil_append, ↓reduceIte, rz_x01, rz_x10]
    refine kk h2 ?_ (s1.tr (s2.wd (by omega) (by omega)))
    unfold rz_hs
    rw [if_neg (Int32.not_lt.mpr (hI.1.lt40 e (List.mem_of_getElem? he)).2.2.2.1)]
    exact k2.mono (by omega)
end RZMA
