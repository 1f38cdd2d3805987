/-! RisingPiles goes on: roads, texts, history -/
noncomputable def rz_road_ : rz_AS → Int32 → Int32 → Int32 → Int32 × rz_AS := fun (L, fl, am, lat, rd, laid, ci, co, tb) x y len => ((rz_lay_ rd laid x y len).1, L, fl, am, lat, (rz_lay_ rd laid x y len).2.1, (rz_lay_ rd laid x y len).2.2, ci, co, tb)
noncomputable def rz_unroad_ : rz_AS → Int32 → Int32 → Int32 × rz_AS := fun (L, fl, am, lat, rd, laid, ci, co, tb) x y => ((rz_rem_ rd laid x y).1, L, fl, am, lat, (rz_rem_ rd laid x y).2.1, (rz_rem_ rd laid x y).2.2, ci, co, tb)
theorem rz_I0_in {s : rz_AS} {key val : Int32} (h : rz_I0 s) : rz_I0 (rz_in_ s key val).2 := by
  obtain ⟨L, fl, am, lat, rd, laid, ci, co, tb⟩ := s
  unfold rz_in_
  dsimp only
  split
  · exact h
  · next h1 =>
    split
    · exact h
    · split
      · exact h
      · refine ⟨fun x hx => ?_, h.2⟩
        rcases List.mem_append.mp hx with hx | hx
        · exact h.1 x hx
        · rw [List.mem_singleton] at hx
          subst hx
          exact rz_key_of (Classical.byContradiction (fun q => h1 (Or.inl q)))
theorem rz_I0_back {s : rz_AS} {n : Int32} (h : rz_I0 s) : rz_I0 (rz_back_ s n).2 := by
  obtain ⟨L, fl, am, lat, rd, laid, ci, co, tb⟩ := s
  unfold rz_back_
  dsimp only
  split
  · exact h
  · exact ⟨rz_kr_er h.1, h.2⟩
theorem rz_I0_less {s : rz_AS} {n key : Int32} (h : rz_I0 s) : rz_I0 (rz_less_ s n key).2 := by
  obtain ⟨L, fl, am, lat, rd, laid, ci, co, tb⟩ := s
  unfold rz_less_
  dsimp only
  split
  · exact h
  · split
    · exact h
    · next hk =>
      split
      · exact h
      · split
        · exact h
        · refine ⟨?_, h.2⟩
          obtain ⟨a, ha, e⟩ := rz_key_of (Classical.byContradiction (fun q => hk q))
          show rz_kr (rz_le _ _ _ _ _)
          unfold rz_le
          split
          · intro x hx
            rcases List.mem_or_eq_of_mem_set hx with hx | hx
            · exact h.1 x hx
            · subst hx; exact ⟨a, ha, e⟩
          · intro x hx
            rcases List.mem_append.mp hx with hx | hx
            · exact rz_kr_er h.1 x hx
            · rw [List.mem_singleton] at hx
              subst hx
              exact ⟨a, ha, e⟩
theorem rz_I0_do {s : rz_AS} {k a b : Int32} (h : rz_I0 s) : rz_I0 (rz_do_ s k a b).2 := by
  unfold rz_do_
  split
  · exact rz_I0_in h
  · split
    · exact rz_I0_out h
    · split
      · exact rz_I0_back h
      · split
        · exact rz_I0_less h
        · exact h
/-- orders are carried out, one after the other, till one is refused -/
noncomputable def rz_pw : List rz_Or → Nat → rz_AS → Option (Nat × Int32) × rz_AS
  | [], _, s => (none, s)
  | o :: os, i, s => if (rz_do_ s o.1 o.2.1 o.2.2).1 < 0 ∧ ¬ (rz_do_ s o.1 o.2.1 o.2.2).1 = -5 then (some (i, (rz_do_ s o.1 o.2.1 o.2.2).1), s) else rz_pw os (i + 1) (rz_do_ s o.1 o.2.1 o.2.2).2
section RZRS
variable {d o : Nat} {nw bf sn nw' : rz_AS} {hist hist' : List rz_AS} {tx tx' : List Int32} {os os' : List rz_Or} {pl pl' : Int32} {ss ss' : rz_SS} {tk ro re : Int32} {hp h1 : rz_Hp} {R : Option Value → rz_Hp → Prop}
set_option maxHeartbeats 4000000 in
set_option maxRecDepth 100000 in
theorem c_C_road {x y len : Int32} (h : rz_RP o nw bf sn hist tx os pl ss tk ro re hp) (kk : ∀ hp', rz_RP o (rz_road_ nw x y len).2 nw sn (rz_hs (rz_road_ nw x y len).1 nw hist) tx os pl ss tk ro re hp' → rz_sm o (o + 115) hp hp' → R (some (.int (rz_road_ nw x y len).1)) hp') : rz_ev (d + 6) 93 0 [some (.ref o), some (.int x), some (.int y), some (.int len)] [] hp R := by
  obtain ⟨c0, c1, c2, c3, c4, c5, c6, c7⟩ := rz_RP_cos h
  obtain ⟨p0, p1, p2, p3, p4, p5, p6, p7, p8, p9⟩ := id h.1
  simp only [↓ri_93_0, ↓ri_93_1, ↓ri_93_4, ↓ri_93_5, ↓ri_93_8, ↓ri_93_11, ↓ri_93_12, ↓ri_93_13, ↓ri_93_16, ↓ri_93_19, ↓ri_93_20, ↓ri_93_21, ↓ri_93_22, ↓ri_93_25, ↓ri_93_28, Option.some.injEq, Prod.mk.injEq, exists_eq_left', exists_eq', exists_and_left, exists_and_right, true_and, and_true, true_or, or_true, and_self, and_assoc, Option.toList_some, Option.toList_none, List.cons_append, List.nil_append, ↓reduceIte, rz_x01, rz_x10, p0, p1, c2]
  refine c_C_bf (d := d + 2) h (fun h1 k1 hs1 => ?_)
  obtain ⟨q0, q1, q2, q3, q4, q5, q6, q7, q8, q9⟩ := id k1.1
  obtain ⟨L, fl, am, lat, rd, laid, ci, co, tb⟩ := nw
  obtain ⟨⟨t0, t1, t2, t3, t4, t5⟩, hP, hT, hR⟩ := id k1.2.1
  simp only [↓ri_93_0, ↓ri_93_1, ↓ri_93_4, ↓ri_93_5, ↓ri_93_8, ↓ri_93_11, ↓ri_93_12, ↓ri_93_13, ↓ri_93_16, ↓ri_93_19, ↓ri_93_20, ↓ri_93_21, ↓ri_93_22, ↓ri_93_25, ↓ri_93_28, Option.some.injEq, Prod.mk.injEq, exists_eq_left', exists_eq', exists_and_left, exists_and_right, true_and, and_true, true_or, or_true, and_self, and_assoc, Option.toList_some, Option.toList_none, List.cons_append, List.nil_append, ↓reduceIte, rz_x01, rz_x10, q0, t2, rz_co_fv hR.1]
  refine c_R_lay (d := d + 3) hR (fun h2 k2 hs2 => ?_)
  have k3 := rz_RP_nw (nw' := (rz_road_ (L, fl, am, lat, rd, laid, ci, co, tb) x y len).2) k1 ⟨rz_SF_sm ⟨t0, t1, t2, t3, t4, t5⟩ hs2 (by omega), rz_PL_sm hP hs2 (by omega), rz_LT_sm hT hs2 (by omega), k2⟩ (hs2.wd (by omega) (by omega))
  obtain ⟨f0, f1, f2, f3, f4, f5, f6, f7⟩ := rz_RP_cos k3
  simp only [↓ri_93_0, ↓ri_93_1, ↓ri_93_4, ↓ri_93_5, ↓ri_93_8, ↓ri_93_11, ↓ri_93_12, ↓ri_93_13, ↓ri_93_16, ↓ri_93_19, ↓ri_93_20, ↓ri_93_21, ↓ri_93_22, ↓ri_93_25, ↓ri_93_28, Option.some.injEq, Prod.mk.injEq, exists_eq_left', exists_eq', exists_and_left, exists_and_right, true_and, and_true, true_or, or_true, and_self, and_assoc, Option.toList_some, Option.toList_none, List.cons_append, List.nil_append, ↓reduceIte, rz_x01, rz_x10, f0]
  refine c_C_recorded (d := d) k3 (fun h3 k4 hs3 => ?_)
  simp only [↓ri_93_0, ↓ri_93_1, ↓ri_93_4, ↓ri_93_5, ↓ri_93_8, ↓ri_93_11, ↓ri_93_12, ↓ri_93_13, ↓ri_93_16, ↓ri_93_19, ↓ri_93_20, ↓ri_93_21, ↓ri_93_22, ↓ri_93_25, ↓ri_93_28, Option.some.injEq, Prod.mk.injEq, exists_eq_left', exists_eq', exists_and_left, exists_and_right, true_and, and_true, true_or, or_true, and_self, and_assoc, Option.toList_some, Option.toList_none, List.cons_append, List.nil_append, ↓reduceIte, rz_x01, rz_x10]
  exact kk _ k4 ((hs1.tr (hs2.wd (by omega) (by omega))).tr hs3)
set_option maxHeartbeats 4000000 in
set_option maxRecDepth 100000 in
theorem c_C_unroad {x y : Int32} (h : rz_RP o nw bf sn hist tx os pl ss tk ro re hp) (kk : ∀ hp', rz_RP o (rz_unroad_ nw x y).2 nw sn (rz_hs (rz_unroad_ nw x y).1 nw hist) tx os pl ss tk ro re hp' → rz_sm o (o + 115) hp hp' → R (some (.int (rz_unroad_ nw x y).1)) hp') : rz_ev (d + 6) 94 0 [some (.ref o), some (.int x), some (.int y)] [] hp R := by
  obtain ⟨c0, c1, c2, c3, c4, c5, c6, c7⟩ := rz_RP_cos h
  obtain ⟨p0, p1, p2, p3, p4, p5, p6, p7, p8, p9⟩ := id h.1
  simp only [↓ri_94_0, ↓ri_94_1, ↓ri_94_4, ↓ri_94_5, ↓ri_94_8, ↓ri_94_11, ↓ri_94_12, ↓ri_94_13, ↓ri_94_16, ↓ri_94_19, ↓ri_94_20, ↓ri_94_21, ↓ri_94_24, ↓ri_94_27, Option.some.injEq, Prod.mk.injEq, exists_eq_left', exists_eq', exists_and_left, exists_and_right, true_and, and_true, true_or, or_true, and_self, and_assoc, Option.toList_some, Option.toList_none, List.cons_append, List.nil_append, ↓reduceIte, rz_x01, rz_x10, p0, p1, c2]
  refine c_C_bf (d := d + 2) h (fun h1 k1 hs1 => ?_)
  obtain ⟨q0, q1, q2, q3, q4, q5, q6, q7, q8, q9⟩ := id k1.1
  obtain ⟨L, fl, am, lat, rd, laid, ci, co, tb⟩ := nw
  obtain ⟨⟨t0, t1, t2, t3, t4, t5⟩, hP, hT, hR⟩ := id k1.2.1
  simp only [↓ri_94_0, ↓ri_94_1, ↓ri_94_4, ↓ri_94_5, ↓ri_94_8, ↓ri_94_11, ↓ri_94_12, ↓ri_94_13, ↓ri_94_16, ↓ri_94_19, ↓ri_94_20, ↓ri_94_21, ↓ri_94_24, ↓ri_94_27, Option.some.injEq, Prod.mk.injEq, exists_eq_left', exists_eq', exists_and_left, exists_and_right, true_and, and_true, true_or, or_true, and_self, and_assoc, Option.toList_some, Option.toList_none, List.cons_append, List.nil_append, ↓reduceIte, rz_x01, rz_x10, q0, t2, rz_co_fv hR.1]
  refine c_R_remove (d := d + 3) hR (fun h2 k2 hs2 => ?_)
  have k3 := rz_RP_nw (nw' := (rz_unroad_ (L, fl, am, lat, rd, laid, ci, co, tb) x y).2) k1 ⟨rz_SF_sm ⟨t0, t1, t2, t3, t4, t5⟩ hs2 (by omega), rz_PL_sm hP hs2 (by omega), rz_LT_sm hT hs2 (by omega), k2⟩ (hs2.wd (by omega) (by omega))
  obtain ⟨f0, f1, f2, f3, f4, f5, f6, f7⟩ := rz_RP_cos k3
  simp only [↓ri_94_0, ↓ri_94_1, ↓ri_94_4, ↓ri_94_5, ↓ri_94_8, ↓ri_94_11, ↓ri_94_12, ↓ri_94_13, ↓ri_94_16, ↓ri_94_19, ↓ri_94_20, ↓ri_94_21, ↓ri_94_24, ↓ri_94_27, Option.some.injEq, Prod.mk.injEq, exists_eq_left', exists_eq', exists_and_left, exists_and_right, true_and, and_true, true_or, or_true, and_self, and_assoc, Option.toList_some, Option.toList_none, List.cons_append, List.nil_append, ↓reduceIte, rz_x01, rz_x10, f0]
  refine c_C_recorded (d := d) k3 (fun h3 k4 hs3 => ?_)
  simp only [↓ri_94_0, ↓ri_94_1, ↓ri_94_4, ↓ri_94_5, ↓ri_94_8, ↓ri_94_11, ↓ri_94_12, ↓ri_94_13, ↓ri_94_16, ↓ri_94_19, ↓ri_94_20, ↓ri_94_21, ↓ri_94_24, ↓ri_94_27, Option.some.injEq, Prod.mk.injEq, exists_eq_left', exists_eq', exists_and_left, exists_and_right, true_and, and_true, true_or, or_true, and_self, and_assoc, Option.toList_some, Option.toList_none, List.cons_append, List.nil_append, ↓reduceIte, rz_x01, rz_x10]
  exact kk _ k4 ((hs1.tr (hs2.wd (by omega) (by omega))).tr hs3)
set_option maxHeartbeats 4000000 in
set_option maxRecDepth 100000 in
theorem c_C_type {c : Int32} (hc : vp_nar .char c = c) (h : rz_RP o nw bf sn hist tx os pl ss tk ro re hp) (kk : ∀ hp', rz_RP o nw bf sn hist (rz_type_ tx c).2 os pl ss tk ro re hp' → rz_sm o (o + 115) hp hp' → R (some (.int (rz_type_ tx c).1)) hp') : rz_ev (d + 1) 95 0 [some (.ref o), some (.int c)] [] hp R := by
  obtain ⟨c0, c1, c2, c3, c4, c5, c6, c7⟩ := rz_RP_cos h
  obtain ⟨p0, p1, p2, p3, p4, p5, p6, p7, p8, p9⟩ := id h.1
  simp only [↓ri_95_0, ↓ri_95_1, ↓ri_95_4, ↓ri_95_5, ↓ri_95_8, Option.some.injEq, Prod.mk.injEq, exists_eq_left', exists_eq', exists_and_left, exists_and_right, true_and, and_true, true_or, or_true, and_self, and_assoc, Option.toList_some, Option.toList_none, List.cons_append, List.nil_append, ↓reduceIte, rz_x01, rz_x10, p4, c5]
  refine c_X_append (d := d) h.2.2.2.2.2.1 hc (fun h1 k1 hs1 => ?_)
  simp only [↓ri_95_0, ↓ri_95_1, ↓ri_95_4, ↓ri_95_5, ↓ri_95_8, Option.some.injEq, Prod.mk.injEq, exists_eq_left', exists_eq', exists_and_left, exists_and_right, true_and, and_true, true_or, or_true, and_self, and_assoc, Option.toList_some, Option.toList_none, List.cons_append, List.nil_append, ↓reduceIte, rz_x01, rz_x10]
  exact kk _ (rz_RP_tx h k1 hs1) (hs1.wd (by omega) (by omega))
set_option maxHeartbeats 4000000 in
set_option maxRecDepth 100000 in
theorem c_C_clearText (h : rz_RP o nw bf sn hist tx os pl ss tk ro re hp) (kk : ∀ hp', rz_RP o nw bf sn hist [] os pl ss tk ro re hp' → rz_sm o (o + 115) hp hp' → R (some (.int (nI tx.length))) hp') : rz_ev (d + 1) 96 0 [some (.ref o)] [] hp R := by
  obtain ⟨c0, c1, c2, c3, c4, c5, c6, c7⟩ := rz_RP_cos h
  obtain ⟨p0, p1, p2, p3, p4, p5, p6, p7, p8, p9⟩ := id h.1
  simp only [↓ri_96_0, ↓ri_96_1, ↓ri_96_4, ↓ri_96_7, Option.some.injEq, Prod.mk.injEq, exists_eq_left', exists_eq', exists_and_left, exists_and_right, true_and, and_true, true_or, or_true, and_self, and_assoc, Option.toList_some, Option.toList_none, List.cons_append, List.nil_append, ↓reduceIte, rz_x01, rz_x10, p4, c5]
  refine c_X_clear (d := d) h.2.2.2.2.2.1 (fun h1 k1 hs1 => ?_)
  simp only [↓ri_96_0, ↓ri_96_1, ↓ri_96_4, ↓ri_96_7, Option.some.injEq, Prod.mk.injEq, exists_eq_left', exists_eq', exists_and_left, exists_and_right, true_and, and_true, true_or, or_true, and_self, and_assoc, Option.toList_some, Option.toList_none, List.cons_append, List.nil_append, ↓reduceIte, rz_x01, rz_x10]
  exact kk _ (rz_RP_tx h k1 hs1) (hs1.wd (by omega) (by omega))
set_option maxHeartbeats 4000000 in
set_option maxRecDepth 100000 in
theorem c_C_perform_loop (kk1 : ∀ hp' nw', rz_pw os 0 bf = (none, nw') → rz_RP o nw' bf sn (rz_rec hist bf) tx os pl ss tk ro re hp' → rz_sm o (o + 115) hp hp' → R (some (.int (nI os.length))) hp') (kk2 : ∀ hp' i er nw', rz_pw os 0 bf = (some (i, er), nw') → rz_RP o bf bf sn hist tx os pl ss tk (nI i) er hp' → rz_sm o (o + 115) hp hp' → R (some (.int (-4))) hp') (hos : 0 < os.length) : ∀ i, i ≤ os.length → ∀ (nw : rz_AS) (hp1 : rz_Hp) (l3 : Option Value), rz_pw os 0 bf = rz_pw (os.drop i) i nw → rz_I0 nw → rz_RP o nw bf sn hist tx os pl ss tk ro re hp1 → rz_sm o (o + 115) hp hp1 → rz_ev (d + 6) 97 35 [some (.ref o), some (.int (-1)), some (.int (nI i)), l3] [] hp1 R := by
  refine rz_down os.length ?_ ?_
  · intro nw hp1 l3 hpw hI h hs
    obtain ⟨c0, c1, c2, c3, c4, c5, c6, c7⟩ := rz_RP_cos h
    obtain ⟨p0, p1, p2, p3, p4, p5, p6, p7, p8, p9⟩ := id h.1
    have hO := h.2.2.2.2.2.2.1
    have hq := fun R => c_O_size (d := d + 5) hO (R := R)
    have hL := hO.1
    have e1 : nI os.length ≤ nI os.length := nI_le (Nat.le_refl _) (by omega)
    rw [List.drop_length] at hpw
    rw [ri_97_35]
    simp only [↓ri_97_36, ↓ri_97_37, ↓ri_97_40, ↓ri_97_43, ↓ri_97_46, ↓ri_97_47, ↓ri_97_50, ↓ri_97_51, ↓ri_97_54, ↓ri_97_55, ↓ri_97_58, ↓ri_97_59, ↓ri_97_62, ↓ri_97_63, ↓ri_97_66, ↓ri_97_67, ↓ri_97_70, ↓ri_97_71, ↓ri_97_74, ↓ri_97_77, ↓ri_97_78, ↓ri_97_79, ↓ri_97_82, ↓ri_97_85, ↓ri_97_86, ↓ri_97_87, ↓ri_97_90, ↓ri_97_91, ↓ri_97_92, ↓ri_97_95, ↓ri_97_96, ↓ri_97_99, ↓ri_97_100, ↓ri_97_103, ↓ri_97_106, ↓ri_97_108, ↓ri_97_109, ↓ri_97_112, ↓ri_97_115, ↓ri_97_116, ↓ri_97_117, ↓ri_97_120, ↓ri_97_123, ↓ri_97_126, Option.some.injEq, Prod.mk.injEq, exists_eq_left', exists_eq', exists_and_left, exists_and_right, true_and, and_true, true_or, or_true, and_self, and_assoc, Option.toList_some, Option.toList_none, List.cons_append, List.nil_append, ↓reduceIte, rz_x01, rz_x10, p5, c6, hq, ↓if_pos e1, c0]
    refine c_C_recorded (d := d) h (fun h3 k4 hs3 => ?_)
    have hn : ¬ nI os.length < 0 := nI_pos (by omega)
    unfold rz_hs at k4
    rw [if_neg hn] at k4
    simp only [↓ri_97_36, ↓ri_97_37, ↓ri_97_40, ↓ri_97_43, ↓ri_97_46, ↓ri_97_47, ↓ri_97_50, ↓ri_97_51, ↓ri_97_54, ↓ri_97_55, ↓ri_97_58, ↓ri_97_59, ↓ri_97_62, ↓ri_97_63, ↓ri_97_66, ↓ri_97_67, ↓ri_97_70, ↓ri_97_71, ↓ri_97_74, ↓ri_97_77, ↓ri_97_78, ↓ri_97_79, ↓ri_97_82, ↓ri_97_85, ↓ri_97_86, ↓ri_97_87, ↓ri_97_90, ↓ri_97_91, ↓ri_97_92, ↓ri_97_95, ↓ri_97_96, ↓ri_97_99, ↓ri_97_100, ↓ri_97_103, ↓ri_97_106, ↓ri_97_108, ↓ri_97_109, ↓ri_97_112, ↓ri_97_115, ↓ri_97_116, ↓ri_97_117, ↓ri_97_120, ↓ri_97_123, ↓ri_97_126, Option.some.injEq, Prod.mk.injEq, exists_eq_left', exists_eq', exists_and_left, exists_and_right, true_and, and_true, true_or, or_true, and_self, and_assoc, Option.toList_some, Option.toList_none, List.cons_append, List.nil_append, ↓reduceIte, rz_x01, rz_x10]
    exact kk1 _ nw hpw k4 (hs.tr hs3)
  · intro i hi ih nw hp1 l3 hpw hI h hs
    obtain ⟨c0, c1, c2, c3, c4, c5, c6, c7⟩ := rz_RP_cos h
    obtain ⟨p0, p1, p2, p3, p4, p5, p6, p7, p8, p9⟩ := id h.1
    have hO := h.2.2.2.2.2.2.1
    have hL := hO.1
    have hq := fun R => c_O_size (d := d + 5) hO (R := R)
    have e1 : ¬ nI os.length ≤ nI i := nI_ge hi (by omega)
    obtain ⟨x, hx⟩ := rz_ge hi
    have q1 := fun R => c_O_kindAt (d := d + 4) hO hx (R := R)
    have q2 := fun R => c_O_firstAt (d := d + 4) hO hx (R := R)
    have q3 := fun R => c_O_secondAt (d := d + 4) hO hx (R := R)
    have hd : os.drop i = x :: os.drop (i + 1) := by rw [List.drop_eq_getElem_cons hi, (List.getElem?_eq_some_iff.mp hx).2]
    rw [hd] at hpw
    have hun : rz_pw (x :: os.drop (i + 1)) i nw = if (rz_do_ nw x.1 x.2.1 x.2.2).1 < 0 ∧ ¬ (rz_do_ nw x.1 x.2.1 x.2.2).1 = -5 then (some (i, (rz_do_ nw x.1 x.2.1 x.2.2).1), nw) else rz_pw (os.drop (i + 1)) (i + 1) (rz_do_ nw x.1 x.2.1 x.2.2).2 := rfl
    rw [hun] at hpw
    rw [ri_97_35]
    simp only [↓ri_97_36, ↓ri_97_37, ↓ri_97_40, ↓ri_97_43, ↓ri_97_46, ↓ri_97_47, ↓ri_97_50, ↓ri_97_51, ↓ri_97_54, ↓ri_97_55, ↓ri_97_58, ↓ri_97_59, ↓ri_97_62, ↓ri_97_63, ↓ri_97_66, ↓ri_97_67, ↓ri_97_70, ↓ri_97_71, ↓ri_97_74, Option.some.injEq, Prod.mk.injEq, exists_eq_left', exists_eq', exists_and_left, exists_and_right, true_and, and_true, true_or, or_true, and_self, and_assoc, Option.toList_some, Option.toList_none, List.cons_append, List.nil_append, ↓reduceIte, rz_x01, rz_x10, p5, p0, c1, c6, hq, ↓if_neg e1, q1, q2, q3]
    refine c_T_carryOut (d := d + 1) h.2.1 hI (fun h2 k2 hs2 => ?_)
    have k3 := rz_RP_nw h k2 hs2
    by_cases he : (rz_do_ nw x.1 x.2.1 x.2.2).1 < 0 ∧ ¬ (rz_do_ nw x.1 x.2.1 x.2.2).1 = -5
    · rw [if_pos he] at hpw
      have ee := fun R => (c_C_isError (d := d + 5) (hp := h2) (R := R)).1 he
      have z1 : ¬ (1 : Int32) = 0 := by decide
      obtain ⟨⟨f0, f1, f2, f3, f4, f5, f6, f7, f8, f9⟩, k3b, k3c, k3d, k3e, k3f, k3g, k3i⟩ := id k3
      have hs3 : rz_sm o (o + 1) h2 (rz_pf (rz_pf h2 o 8 (.int (nI i))) o 9 (.int (rz_do_ nw x.1 x.2.1 x.2.2).1)) := (rz_sm_pf (by omega) (by omega)).tr (rz_sm_pf (by omega) (by omega))
      have k4 : rz_RP o (rz_do_ nw x.1 x.2.1 x.2.2).2 bf sn hist tx os pl ss tk (nI i) (rz_do_ nw x.1 x.2.1 x.2.2).1 (rz_pf (rz_pf h2 o 8 (.int (nI i))) o 9 (.int (rz_do_ nw x.1 x.2.1 x.2.2).1)) := ⟨by simp only [rz_RF, rz_fv_pf, rz_av_pf, rz_qv_pf, rz_ln_pf, rz_co_pf, rz_fv_pa, rz_av_pa, rz_qv_pa, rz_ln_pa, rz_co_pa, rz_fv_pq, rz_av_pq, rz_qv_pq, rz_ln_pq, rz_co_pq, Nat.reduceEqDiff, Nat.add_eq_left, Nat.left_eq_add, Nat.one_ne_zero, Option.map_some, exists_const, Option.some.injEq, Prod.mk.injEq, exists_eq_left', exists_eq', exists_and_left, exists_and_right, true_and, and_true, true_or, or_true, and_self, and_assoc, Option.toList_some, Option.toList_none, List.cons_append, List.nil_append, ↓reduceIte, rz_x01, rz_x10, f0, f1, f2, f3, f4, f5, f6, f7, f8, f9], rz_ST_sm k3b hs3 (by omega), rz_ST_sm k3c hs3 (by omega), rz_ST_sm k3d hs3 (by omega), rz_HI_sm k3e hs3 (by omega), rz_TX_sm k3f hs3 (by omega), rz_OR_sm k3g hs3 (by omega), rz_SR_sm k3i hs3 (by omega)⟩
      have cc := (rz_RP_cos k3).2.1
      simp only [↓ri_97_77, ↓ri_97_78, ↓ri_97_79, ↓ri_97_82, ↓ri_97_85, ↓ri_97_86, ↓ri_97_87, ↓ri_97_90, ↓ri_97_91, ↓ri_97_92, ↓ri_97_95, ↓ri_97_96, ↓ri_97_99, ↓ri_97_100, ↓ri_97_103, Option.some.injEq, Prod.mk.injEq, exists_eq_left', exists_eq', exists_and_left, exists_and_right, true_and, and_true, true_or, or_true, and_self, and_assoc, Option.toList_some, Option.toList_none, List.cons_append, List.nil_append, ↓reduceIte, rz_x01, rz_x10, rz_fv_pf, rz_av_pf, rz_qv_pf, rz_ln_pf, rz_co_pf, rz_fv_pa, rz_av_pa, rz_qv_pa, rz_ln_pa, rz_co_pa, rz_fv_pq, rz_av_pq, rz_qv_pq, rz_ln_pq, rz_co_pq, Nat.reduceEqDiff, Nat.add_eq_left, Nat.left_eq_add, Nat.one_ne_zero, Option.map_some, exists_const, ee, ↓if_neg z1, f8, f9, f0, f1, cc]
      refine c_T_copyFrom (d := d + 2) k4.2.1 k4.2.2.1 (by omega) (fun h5 k5 hs5 => ?_)
      simp only [↓ri_97_106, ↓ri_97_108, Option.some.injEq, Prod.mk.injEq, exists_eq_left', exists_eq', exists_and_left, exists_and_right, true_and, and_true, true_or, or_true, and_self, and_assoc, Option.toList_some, Option.toList_none, List.cons_append, List.nil_append, ↓reduceIte, rz_x01, rz_x10]
      exact kk2 _ i _ nw hpw (rz_RP_nw k4 k5 hs5) (((hs.tr (hs2.wd (by omega) (by omega))).tr (hs3.wd (by omega) (by omega))).tr (hs5.wd (by omega) (by omega)))
    · rw [if_neg he] at hpw
      have ee := fun R => (c_C_isError (d := d + 5) (hp := h2) (R := R)).2 he
      simp only [↓ri_97_77, ↓ri_97_78, ↓ri_97_79, ↓ri_97_82, ↓ri_97_85, ↓ri_97_86, ↓ri_97_87, ↓ri_97_90, ↓ri_97_91, ↓ri_97_92, ↓ri_97_95, ↓ri_97_96, ↓ri_97_99, ↓ri_97_100, ↓ri_97_103, ↓ri_97_106, ↓ri_97_108, ↓ri_97_109, ↓ri_97_112, Option.some.injEq, Prod.mk.injEq, exists_eq_left', exists_eq', exists_and_left, exists_and_right, true_and, and_true, true_or, or_true, and_self, and_assoc, Option.toList_some, Option.toList_none, List.cons_append, List.nil_append, ↓reduceIte, rz_x01, rz_x10, ee, nI_1]
      exact ih _ h2 _ hpw (rz_I0_do hI) k3 (hs.tr (hs2.wd (by omega) (by omega)))
theorem rz_rt_pos {tx : List Int32} {n i : Nat} {l : List rz_Or} (h : (rz_rt tx (n + 1) i l).1 = none) : 0 < (rz_rt tx (n + 1) i l).2.length := by
  have mono : ∀ (n i : Nat) (l : List rz_Or), l.length ≤ (rz_rt tx n i l).2.length := by
    intro n
    induction n with
    | zero => intro i l; exact Nat.le_refl _
    | succ n ih =>
      intro i l
      unfold rz_rt
      split
      · exact Nat.le_refl _
      · split
        · simp
        · split
          · refine Nat.le_trans ?_ (ih _ _)
            simp
          · simp
  unfold rz_rt at h ⊢
  split at h
  · cases h
  · split at h
    · next h1 => rw [if_pos h1]; simp
    · next h1 =>
      rw [if_neg h1]
      split at h
      · next h2 =>
        rw [if_pos h2]
        refine Nat.lt_of_lt_of_le ?_ (mono _ _ _)
        simp
      · cases h
set_option maxHeartbeats 4000000 in
set_option maxRecDepth 100000 in
theorem c_C_perform (hI : rz_I0 nw) (h : rz_RP o nw bf sn hist tx os pl ss tk ro re hp) (kk0 : ∀ hp' os' pl' j, (rz_rt tx 30 0 []).1 = some j → rz_RP o nw bf sn hist tx os' pl' ss tk ro re hp' → rz_sm o (o + 115) hp hp' → R (some (.int (-100 - nI j))) hp')
    (kk1 : ∀ hp' pl' nw', (rz_rt tx 30 0 []).1 = none → rz_pw (rz_rt tx 30 0 []).2 0 nw = (none, nw') → rz_RP o nw' nw sn (rz_rec hist nw) tx (rz_rt tx 30 0 []).2 pl' ss tk ro re hp' → rz_sm o (o + 115) hp hp' → R (some (.int (nI (rz_rt tx 30 0 []).2.length))) hp')
    (kk2 : ∀ hp' pl' i er nw', (rz_rt tx 30 0 []).1 = none → rz_pw (rz_rt tx 30 0 []).2 0 nw = (some (i, er), nw') → rz_RP o nw nw sn hist tx (rz_rt tx 30 0 []).2 pl' ss tk (nI i) er hp' → rz_sm o (o + 115) hp hp' → R (some (.int (-4))) hp') : rz_ev (d + 6) 97 0 [some (.ref o), none, none, none] [] hp R := by
  obtain ⟨c0, c1, c2, c3, c4, c5, c6, c7⟩ := rz_RP_cos h
  obtain ⟨p0, p1, p2, p3, p4, p5, p6, p7, p8, p9⟩ := id h.1
  simp only [↓ri_97_0, ↓ri_97_1, ↓ri_97_4, ↓ri_97_5, ↓ri_97_8, Option.some.injEq, Prod.mk.injEq, exists_eq_left', exists_eq', exists_and_left, exists_and_right, true_and, and_true, true_or, or_true, and_self, and_assoc, Option.toList_some, Option.toList_none, List.cons_append, List.nil_append, ↓reduceIte, rz_x01, rz_x10, p4, p5, c6]
  refine c_O_readFrom (d := d + 1) (by omega) h.2.2.2.2.2.1 h.2.2.2.2.2.2.1 (fun h1 pl1 k1 hs1 => ?_)
  have k2 := rz_RP_or h k1 hs1
  obtain ⟨f0, f1, f2, f3, f4, f5, f6, f7⟩ := rz_RP_cos k2
  obtain ⟨q0, q1, q2, q3, q4, q5, q6, q7, q8, q9⟩ := id k2.1
  cases hx : (rz_rt tx 30 0 []).1 with
  | some j =>
    have hj : ∀ n i l k, i ≤ tx.length → (rz_rt tx n i l).1 = some k → k ≤ tx.length := by
      intro n
      induction n with
      | zero => intro i l k hi hk; cases hk; exact hi
      | succ n ih =>
        intro i l k hi hk
        have hro := rz_ro_le hi
        unfold rz_rt at hk
        split at hk
        · next m e => rw [e] at hro; cases hk; exact hro
        · next o2 m e =>
          rw [e] at hro
          split at hk
          · cases hk
          · split at hk
            · next h44 => exact ih _ _ _ (rz_sg_in (by rw [h44]; decide)) hk
            · cases hk; exact hro
    have hj2 := hj 30 0 [] j (Nat.zero_le _) hx
    have htx := h.2.2.2.2.2.1.1
    have z1 : ¬ nI j = -1 := fun q => nI_pos (show j < 2 ^ 31 by omega) (by rw [q]; decide)
    simp only [↓ri_97_11, ↓ri_97_12, ↓ri_97_13, ↓ri_97_14, ↓ri_97_17, ↓ri_97_19, ↓ri_97_20, ↓ri_97_21, ↓ri_97_22, ↓ri_97_23, ↓ri_97_26, ↓ri_97_27, ↓ri_97_30, ↓ri_97_33, Option.some.injEq, Prod.mk.injEq, exists_eq_left', exists_eq', exists_and_left, exists_and_right, true_and, and_true, true_or, or_true, and_self, and_assoc, Option.toList_some, Option.toList_none, List.cons_append, List.nil_append, ↓reduceIte, rz_x01, rz_x10, rz_oi, ↓if_neg z1]
    exact kk0 _ _ _ j hx k2 (hs1.wd (by omega) (by omega))
  | none =>
    simp only [↓ri_97_11, ↓ri_97_12, ↓ri_97_13, ↓ri_97_14, ↓ri_97_17, ↓ri_97_19, ↓ri_97_20, ↓ri_97_21, ↓ri_97_22, ↓ri_97_23, ↓ri_97_26, ↓ri_97_27, ↓ri_97_30, ↓ri_97_33, Option.some.injEq, Prod.mk.injEq, exists_eq_left', exists_eq', exists_and_left, exists_and_right, true_and, and_true, true_or, or_true, and_self, and_assoc, Option.toList_some, Option.toList_none, List.cons_append, List.nil_append, ↓reduceIte, rz_x01, rz_x10, rz_oi, q0, q1, f2]
    refine c_C_bf (d := d + 2) k2 (fun h3 k3 hs3 => ?_)
    simp only [↓ri_97_33, ↓ri_97_34, Option.some.injEq, Prod.mk.injEq, exists_eq_left', exists_eq', exists_and_left, exists_and_right, true_and, and_true, true_or, or_true, and_self, and_assoc, Option.toList_some, Option.toList_none, List.cons_append, List.nil_append, ↓reduceIte, rz_x01, rz_x10]
    have hs13 := (hs1.wd (lo2 := o) (hi2 := o + 115) (by omega) (by omega)).tr hs3
    have := c_C_perform_loop (d := d) (o := o) (bf := nw) (sn := sn) (hist := hist) (tx := tx) (os := (rz_rt tx 30 0 []).2) (pl := pl1) (ss := ss) (tk := tk) (ro := ro) (re := re) (hp := hp) (R := R) (fun hp' nw' g1 g2 g3 => kk1 hp' pl1 nw' hx g1 g2 g3) (fun hp' i er nw' g1 g2 g3 => kk2 hp' pl1 i er nw' hx g1 g2 g3) (rz_rt_pos hx) 0 (Nat.zero_le _) nw h3 none (by rw [List.drop_zero]) hI k3 hs13
    rw [nI_0] at this
    exact this
def rz_refu (what : Int32) (ro re : Int32) : Int32 := if what < 0 ∨ 1 < what then -2 else if re = 0 then -5 else if what = 0 then ro else re
set_option maxHeartbeats 4000000 in
set_option maxRecDepth 100000 in
theorem c_C_refusal {what : Int32} (h : rz_RP o nw bf sn hist tx os pl ss tk ro re hp) : rz_ev d 98 0 [some (.ref o), some (.int what)] [] hp R ↔ R (some (.int (rz_refu what ro re))) hp := by
  obtain ⟨p0, p1, p2, p3, p4, p5, p6, p7, p8, p9⟩ := id h.1
  unfold rz_refu
  by_cases h0 : what < 0
  · simp only [↓ri_98_0, ↓ri_98_1, ↓ri_98_4, ↓ri_98_5, ↓ri_98_6, ↓ri_98_9, ↓ri_98_11, ↓ri_98_12, ↓ri_98_13, ↓ri_98_16, ↓ri_98_19, ↓ri_98_21, ↓ri_98_22, ↓ri_98_23, ↓ri_98_26, ↓ri_98_27, ↓ri_98_30, ↓ri_98_33, ↓ri_98_34, ↓ri_98_37, Option.some.injEq, Prod.mk.injEq, exists_eq_left', exists_eq', exists_and_left, exists_and_right, true_and, and_true, true_or, or_true, and_self, and_assoc, Option.toList_some, Option.toList_none, List.cons_append, List.nil_append, ↓reduceIte, rz_x01, rz_x10, ↓if_pos h0, h0]
  · by_cases h1 : 1 < what
    · simp only [↓ri_98_0, ↓ri_98_1, ↓ri_98_4, ↓ri_98_5, ↓ri_98_6, ↓ri_98_9, ↓ri_98_11, ↓ri_98_12, ↓ri_98_13, ↓ri_98_16, ↓ri_98_19, ↓ri_98_21, ↓ri_98_22, ↓ri_98_23, ↓ri_98_26, ↓ri_98_27, ↓ri_98_30, ↓ri_98_33, ↓ri_98_34, ↓ri_98_37, Option.some.injEq, Prod.mk.injEq, exists_eq_left', exists_eq', exists_and_left, exists_and_right, true_and, and_true, true_or, or_true, and_self, and_assoc, Option.toList_some, Option.toList_none, List.cons_append, List.nil_append, ↓reduceIte, rz_x01, rz_x10, ↓if_neg h0, ↓if_neg (Int32.not_le.mpr h1), h0, h1]
    · by_cases h2 : re = 0
      · simp only [↓ri_98_0, ↓ri_98_1, ↓ri_98_4, ↓ri_98_5, ↓ri_98_6, ↓ri_98_9, ↓ri_98_11, ↓ri_98_12, ↓ri_98_13, ↓ri_98_16, ↓ri_98_19, ↓ri_98_21, ↓ri_98_22, ↓ri_98_23, ↓ri_98_26, ↓ri_98_27, ↓ri_98_30, ↓ri_98_33, ↓ri_98_34, ↓ri_98_37, Option.some.injEq, Prod.mk.injEq, exists_eq_left', exists_eq', exists_and_left, exists_and_right, true_and, and_true, true_or, or_true, and_self, and_assoc, Option.toList_some, Option.toList_none, List.cons_append, List.nil_append, ↓reduceIte, rz_x01, rz_x10, ↓if_neg h0, ↓if_pos (Int32.not_lt.mp h1), h0, h1, p9, ↓if_pos h2, false_or]
      · by_cases h3 : what = 0
        · simp only [↓ri_98_0, ↓ri_98_1, ↓ri_98_4, ↓ri_98_5, ↓ri_98_6, ↓ri_98_9, ↓ri_98_11, ↓ri_98_12, ↓ri_98_13, ↓ri_98_16, ↓ri_98_19, ↓ri_98_21, ↓ri_98_22, ↓ri_98_23, ↓ri_98_26, ↓ri_98_27, ↓ri_98_30, ↓ri_98_33, ↓ri_98_34, ↓ri_98_37, Option.some.injEq, Prod.mk.injEq, exists_eq_left', exists_eq', exists_and_left, exists_and_right, true_and, and_true, true_or, or_true, and_self, and_assoc, Option.toList_some, Option.toList_none, List.cons_append, List.nil_append, ↓reduceIte, rz_x01, rz_x10, ↓if_neg h0, ↓if_pos (Int32.not_lt.mp h1), h0, h1, p8, p9, ↓if_neg h2, false_or, ↓if_pos h3]
        · simp only [↓ri_98_0, ↓ri_98_1, ↓ri_98_4, ↓ri_98_5, ↓ri_98_6, ↓ri_98_9, ↓ri_98_11, ↓ri_98_12, ↓ri_98_13, ↓ri_98_16, ↓ri_98_19, ↓ri_98_21, ↓ri_98_22, ↓ri_98_23, ↓ri_98_26, ↓ri_98_27, ↓ri_98_30, ↓ri_98_33, ↓ri_98_34, ↓ri_98_37, Option.some.injEq, Prod.mk.injEq, exists_eq_left', exists_eq', exists_and_left, exists_and_right, true_and, and_true, true_or, or_true, and_self, and_assoc, Option.toList_some, Option.toList_none, List.cons_append, List.nil_append, ↓reduceIte, rz_x01, rz_x10, ↓if_neg h0, ↓if_pos (Int32.not_lt.mp h1), h0, h1, p8, p9, ↓if_neg h2, false_or, ↓if_neg h3]
set_option maxHeartbeats 4000000 in
set_option maxRecDepth 100000 in
theorem c_C_undo (h : rz_RP o nw bf sn hist tx os pl ss tk ro re hp) (kk : ∀ hp' nw', ((hist = [] ∧ nw' = nw) ∨ hist.getLast? = some nw') → rz_RP o nw' bf sn hist.dropLast tx os pl ss tk ro re hp' → rz_sm o (o + 115) hp hp' → R (some (.int (if hist.length = 0 then -5 else nI (hist.length - 1)))) hp') : rz_ev (d + 5) 99 0 [some (.ref o)] [] hp R := by
  obtain ⟨c0, c1, c2, c3, c4, c5, c6, c7⟩ := rz_RP_cos h
  obtain ⟨⟨p0, p1, p2, p3, p4, p5, p6, p7, p8, p9⟩, b, c, d1, e, f, g, i⟩ := id h
  simp only [↓ri_99_0, ↓ri_99_1, ↓ri_99_4, ↓ri_99_5, ↓ri_99_8, ↓ri_99_11, Option.some.injEq, Prod.mk.injEq, exists_eq_left', exists_eq', exists_and_left, exists_and_right, true_and, and_true, true_or, or_true, and_self, and_assoc, Option.toList_some, Option.toList_none, List.cons_append, List.nil_append, ↓reduceIte, rz_x01, rz_x10, p3, p0, c4]
  refine c_H_giveLatestTo (d := d) e b (by omega) (fun hm h1 t k1 k2 k3 hs1 hs2 => ?_)
  simp only [↓ri_99_0, ↓ri_99_1, ↓ri_99_4, ↓ri_99_5, ↓ri_99_8, ↓ri_99_11, Option.some.injEq, Prod.mk.injEq, exists_eq_left', exists_eq', exists_and_left, exists_and_right, true_and, and_true, true_or, or_true, and_self, and_assoc, Option.toList_some, Option.toList_none, List.cons_append, List.nil_append, ↓reduceIte, rz_x01, rz_x10]
  exact kk _ t k1 (rz_RP_hi (rz_RP_nw h k2 hs1) k3 hs2) ((hs1.wd (by omega) (by omega)).tr (hs2.wd (by omega) (by omega)))
set_option maxHeartbeats 4000000 in
set_option maxRecDepth 100000 in
theorem c_C_keep (h : rz_RP o nw bf sn hist tx os pl ss tk ro re hp) (kk : ∀ hp', rz_RP o nw bf nw hist tx os pl ss 1 ro re hp' → rz_sm o (o + 115) hp hp' → R (some (.int (nI nw.1.length))) hp') : rz_ev (d + 4) 100 0 [some (.ref o)] [] hp R := by
  obtain ⟨c0, c1, c2, c3, c4, c5, c6, c7⟩ := rz_RP_cos h
  obtain ⟨⟨p0, p1, p2, p3, p4, p5, p6, p7, p8, p9⟩, b, c, d1, e, f, g, i⟩ := id h
  simp only [↓ri_100_0, ↓ri_100_1, ↓ri_100_4, ↓ri_100_5, ↓ri_100_8, ↓ri_100_11, ↓ri_100_12, ↓ri_100_13, ↓ri_100_16, ↓ri_100_17, ↓ri_100_20, ↓ri_100_23, ↓ri_100_26, Option.some.injEq, Prod.mk.injEq, exists_eq_left', exists_eq', exists_and_left, exists_and_right, true_and, and_true, true_or, or_true, and_self, and_assoc, Option.toList_some, Option.toList_none, List.cons_append, List.nil_append, ↓reduceIte, rz_x01, rz_x10, p2, p0, c3]
  refine c_T_copyFrom (d := d) d1 b (by omega) (fun h1 k1 hs1 => ?_)
  have k2 := rz_RP_sn h k1 hs1
  obtain ⟨⟨q0, q1, q2, q3, q4, q5, q6, q7, q8, q9⟩, b2, c2', d2, e2, f2, g2, i2⟩ := id k2
  have hs2 : rz_sm o (o + 1) h1 (rz_pf h1 o 7 (.int 1)) := rz_sm_pf (by omega) (by omega)
  have k3 : rz_RP o nw bf nw hist tx os pl ss 1 ro re (rz_pf h1 o 7 (.int 1)) := ⟨by simp only [rz_RF, rz_fv_pf, rz_av_pf, rz_qv_pf, rz_ln_pf, rz_co_pf, rz_fv_pa, rz_av_pa, rz_qv_pa, rz_ln_pa, rz_co_pa, rz_fv_pq, rz_av_pq, rz_qv_pq, rz_ln_pq, rz_co_pq, Nat.reduceEqDiff, Nat.add_eq_left, Nat.left_eq_add, Nat.one_ne_zero, Option.map_some, exists_const, Option.some.injEq, Prod.mk.injEq, exists_eq_left', exists_eq', exists_and_left, exists_and_right, true_and, and_true, true_or, or_true, and_self, and_assoc, Option.toList_some, Option.toList_none, List.cons_append, List.nil_append, ↓reduceIte, rz_x01, rz_x10, q0, q1, q2, q3, q4, q5, q6, q7, q8, q9], rz_ST_sm b2 hs2 (by omega), rz_ST_sm c2' hs2 (by omega), rz_ST_sm d2 hs2 (by omega), rz_HI_sm e2 hs2 (by omega), rz_TX_sm f2 hs2 (by omega), rz_OR_sm g2 hs2 (by omega), rz_SR_sm i2 hs2 (by omega)⟩
  have kf := kk _ k3 ((hs1.wd (by omega) (by omega)).tr (hs2.wd (by omega) (by omega)))
  obtain ⟨L, fl, am, lat, rd, laid, ci, co, tb⟩ := nw
  have hq := fun R => c_P_size (d := d + 3) k3.2.1.2.1 (R := R)
  simp only [↓ri_100_0, ↓ri_100_1, ↓ri_100_4, ↓ri_100_5, ↓ri_100_8, ↓ri_100_11, ↓ri_100_12, ↓ri_100_13, ↓ri_100_16, ↓ri_100_17, ↓ri_100_20, ↓ri_100_23, ↓ri_100_26, Option.some.injEq, Prod.mk.injEq, exists_eq_left', exists_eq', exists_and_left, exists_and_right, true_and, and_true, true_or, or_true, and_self, and_assoc, Option.toList_some, Option.toList_none, List.cons_append, List.nil_append, ↓reduceIte, rz_x01, rz_x10, q7, k3.1.1, k3.2.1.1.1, rz_co_fv k3.2.1.2.1.2.1.1, hq]
  exact kf
set_option maxHeartbeats 4000000 in
set_option maxRecDepth 100000 in
theorem c_C_restore (h : rz_RP o nw bf sn hist tx os pl ss tk ro re hp) (kk0 : tk = 0 → R (some (.int (-5))) hp) (kk : ¬ tk = 0 → ∀ hp', rz_RP o sn nw sn (rz_rec hist nw) tx os pl ss tk ro re hp' → rz_sm o (o + 115) hp hp' → R (some (.int (nI sn.1.length))) hp') : rz_ev (d + 6) 101 0 [some (.ref o)] [] hp R := by
  obtain ⟨c0, c1, c2, c3, c4, c5, c6, c7⟩ := rz_RP_cos h
  obtain ⟨⟨p0, p1, p2, p3, p4, p5, p6, p7, p8, p9⟩, b, c, d1, e, f, g, i⟩ := id h
  by_cases h0 : tk = 0
  · simp only [↓ri_101_0, ↓ri_101_1, ↓ri_101_4, ↓ri_101_7, ↓ri_101_9, ↓ri_101_10, ↓ri_101_11, ↓ri_101_14, ↓ri_101_15, ↓ri_101_18, ↓ri_101_21, ↓ri_101_22, ↓ri_101_25, ↓ri_101_26, ↓ri_101_29, ↓ri_101_32, ↓ri_101_33, ↓ri_101_34, ↓ri_101_37, ↓ri_101_40, ↓ri_101_43, ↓ri_101_46, Option.some.injEq, Prod.mk.injEq, exists_eq_left', exists_eq', exists_and_left, exists_and_right, true_and, and_true, true_or, or_true, and_self, and_assoc, Option.toList_some, Option.toList_none, List.cons_append, List.nil_append, ↓reduceIte, rz_x01, rz_x10, p7, ↓if_pos h0]
    exact kk0 h0
  · simp only [↓ri_101_0, ↓ri_101_1, ↓ri_101_4, ↓ri_101_7, ↓ri_101_9, ↓ri_101_10, ↓ri_101_11, ↓ri_101_14, ↓ri_101_15, ↓ri_101_18, ↓ri_101_21, ↓ri_101_22, ↓ri_101_25, ↓ri_101_26, ↓ri_101_29, ↓ri_101_32, ↓ri_101_33, ↓ri_101_34, ↓ri_101_37, ↓ri_101_40, ↓ri_101_43, ↓ri_101_46, Option.some.injEq, Prod.mk.injEq, exists_eq_left', exists_eq', exists_and_left, exists_and_right, true_and, and_true, true_or, or_true, and_self, and_assoc, Option.toList_some, Option.toList_none, List.cons_append, List.nil_append, ↓reduceIte, rz_x01, rz_x10, p7, ↓if_neg h0, p1, p0, c2]
    refine c_C_bf (d := d + 2) h (fun h1 k1 hs1 => ?_)
    obtain ⟨e0, e1, e2, e3, e4, e5, e6, e7⟩ := rz_RP_cos k1
    obtain ⟨q0, q1, q2, q3, q4, q5, q6, q7, q8, q9⟩ := id k1.1
    simp only [↓ri_101_0, ↓ri_101_1, ↓ri_101_4, ↓ri_101_7, ↓ri_101_9, ↓ri_101_10, ↓ri_101_11, ↓ri_101_14, ↓ri_101_15, ↓ri_101_18, ↓ri_101_21, ↓ri_101_22, ↓ri_101_25, ↓ri_101_26, ↓ri_101_29, ↓ri_101_32, ↓ri_101_33, ↓ri_101_34, ↓ri_101_37, ↓ri_101_40, ↓ri_101_43, ↓ri_101_46, Option.some.injEq, Prod.mk.injEq, exists_eq_left', exists_eq', exists_and_left, exists_and_right, true_and, and_true, true_or, or_true, and_self, and_assoc, Option.toList_some, Option.toList_none, List.cons_append, List.nil_append, ↓reduceIte, rz_x01, rz_x10, q0, q2, e1]
    refine c_T_copyFrom (d := d + 2) k1.2.1 k1.2.2.2.1 (by omega) (fun h2 k2 hs2 => ?_)
    have k3 := rz_RP_nw k1 k2 hs2
    have hnn : ¬ nI sn.1.length < 0 ∧ rz_fv h2 (o + 1) 6 0 = some (.ref (o + 1 + 1)) ∧ rz_co h2 (o + 1 + 1) = some 3 ∧ ∀ R, rz_ev (d + 5) 29 0 [some (.ref (o + 1 + 1))] [] h2 R ↔ R (some (.int (nI sn.1.length))) h2 := by
      obtain ⟨L, fl, am, lat, rd, laid, ci, co, tb⟩ := sn
      have hP := k3.2.1.2.1
      have := hP.1
      exact ⟨nI_pos (by dsimp only; omega), k3.2.1.1.1, rz_co_fv hP.2.1.1, fun R => c_P_size (d := d + 5) hP⟩
    obtain ⟨g0, g1, g2, g3⟩ := hnn
    simp only [↓ri_101_0, ↓ri_101_1, ↓ri_101_4, ↓ri_101_7, ↓ri_101_9, ↓ri_101_10, ↓ri_101_11, ↓ri_101_14, ↓ri_101_15, ↓ri_101_18, ↓ri_101_21, ↓ri_101_22, ↓ri_101_25, ↓ri_101_26, ↓ri_101_29, ↓ri_101_32, ↓ri_101_33, ↓ri_101_34, ↓ri_101_37, ↓ri_101_40, ↓ri_101_43, ↓ri_101_46, Option.some.injEq, Prod.mk.injEq, exists_eq_left', exists_eq', exists_and_left, exists_and_right, true_and, and_true, true_or, or_true, and_self, and_assoc, Option.toList_some, Option.toList_none, List.cons_append, List.nil_append, ↓reduceIte, rz_x01, rz_x10, k3.1.1, (rz_RP_cos k3).1, g1, g2, g3]
    refine c_C_recorded (d := d) k3 (fun h3 k4 hs3 => ?_)
    unfold rz_hs at k4
    rw [if_neg g0] at k4
    simp only [↓ri_101_0, ↓ri_101_1, ↓ri_101_4, ↓ri_101_7, ↓ri_101_9, ↓ri_101_10, ↓ri_101_11, ↓ri_101_14, ↓ri_101_15, ↓ri_101_18, ↓ri_101_21, ↓ri_101_22, ↓ri_101_25, ↓ri_101_26, ↓ri_101_29, ↓ri_101_32, ↓ri_101_33, ↓ri_101_34, ↓ri_101_37, ↓ri_101_40, ↓ri_101_43, ↓ri_101_46, Option.some.injEq, Prod.mk.injEq, exists_eq_left', exists_eq', exists_and_left, exists_and_right, true_and, and_true, true_or, or_true, and_self, and_assoc, Option.toList_some, Option.toList_none, List.cons_append, List.nil_append, ↓reduceIte, rz_x01, rz_x10]
    exact kk h0 _ k4 ((hs1.tr (hs2.wd (by omega) (by omega))).tr hs3)
end RZRS
