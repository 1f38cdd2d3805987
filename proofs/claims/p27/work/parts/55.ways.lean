/-! Three towns by hand, and as many roads as there can be -/
def was0 : rz_E8 := ([], 0, 0, [], 0, 0, 0, 0)
theorem waf0 : rz_search_ (fun _ => -5) 0 0 = 1 := cz_srch0 (by decide) (by decide +kernel)
theorem waf1 : rz_search_ (fun _ => -5) 0 1 = 1 := cz_srch1 (by decide) (by decide +kernel)
theorem waf2 : rz_search_ (fun _ => -5) 0 2 = 0 := cz_srch2 (by decide) (by decide +kernel)
theorem waf3 : rz_search_ (fun _ => -5) 0 3 = 0 := cz_srch3 (by decide) (by decide +kernel)
theorem waf4 : rz_distance_ (fun _ => -5) 0 1 = (-5) := cz_dist (by decide) (by decide +kernel)
def was1 : rz_E8 := ([], 0, 0, [], 1, 0, 0, 0)
def war0 : Nat → Int32 := upd (fun _ => -5) 1 5
theorem waf5 : rz_road_ (cz was0 (fun _ => -5)) 0 1 5 = (1, cz was1 war0) := cz_road_a (ix := 1) (by decide) (by decide) (by decide) (by decide +kernel) (by decide) rfl
def was2 : rz_E8 := ([], 0, 0, [], 2, 0, 0, 0)
def war1 : Nat → Int32 := upd war0 14 5
theorem waf6 : rz_road_ (cz was1 war0) 1 2 5 = (2, cz was2 war1) := cz_road_a (ix := 14) (by decide) (by decide) (by decide) (by decide +kernel) (by decide) rfl
def was3 : rz_E8 := ([], 0, 0, [], 3, 0, 0, 0)
def war2 : Nat → Int32 := upd war1 2 20
theorem waf7 : rz_road_ (cz was2 war1) 0 2 20 = (3, cz was3 war2) := cz_road_a (ix := 2) (by decide) (by decide) (by decide) (by decide +kernel) (by decide) rfl
theorem waf8 : rz_distance_ war2 0 2 = 10 := cz_dist (by decide) (by decide +kernel)
theorem waf9 : rz_distance_ war2 2 0 = (-5) := cz_dist (by decide) (by decide +kernel)
theorem waf10 : rz_search_ war2 0 0 = 3 := cz_srch0 (by decide) (by decide +kernel)
theorem waf11 : rz_search_ war2 0 1 = 4 := cz_srch1 (by decide) (by decide +kernel)
theorem waf12 : rz_search_ war2 0 2 = 3 := cz_srch2 (by decide) (by decide +kernel)
theorem waf13 : rz_search_ war2 0 3 = 10 := cz_srch3 (by decide) (by decide +kernel)
theorem waf14 : rz_roadOf_ war2 0 2 = 20 := cz_roadOf (by decide) (by decide +kernel)
theorem waf15 : rz_roadOf_ war2 2 0 = (-5) := cz_roadOf (by decide) (by decide +kernel)
theorem waf16 : rz_road_ (cz was3 war2) 0 2 20 = (-5, cz was3 war2) := cz_road_c (by decide) (by decide) (by decide +kernel)
def war3 : Nat → Int32 := upd war2 2 9
theorem waf17 : rz_road_ (cz was3 war2) 0 2 9 = (3, cz was3 war3) := cz_road_b (ix := 2) (v := 20) (by decide) (by decide) (by decide) (by decide +kernel) (by decide) (by decide)
theorem waf18 : rz_distance_ war3 0 2 = 9 := cz_dist (by decide) (by decide +kernel)
def war4 : Nat → Int32 := upd war3 2 (-5)
theorem waf19 : rz_unroad_ (cz was3 war3) 0 2 = (9, cz was2 war4) := cz_unroad_a (ix := 2) (l2 := 2) (by decide) (by decide) (by decide +kernel) rfl (by decide)
theorem waf20 : rz_distance_ war4 0 2 = 10 := cz_dist (by decide) (by decide +kernel)
theorem waf21 : rz_unroad_ (cz was2 war4) 0 2 = (-1, cz was2 war4) := rz_unroad_none (cz_tw (by decide)) (by decide +kernel)
theorem waf22 : ∀ hn tn : Nat, rz_count_ (cz was2 war4) hn tn 6 = 2 := fun hn tn => rz_count_w (by decide) (by decide) (by decide +kernel)
theorem waf23 : ∀ hn tn : Nat, rz_count_ (cz was2 war4) hn tn 3 = 0 := fun hn tn => rz_count_w (by decide) (by decide) (by decide +kernel)
def war5 : Nat → Int32 := upd war4 1 (-5)
theorem waf24 : rz_unroad_ (cz was2 war4) 0 1 = (5, cz was1 war5) := cz_unroad_a (ix := 1) (l2 := 1) (by decide) (by decide) (by decide +kernel) rfl (by decide)
def war6 : Nat → Int32 := upd war5 14 (-5)
theorem waf25 : rz_unroad_ (cz was1 war5) 1 2 = (5, cz was0 war6) := cz_unroad_a (ix := 14) (l2 := 0) (by decide) (by decide) (by decide +kernel) rfl (by decide)
set_option maxHeartbeats 4000000 in
set_option maxRecDepth 100000 in
theorem wa_A {d o : Nat} {hp : rz_Hp} {R : Option Value → rz_Hp → Prop} {l1 l2 : Option Value} (h : rz_OJ o (cz was0 (fun _ => -5)) rz_st0 [] [] 0 0 0 hp) (kk : ∀ hp', rz_OJ o (cz was0 war6) rz_st0 (rz_rec (rz_rec (rz_rec (rz_rec (rz_rec (rz_rec (rz_rec [] (cz was0 (fun _ => -5))) (cz was1 war0)) (cz was2 war1)) (cz was3 war2)) (cz was3 war3)) (cz was2 war4)) (cz was1 war5)) [] 0 0 0 hp' → rz_sm o (o + 115) hp hp' → rz_ev (d + 9) 123 284 [some (.ref o), l1, l2] [] hp' R) : rz_ev (d + 9) 123 8 [some (.ref o), l1, l2] [] hp R := by
  have hc := h.co
  simp only [↓ri_123_8, ↓ri_123_9, ↓ri_123_10, ↓ri_123_11, Option.some.injEq, Prod.mk.injEq, exists_eq_left', exists_eq', exists_and_left, exists_and_right, true_and, and_true, true_or, or_true, and_self, and_assoc, Option.toList_some, Option.toList_none, List.cons_append, List.nil_append, ↓reduceIte, rz_x01, rz_x10, hc]
  refine q_search (d := d + 2) h (fun hp0 h0 s0 => ?_)
  rw [show rz_search_ (cz was0 (fun _ => -5)).2.2.2.2.1 0 0 = 1 from waf0]
  clear hc
  have hc := h0.co
  simp only [↓ri_123_14, ↓ri_123_15, ↓ri_123_18, ↓ri_123_19, ↓ri_123_20, ↓ri_123_21, Option.some.injEq, Prod.mk.injEq, exists_eq_left', exists_eq', exists_and_left, exists_and_right, true_and, and_true, true_or, or_true, and_self, and_assoc, Option.toList_some, Option.toList_none, List.cons_append, List.nil_append, ↓reduceIte, rz_x01, rz_x10, hc]
  refine q_search (d := d + 2) h0 (fun hp1 h1 s1 => ?_)
  rw [show rz_search_ (cz was0 (fun _ => -5)).2.2.2.2.1 0 1 = 1 from waf1]
  clear hc
  have hc := h1.co
  simp only [↓ri_123_24, ↓ri_123_25, ↓ri_123_28, ↓ri_123_29, ↓ri_123_30, ↓ri_123_31, Option.some.injEq, Prod.mk.injEq, exists_eq_left', exists_eq', exists_and_left, exists_and_right, true_and, and_true, true_or, or_true, and_self, and_assoc, Option.toList_some, Option.toList_none, List.cons_append, List.nil_append, ↓reduceIte, rz_x01, rz_x10, hc]
  refine q_search (d := d + 2) h1 (fun hp2 h2 s2 => ?_)
  rw [show rz_search_ (cz was0 (fun _ => -5)).2.2.2.2.1 0 2 = 0 from waf2]
  clear hc
  have hc := h2.co
  simp only [↓ri_123_34, ↓ri_123_37, ↓ri_123_38, ↓ri_123_39, ↓ri_123_40, Option.some.injEq, Prod.mk.injEq, exists_eq_left', exists_eq', exists_and_left, exists_and_right, true_and, and_true, true_or, or_true, and_self, and_assoc, Option.toList_some, Option.toList_none, List.cons_append, List.nil_append, ↓reduceIte, rz_x01, rz_x10, hc]
  refine q_search (d := d + 2) h2 (fun hp3 h3 s3 => ?_)
  rw [show rz_search_ (cz was0 (fun _ => -5)).2.2.2.2.1 0 3 = 0 from waf3]
  clear hc
  have hc := h3.co
  simp only [↓ri_123_43, ↓ri_123_46, ↓ri_123_47, ↓ri_123_48, ↓ri_123_49, Option.some.injEq, Prod.mk.injEq, exists_eq_left', exists_eq', exists_and_left, exists_and_right, true_and, and_true, true_or, or_true, and_self, and_assoc, Option.toList_some, Option.toList_none, List.cons_append, List.nil_append, ↓reduceIte, rz_x01, rz_x10, hc]
  refine q_distance (d := d + 2) h3 (fun hp4 h4 s4 => ?_)
  rw [show rz_distance_ (cz was0 (fun _ => -5)).2.2.2.2.1 0 1 = (-5) from waf4]
  clear hc
  have hc := h4.co
  simp only [↓ri_123_52, ↓ri_123_54, ↓ri_123_57, ↓ri_123_58, ↓ri_123_59, ↓ri_123_60, ↓ri_123_61, Option.some.injEq, Prod.mk.injEq, exists_eq_left', exists_eq', exists_and_left, exists_and_right, true_and, and_true, true_or, or_true, and_self, and_assoc, Option.toList_some, Option.toList_none, List.cons_append, List.nil_append, ↓reduceIte, rz_x01, rz_x10, hc]
  refine q_road_y (d := d + 2) h4 waf5 (by decide) (fun hp5 h5 s5 => ?_)
  clear hc
  have hc := h5.co
  simp only [↓ri_123_64, ↓ri_123_65, ↓ri_123_68, ↓ri_123_69, ↓ri_123_70, ↓ri_123_71, ↓ri_123_72, Option.some.injEq, Prod.mk.injEq, exists_eq_left', exists_eq', exists_and_left, exists_and_right, true_and, and_true, true_or, or_true, and_self, and_assoc, Option.toList_some, Option.toList_none, List.cons_append, List.nil_append, ↓reduceIte, rz_x01, rz_x10, hc]
  refine q_road_y (d := d + 2) h5 waf6 (by decide) (fun hp6 h6 s6 => ?_)
  clear hc
  have hc := h6.co
  simp only [↓ri_123_75, ↓ri_123_76, ↓ri_123_79, ↓ri_123_80, ↓ri_123_81, ↓ri_123_82, ↓ri_123_84, Option.some.injEq, Prod.mk.injEq, exists_eq_left', exists_eq', exists_and_left, exists_and_right, true_and, and_true, true_or, or_true, and_self, and_assoc, Option.toList_some, Option.toList_none, List.cons_append, List.nil_append, ↓reduceIte, rz_x01, rz_x10, hc]
  refine q_road_y (d := d + 2) h6 waf7 (by decide) (fun hp7 h7 s7 => ?_)
  clear hc
  have hc := h7.co
  simp only [↓ri_123_87, ↓ri_123_88, ↓ri_123_91, ↓ri_123_92, ↓ri_123_93, ↓ri_123_94, Option.some.injEq, Prod.mk.injEq, exists_eq_left', exists_eq', exists_and_left, exists_and_right, true_and, and_true, true_or, or_true, and_self, and_assoc, Option.toList_some, Option.toList_none, List.cons_append, List.nil_append, ↓reduceIte, rz_x01, rz_x10, hc]
  refine q_distance (d := d + 2) h7 (fun hp8 h8 s8 => ?_)
  rw [show rz_distance_ (cz was3 war2).2.2.2.2.1 0 2 = 10 from waf8]
  clear hc
  have hc := h8.co
  simp only [↓ri_123_97, ↓ri_123_99, ↓ri_123_102, ↓ri_123_103, ↓ri_123_104, ↓ri_123_105, Option.some.injEq, Prod.mk.injEq, exists_eq_left', exists_eq', exists_and_left, exists_and_right, true_and, and_true, true_or, or_true, and_self, and_assoc, Option.toList_some, Option.toList_none, List.cons_append, List.nil_append, ↓reduceIte, rz_x01, rz_x10, hc]
  refine q_distance (d := d + 2) h8 (fun hp9 h9 s9 => ?_)
  rw [show rz_distance_ (cz was3 war2).2.2.2.2.1 2 0 = (-5) from waf9]
  clear hc
  have hc := h9.co
  simp only [↓ri_123_108, ↓ri_123_110, ↓ri_123_113, ↓ri_123_114, ↓ri_123_115, ↓ri_123_116, Option.some.injEq, Prod.mk.injEq, exists_eq_left', exists_eq', exists_and_left, exists_and_right, true_and, and_true, true_or, or_true, and_self, and_assoc, Option.toList_some, Option.toList_none, List.cons_append, List.nil_append, ↓reduceIte, rz_x01, rz_x10, hc]
  refine q_search (d := d + 2) h9 (fun hp10 h10 s10 => ?_)
  rw [show rz_search_ (cz was3 war2).2.2.2.2.1 0 0 = 3 from waf10]
  clear hc
  have hc := h10.co
  simp only [↓ri_123_119, ↓ri_123_120, ↓ri_123_123, ↓ri_123_124, ↓ri_123_125, ↓ri_123_126, Option.some.injEq, Prod.mk.injEq, exists_eq_left', exists_eq', exists_and_left, exists_and_right, true_and, and_true, true_or, or_true, and_self, and_assoc, Option.toList_some, Option.toList_none, List.cons_append, List.nil_append, ↓reduceIte, rz_x01, rz_x10, hc]
  refine q_search (d := d + 2) h10 (fun hp11 h11 s11 => ?_)
  rw [show rz_search_ (cz was3 war2).2.2.2.2.1 0 1 = 4 from waf11]
  clear hc
  have hc := h11.co
  simp only [↓ri_123_129, ↓ri_123_130, ↓ri_123_133, ↓ri_123_134, ↓ri_123_135, ↓ri_123_136, Option.some.injEq, Prod.mk.injEq, exists_eq_left', exists_eq', exists_and_left, exists_and_right, true_and, and_true, true_or, or_true, and_self, and_assoc, Option.toList_some, Option.toList_none, List.cons_append, List.nil_append, ↓reduceIte, rz_x01, rz_x10, hc]
  refine q_search (d := d + 2) h11 (fun hp12 h12 s12 => ?_)
  rw [show rz_search_ (cz was3 war2).2.2.2.2.1 0 2 = 3 from waf12]
  clear hc
  have hc := h12.co
  simp only [↓ri_123_139, ↓ri_123_140, ↓ri_123_143, ↓ri_123_144, ↓ri_123_145, ↓ri_123_146, Option.some.injEq, Prod.mk.injEq, exists_eq_left', exists_eq', exists_and_left, exists_and_right, true_and, and_true, true_or, or_true, and_self, and_assoc, Option.toList_some, Option.toList_none, List.cons_append, List.nil_append, ↓reduceIte, rz_x01, rz_x10, hc]
  refine q_search (d := d + 2) h12 (fun hp13 h13 s13 => ?_)
  rw [show rz_search_ (cz was3 war2).2.2.2.2.1 0 3 = 10 from waf13]
  clear hc
  have hc := h13.co
  have b0 := fun (R : Option Value → rz_Hp → Prop) => (q_roadOf (d := d + 6) (x := 0) (y := 2) h13 (R := R)).trans (by rw [show rz_roadOf_ (cz was3 war2).2.2.2.2.1 0 2 = 20 from waf14])
  have b1 := fun (R : Option Value → rz_Hp → Prop) => (q_roadOf (d := d + 6) (x := 2) (y := 0) h13 (R := R)).trans (by rw [show rz_roadOf_ (cz was3 war2).2.2.2.2.1 2 0 = (-5) from waf15])
  simp only [↓ri_123_149, ↓ri_123_151, ↓ri_123_154, ↓ri_123_155, ↓ri_123_156, ↓ri_123_157, ↓ri_123_160, ↓ri_123_162, ↓ri_123_165, ↓ri_123_166, ↓ri_123_167, ↓ri_123_168, ↓ri_123_171, ↓ri_123_173, ↓ri_123_176, ↓ri_123_177, ↓ri_123_178, ↓ri_123_179, ↓ri_123_181, Option.some.injEq, Prod.mk.injEq, exists_eq_left', exists_eq', exists_and_left, exists_and_right, true_and, and_true, true_or, or_true, and_self, and_assoc, Option.toList_some, Option.toList_none, List.cons_append, List.nil_append, ↓reduceIte, rz_x01, rz_x10, hc, b0, b1]
  refine q_road_n (d := d + 2) h13 waf16 (by decide) (fun hp14 h14 s14 => ?_)
  clear hc
  have hc := h14.co
  simp only [↓ri_123_184, ↓ri_123_186, ↓ri_123_189, ↓ri_123_190, ↓ri_123_191, ↓ri_123_192, ↓ri_123_194, Option.some.injEq, Prod.mk.injEq, exists_eq_left', exists_eq', exists_and_left, exists_and_right, true_and, and_true, true_or, or_true, and_self, and_assoc, Option.toList_some, Option.toList_none, List.cons_append, List.nil_append, ↓reduceIte, rz_x01, rz_x10, hc]
  refine q_road_y (d := d + 2) h14 waf17 (by decide) (fun hp15 h15 s15 => ?_)
  clear hc
  have hc := h15.co
  simp only [↓ri_123_197, ↓ri_123_198, ↓ri_123_201, ↓ri_123_202, ↓ri_123_203, ↓ri_123_204, Option.some.injEq, Prod.mk.injEq, exists_eq_left', exists_eq', exists_and_left, exists_and_right, true_and, and_true, true_or, or_true, and_self, and_assoc, Option.toList_some, Option.toList_none, List.cons_append, List.nil_append, ↓reduceIte, rz_x01, rz_x10, hc]
  refine q_distance (d := d + 2) h15 (fun hp16 h16 s16 => ?_)
  rw [show rz_distance_ (cz was3 war3).2.2.2.2.1 0 2 = 9 from waf18]
  clear hc
  have hc := h16.co
  simp only [↓ri_123_207, ↓ri_123_209, ↓ri_123_212, ↓ri_123_213, ↓ri_123_214, ↓ri_123_215, Option.some.injEq, Prod.mk.injEq, exists_eq_left', exists_eq', exists_and_left, exists_and_right, true_and, and_true, true_or, or_true, and_self, and_assoc, Option.toList_some, Option.toList_none, List.cons_append, List.nil_append, ↓reduceIte, rz_x01, rz_x10, hc]
  refine q_unroad_y (d := d + 2) h16 waf19 (by decide) (fun hp17 h17 s17 => ?_)
  clear hc
  have hc := h17.co
  simp only [↓ri_123_218, ↓ri_123_220, ↓ri_123_223, ↓ri_123_224, ↓ri_123_225, ↓ri_123_226, Option.some.injEq, Prod.mk.injEq, exists_eq_left', exists_eq', exists_and_left, exists_and_right, true_and, and_true, true_or, or_true, and_self, and_assoc, Option.toList_some, Option.toList_none, List.cons_append, List.nil_append, ↓reduceIte, rz_x01, rz_x10, hc]
  refine q_distance (d := d + 2) h17 (fun hp18 h18 s18 => ?_)
  rw [show rz_distance_ (cz was2 war4).2.2.2.2.1 0 2 = 10 from waf20]
  clear hc
  have hc := h18.co
  simp only [↓ri_123_229, ↓ri_123_231, ↓ri_123_234, ↓ri_123_235, ↓ri_123_236, ↓ri_123_237, Option.some.injEq, Prod.mk.injEq, exists_eq_left', exists_eq', exists_and_left, exists_and_right, true_and, and_true, true_or, or_true, and_self, and_assoc, Option.toList_some, Option.toList_none, List.cons_append, List.nil_append, ↓reduceIte, rz_x01, rz_x10, hc]
  refine q_unroad_n (d := d + 2) h18 waf21 (by decide) (fun hp19 h19 s19 => ?_)
  clear hc
  have hc := h19.co
  have b2 := fun (R : Option Value → rz_Hp → Prop) => (q_count (d := d + 4) (what := 6) h19 (R := R)).trans (by rw [waf22])
  have b3 := fun (R : Option Value → rz_Hp → Prop) => (q_count (d := d + 4) (what := 3) h19 (R := R)).trans (by rw [waf23])
  simp only [↓ri_123_240, ↓ri_123_241, ↓ri_123_244, ↓ri_123_245, ↓ri_123_247, ↓ri_123_250, ↓ri_123_251, ↓ri_123_254, ↓ri_123_255, ↓ri_123_256, ↓ri_123_259, ↓ri_123_262, ↓ri_123_263, ↓ri_123_264, ↓ri_123_265, Option.some.injEq, Prod.mk.injEq, exists_eq_left', exists_eq', exists_and_left, exists_and_right, true_and, and_true, true_or, or_true, and_self, and_assoc, Option.toList_some, Option.toList_none, List.cons_append, List.nil_append, ↓reduceIte, rz_x01, rz_x10, hc, b2, b3]
  refine q_unroad_y (d := d + 2) h19 waf24 (by decide) (fun hp20 h20 s20 => ?_)
  clear hc
  have hc := h20.co
  simp only [↓ri_123_268, ↓ri_123_269, ↓ri_123_272, ↓ri_123_273, ↓ri_123_274, ↓ri_123_275, Option.some.injEq, Prod.mk.injEq, exists_eq_left', exists_eq', exists_and_left, exists_and_right, true_and, and_true, true_or, or_true, and_self, and_assoc, Option.toList_some, Option.toList_none, List.cons_append, List.nil_append, ↓reduceIte, rz_x01, rz_x10, hc]
  refine q_unroad_y (d := d + 2) h20 waf25 (by decide) (fun hp21 h21 s21 => ?_)
  clear hc
  have hc := h21.co
  simp only [↓ri_123_278, ↓ri_123_279, ↓ri_123_282, ↓ri_123_283, Option.some.injEq, Prod.mk.injEq, exists_eq_left', exists_eq', exists_and_left, exists_and_right, true_and, and_true, true_or, or_true, and_self, and_assoc, Option.toList_some, Option.toList_none, List.cons_append, List.nil_append, ↓reduceIte, rz_x01, rz_x10, hc]
  exact kk _ h21 (((((((((((((((((((((s0.tr s1).tr s2).tr s3).tr s4).tr s5).tr s6).tr s7).tr s8).tr s9).tr s10).tr s11).tr s12).tr s13).tr s14).tr s15).tr s16).tr s17).tr s18).tr s19).tr s20).tr s21)
def wl_rd : Nat → Nat → Int32
  | 0 => war6
  | k + 1 => if k / 12 = k % 12 then wl_rd k else upd (wl_rd k) k 999
def wl_m : Nat → Nat
  | 0 => 0
  | k + 1 => if k / 12 = k % 12 then wl_m k else wl_m k + 1
def wl_S (k : Nat) : rz_E8 := (was0.1, was0.2.1, was0.2.2.1, was0.2.2.2.1, nI (wl_m k), was0.2.2.2.2.2)
theorem wl_f1 : ∀ k, k < 44 → wl_rd k k = -5 := by decide +kernel
theorem wl_f2 : ∀ k, k < 44 → wl_m k < 40 := by decide +kernel
theorem wl_f3 : wl_m 44 = 40 := by decide +kernel
section WL
variable {d o : Nat} {hp : rz_Hp} {R : Option Value → rz_Hp → Prop}
set_option maxHeartbeats 4000000 in
set_option maxRecDepth 100000 in
theorem wl_loop (kk : ∀ hist hp1, rz_OJ o (cz (wl_S 44) (wl_rd 44)) rz_st0 hist [] 0 0 0 hp1 → rz_sm o (o + 115) hp hp1 → rz_ev (d + 9) 123 338 [some (.ref o), some (.int (nI (wl_m 44))), some (.int (nI 44))] [] hp1 R) : ∀ k, k ≤ 44 → ∀ hist hp1, rz_OJ o (cz (wl_S k) (wl_rd k)) rz_st0 hist [] 0 0 0 hp1 → rz_sm o (o + 115) hp hp1 → rz_ev (d + 9) 123 288 [some (.ref o), some (.int (nI (wl_m k))), some (.int (nI k))] [] hp1 R := by
  refine rz_down 44 ?_ ?_
  · intro hist hp1 h s
    have c1 : (40 : Int32) ≤ nI (wl_m 44) := by rw [wl_f3]; decide
    rw [ri_123_288]
    simp only [↓ri_123_289, ↓ri_123_291, Option.some.injEq, Prod.mk.injEq, exists_eq_left', exists_eq', exists_and_left, exists_and_right, true_and, and_true, true_or, or_true, and_self, and_assoc, Option.toList_some, Option.toList_none, List.cons_append, List.nil_append, ↓reduceIte, rz_x01, rz_x10, ↓if_pos c1]
    exact kk hist hp1 h s
  · intro k hk ih hist hp1 h s
    have c1 : ¬ (40 : Int32) ≤ nI (wl_m k) := nI_ge (b := 40) (wl_f2 k hk) (by decide)
    have hc := h.co
    have eD : nI k / 12 = nI (k / 12) := pk_div (d := 12) (by omega) (by decide) (by decide)
    have eR : nI k - nI k / 12 * 12 = nI (k % 12) := pk_rem (d := 12) (by omega) (by decide) (by decide)
    rw [eD] at eR
    have c12 : ¬ (12 : Int32) = 0 := by decide
    rw [ri_123_288]
    by_cases hd : k / 12 = k % 12
    · have e1 : wl_rd (k + 1) = wl_rd k := if_pos hd
      have e2 : wl_m (k + 1) = wl_m k := if_pos hd
      have e3 : wl_S (k + 1) = wl_S k := by unfold wl_S; rw [e2]
      rw [e1, e2, e3] at ih
      simp only [↓ri_123_289, ↓ri_123_291, ↓ri_123_294, ↓ri_123_295, ↓ri_123_297, ↓ri_123_298, ↓ri_123_299, ↓ri_123_301, ↓ri_123_302, ↓ri_123_305, ↓ri_123_332, ↓ri_123_335, Option.some.injEq, Prod.mk.injEq, exists_eq_left', exists_eq', exists_and_left, exists_and_right, true_and, and_true, true_or, or_true, and_self, and_assoc, Option.toList_some, Option.toList_none, List.cons_append, List.nil_append, ↓reduceIte, rz_x01, rz_x10, ↓if_neg c1, eD, eR, c12, not_false_eq_true, ↓if_pos (congrArg nI hd), nI_1]
      exact ih hist hp1 h s
    · have e1 : wl_rd (k + 1) = upd (wl_rd k) k 999 := if_neg hd
      have e2 : wl_m (k + 1) = wl_m k + 1 := if_neg hd
      have hne : ¬ nI (k / 12) = nI (k % 12) := fun q => hd ((nI_eq (by omega) (by omega)).mp q)
      rw [e1, e2] at ih
      have t1 : rz_town (nI (k / 12)) := rz_town_nI (by omega)
      have t2 : rz_town (nI (k % 12)) := rz_town_nI (by omega)
      have hix : rz_ix (nI (k / 12)) (nI (k % 12)) = k := by
        unfold rz_ix
        rw [nI_clamp (by omega), nI_clamp (by omega)]
        omega
      have er := cz_road_a (S := wl_S k) (S' := wl_S (k + 1)) (rd := wl_rd k) (x := nI (k / 12)) (y := nI (k % 12)) (len := 999) (r := nI (wl_m k + 1)) (ix := k) ⟨t1.1, t1.2, t2.1, t2.2⟩ (fun q => by rcases q with q | q | q; exact absurd q (by decide); exact absurd q (by decide); exact hne q) hix ⟨wl_f1 k hk, c1, nI_1 _⟩ (by decide) (by unfold wl_S; rw [e2])
      simp only [↓ri_123_289, ↓ri_123_291, ↓ri_123_294, ↓ri_123_295, ↓ri_123_297, ↓ri_123_298, ↓ri_123_299, ↓ri_123_301, ↓ri_123_302, ↓ri_123_308, ↓ri_123_311, ↓ri_123_312, ↓ri_123_313, ↓ri_123_315, ↓ri_123_316, ↓ri_123_317, ↓ri_123_319, ↓ri_123_320, ↓ri_123_323, Option.some.injEq, Prod.mk.injEq, exists_eq_left', exists_eq', exists_and_left, exists_and_right, true_and, and_true, true_or, or_true, and_self, and_assoc, Option.toList_some, Option.toList_none, List.cons_append, List.nil_append, ↓reduceIte, rz_x01, rz_x10, ↓if_neg c1, eD, eR, c12, not_false_eq_true, ↓if_neg hne, nI_1, hc]
      refine q_road_y (d := d + 2) h er (nI_pos (by have := wl_f2 k hk; omega)) (fun hp2 h2 s2 => ?_)
      simp only [↓ri_123_326, ↓ri_123_327, ↓ri_123_330, ↓ri_123_331, ↓ri_123_332, ↓ri_123_335, Option.some.injEq, Prod.mk.injEq, exists_eq_left', exists_eq', exists_and_left, exists_and_right, true_and, and_true, true_or, or_true, and_self, and_assoc, Option.toList_some, Option.toList_none, List.cons_append, List.nil_append, ↓reduceIte, rz_x01, rz_x10, nI_1]
      exact ih _ hp2 h2 (s.tr s2)
end WL
def wbs0 : rz_E8 := ([], 0, 0, [], 40, 0, 0, 0)
theorem wbf0 : rz_road_ (cz wbs0 (wl_rd 44)) 11 0 5 = (-3, cz wbs0 (wl_rd 44)) := cz_road_f (by decide) (by decide) (by decide +kernel) (by decide +kernel)
def wbr0 : Nat → Int32 := upd (wl_rd 44) 1 0
theorem wbf1 : rz_road_ (cz wbs0 (wl_rd 44)) 0 1 0 = (40, cz wbs0 wbr0) := cz_road_b (ix := 1) (v := 999) (by decide) (by decide) (by decide) (by decide +kernel) (by decide) (by decide)
theorem wbf2 : rz_distance_ wbr0 0 1 = 0 := cz_dist (by decide) (by decide +kernel)
theorem wbf3 : rz_road_ (cz wbs0 wbr0) 11 0 1000 = (-2, cz wbs0 wbr0) := rz_road_bad (cz_tw (by decide)) (by decide)
theorem wl_S44 : wl_S 44 = wbs0 := by unfold wl_S; rw [wl_f3]; rfl
set_option maxHeartbeats 4000000 in
set_option maxRecDepth 100000 in
theorem wa_B {d o : Nat} {hp : rz_Hp} {R : Option Value → rz_Hp → Prop} {l1 l2 : Option Value} {hist : List rz_AS} (h : rz_OJ o (cz wbs0 (wl_rd 44)) rz_st0 hist [] 0 0 0 hp) (kk : ∀ hp', rz_OJ o (cz wbs0 wbr0) rz_st0 (rz_rec hist (cz wbs0 (wl_rd 44))) [] 0 0 0 hp' → rz_sm o (o + 115) hp hp' → rz_ev (d + 9) 123 387 [some (.ref o), l1, l2] [] hp' R) : rz_ev (d + 9) 123 338 [some (.ref o), l1, l2] [] hp R := by
  have hc := h.co
  simp only [↓ri_123_338, ↓ri_123_339, ↓ri_123_341, ↓ri_123_342, ↓ri_123_343, Option.some.injEq, Prod.mk.injEq, exists_eq_left', exists_eq', exists_and_left, exists_and_right, true_and, and_true, true_or, or_true, and_self, and_assoc, Option.toList_some, Option.toList_none, List.cons_append, List.nil_append, ↓reduceIte, rz_x01, rz_x10, hc]
  refine q_road_n (d := d + 2) h wbf0 (by decide) (fun hp0 h0 s0 => ?_)
  clear hc
  have hc := h0.co
  simp only [↓ri_123_346, ↓ri_123_348, ↓ri_123_351, ↓ri_123_352, ↓ri_123_353, ↓ri_123_354, ↓ri_123_355, Option.some.injEq, Prod.mk.injEq, exists_eq_left', exists_eq', exists_and_left, exists_and_right, true_and, and_true, true_or, or_true, and_self, and_assoc, Option.toList_some, Option.toList_none, List.cons_append, List.nil_append, ↓reduceIte, rz_x01, rz_x10, hc]
  refine q_road_y (d := d + 2) h0 wbf1 (by decide) (fun hp1 h1 s1 => ?_)
  clear hc
  have hc := h1.co
  simp only [↓ri_123_358, ↓ri_123_360, ↓ri_123_363, ↓ri_123_364, ↓ri_123_365, ↓ri_123_366, Option.some.injEq, Prod.mk.injEq, exists_eq_left', exists_eq', exists_and_left, exists_and_right, true_and, and_true, true_or, or_true, and_self, and_assoc, Option.toList_some, Option.toList_none, List.cons_append, List.nil_append, ↓reduceIte, rz_x01, rz_x10, hc]
  refine q_distance (d := d + 2) h1 (fun hp2 h2 s2 => ?_)
  rw [show rz_distance_ (cz wbs0 wbr0).2.2.2.2.1 0 1 = 0 from wbf2]
  clear hc
  have hc := h2.co
  simp only [↓ri_123_369, ↓ri_123_372, ↓ri_123_373, ↓ri_123_375, ↓ri_123_376, ↓ri_123_379, Option.some.injEq, Prod.mk.injEq, exists_eq_left', exists_eq', exists_and_left, exists_and_right, true_and, and_true, true_or, or_true, and_self, and_assoc, Option.toList_some, Option.toList_none, List.cons_append, List.nil_append, ↓reduceIte, rz_x01, rz_x10, hc]
  refine q_road_n (d := d + 2) h2 wbf3 (by decide) (fun hp3 h3 s3 => ?_)
  clear hc
  have hc := h3.co
  simp only [↓ri_123_382, ↓ri_123_384, Option.some.injEq, Prod.mk.injEq, exists_eq_left', exists_eq', exists_and_left, exists_and_right, true_and, and_true, true_or, or_true, and_self, and_assoc, Option.toList_some, Option.toList_none, List.cons_append, List.nil_append, ↓reduceIte, rz_x01, rz_x10, hc]
  exact kk _ h3 (((s0.tr s1).tr s2).tr s3)
set_option maxHeartbeats 4000000 in
set_option maxRecDepth 100000 in
theorem q_ways {d : Nat} {hp : rz_Hp} {R : Option Value → rz_Hp → Prop} (kk : ∀ hp', rz_ex hp.2.1 hp hp' → hp'.2 = (hp.2.1 + 115, hp.2.2 + 3177) → R (some (.int 1)) hp') : rz_ev (d + 9) 123 0 [none, none, none] [] hp R := by
  simp only [↓ri_123_0, ↓ri_123_3, ↓ri_123_4, Option.some.injEq, Prod.mk.injEq, exists_eq_left', exists_eq', exists_and_left, exists_and_right, true_and, and_true, true_or, or_true, and_self, and_assoc, Option.toList_some, Option.toList_none, List.cons_append, List.nil_append, ↓reduceIte, rz_x01, rz_x10]
  refine q_init (d := d + 4) (b := hp.2.1) (rz_nw_push rfl) (fun hp1 h1 e1 x1 => ?_)
  simp only [↓ri_123_7, Option.some.injEq, Prod.mk.injEq, exists_eq_left', exists_eq', exists_and_left, exists_and_right, true_and, and_true, true_or, or_true, and_self, and_assoc, Option.toList_some, Option.toList_none, List.cons_append, List.nil_append, ↓reduceIte, rz_x01, rz_x10]
  refine wa_A (d := d) (o := hp.2.1) h1 (fun hp2 h2 s2 => ?_)
  simp only [↓ri_123_284, ↓ri_123_285, ↓ri_123_286, ↓ri_123_287, Option.some.injEq, Prod.mk.injEq, exists_eq_left', exists_eq', exists_and_left, exists_and_right, true_and, and_true, true_or, or_true, and_self, and_assoc, Option.toList_some, Option.toList_none, List.cons_append, List.nil_append, ↓reduceIte, rz_x01, rz_x10]
  refine wl_loop (d := d) (o := hp.2.1) (hp := hp2) (fun hist hp3 h3 s3 => ?_) 0 (Nat.zero_le _) _ hp2 h2 rz_sm.rf
  rw [wl_S44] at h3
  refine wa_B (d := d) (o := hp.2.1) h3 (fun hp4 h4 s4 => ?_)
  have hc := h4.co
  simp only [↓ri_123_387, ↓ri_123_388, Option.some.injEq, Prod.mk.injEq, exists_eq_left', exists_eq', exists_and_left, exists_and_right, true_and, and_true, true_or, or_true, and_self, and_assoc, Option.toList_some, Option.toList_none, List.cons_append, List.nil_append, ↓reduceIte, rz_x01, rz_x10, hc]
  refine q_refused (d := d) h4 (fun hp5 h5 s5 => ?_)
  simp only [↓ri_123_391, ↓ri_123_394, ↓ri_123_395, ↓ri_123_398, ↓ri_123_399, Option.some.injEq, Prod.mk.injEq, exists_eq_left', exists_eq', exists_and_left, exists_and_right, true_and, and_true, true_or, or_true, and_self, and_assoc, Option.toList_some, Option.toList_none, List.cons_append, List.nil_append, ↓reduceIte, rz_x01, rz_x10]
  refine kk hp5 ?_ ?_
  · have a1 := rz_ex_new x1
    have a2 := a1.tr (rz_ex_sm s2 (Nat.le_refl _))
    have a3 := a2.tr (rz_ex_sm s3 (Nat.le_refl _))
    have a4 := a3.tr (rz_ex_sm s4 (Nat.le_refl _))
    exact a4.tr (rz_ex_sm s5 (Nat.le_refl _))
  · rw [s5.1, s4.1, s3.1, s2.1, e1]
    rfl
