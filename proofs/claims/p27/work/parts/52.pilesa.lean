/-! Six entries by hand -/
def pas0 : rz_E8 := ([], 0, 0, [], 0, 0, 0, 0)
theorem paf0 : cz_out pas0 = ((-5), pas0) := cz_ok (by decide +kernel)
theorem paf1 : rz_next_ pas0.1 0 = (-5) := by decide +kernel
theorem paf2 : cz_upto pas0 65535 = ((-5), pas0) := cz_ok (by decide +kernel)
theorem paf3 : rz_refu 0 0 0 = (-5) := by decide +kernel
def pas1 : rz_E8 := ([(0, 5, 1, 0, 3)], 0, 0, [], 0, 1, 0, 0)
theorem paf4 : cz_in pas0 5 1 = (0, pas1) := cz_ok (by decide +kernel)
def pas2 : rz_E8 := ([(0, 5, 1, 0, 3), (1, 3, 2, 0, 2)], 0, 0, [], 0, 2, 0, 0)
theorem paf5 : cz_in pas1 3 2 = (1, pas2) := cz_ok (by decide +kernel)
def pas3 : rz_E8 := ([(0, 5, 1, 0, 3), (1, 3, 2, 0, 2), (2, 2, 3, 0, 2)], 0, 0, [], 0, 3, 0, 0)
theorem paf6 : cz_in pas2 2 3 = (2, pas3) := cz_ok (by decide +kernel)
def pas4 : rz_E8 := ([(0, 5, 1, 0, 3), (1, 3, 2, 0, 2), (2, 2, 3, 0, 2), (3, 0, 4, 0, 0)], 0, 0, [], 0, 4, 0, 0)
theorem paf7 : cz_in pas3 0 4 = (3, pas4) := cz_ok (by decide +kernel)
def pas5 : rz_E8 := ([(0, 5, 1, 0, 3), (1, 3, 2, 0, 2), (2, 2, 3, 0, 2), (3, 0, 4, 0, 0), (4, 9, 5, 0, 4)], 0, 0, [], 0, 5, 0, 0)
theorem paf8 : cz_in pas4 9 5 = (4, pas5) := cz_ok (by decide +kernel)
theorem paf9 : rz_smp pas5.1  = 11 := by decide +kernel
theorem paf10 : rz_pile_ pas5.1 2 0 = 2 := by decide +kernel
theorem paf11 : rz_pile_ pas5.1 2 1 = 2 := by decide +kernel
theorem paf12 : rz_pile_ pas5.1 2 2 = 3 := by decide +kernel
theorem paf13 : rz_pile_ pas5.1 2 3 = 1 := by decide +kernel
theorem paf14 : ∀ hn tn : Nat, rz_count_ (cz pas5 (fun _ => -5)) hn tn 5 = 4 := fun hn tn => rz_count_w (by decide) (by decide) (by decide +kernel)
theorem paf15 : rz_next_ pas5.1 0 = 3 := by decide +kernel
theorem paf16 : rz_next_ pas5.1 1 = 0 := by decide +kernel
theorem paf17 : rz_next_ pas5.1 2 = 0 := by decide +kernel
def pas6 : rz_E8 := ([(0, 5, 1, 0, 3), (1, 3, 2, 0, 2), (2, 2, 3, 0, 2), (4, 9, 5, 0, 4)], 0, 0, [(3, 0, 4, 0)], 0, 5, 1, 0)
theorem paf18 : cz_out pas5 = (3, pas6) := cz_ok (by decide +kernel)
theorem paf19 : ∀ hn tn : Nat, rz_count_ (cz pas6 (fun _ => -5)) hn tn 3 = 0 := fun hn tn => rz_count_w (by decide) (by decide) (by decide +kernel)
theorem paf20 : rz_next_ pas6.1 0 = 2 := by decide +kernel
theorem paf21 : rz_next_ pas6.1 1 = 2 := by decide +kernel
theorem paf22 : rz_next_ pas6.1 2 = 2 := by decide +kernel
def pas7 : rz_E8 := ([(0, 5, 1, 0, 3), (1, 3, 2, 1, 1), (4, 9, 5, 0, 4)], 2, 2, [(2, 2, 3, 1), (3, 0, 4, 0)], 0, 5, 2, 0)
theorem paf23 : cz_out pas6 = (2, pas7) := cz_ok (by decide +kernel)
theorem paf24 : ∀ hn tn : Nat, rz_count_ (cz pas7 (fun _ => -5)) hn tn 3 = 2 := fun hn tn => rz_count_w (by decide) (by decide) (by decide +kernel)
theorem paf25 : ∀ hn tn : Nat, rz_count_ (cz pas7 (fun _ => -5)) hn tn 4 = 2 := fun hn tn => rz_count_w (by decide) (by decide) (by decide +kernel)
theorem paf26 : rz_entry_ pas7.1 1 2 = 1 := by decide +kernel
theorem paf27 : rz_entry_ pas7.1 1 4 = 1 := by decide +kernel
theorem paf28 : rz_entry_ pas7.1 2 0 = (-1) := by decide +kernel
def pas8 : rz_E8 := ([(1, 3, 2, 1, 1), (4, 9, 5, 0, 4), (0, 2, 1, 1, 0)], 2, 3, [(2, 2, 3, 1), (3, 0, 4, 0)], 0, 5, 2, 0)
theorem paf29 : cz_less pas7 0 2 = (0, pas8) := cz_ok (by decide +kernel)
theorem paf30 : ∀ hn tn : Nat, rz_count_ (cz pas8 (fun _ => -5)) hn tn 4 = 3 := fun hn tn => rz_count_w (by decide) (by decide) (by decide +kernel)
theorem paf31 : rz_entry_ pas8.1 0 4 = 1 := by decide +kernel
theorem paf32 : cz_less pas8 0 3 = ((-4), pas8) := cz_ok (by decide +kernel)
theorem paf33 : cz_less pas8 1 3 = ((-5), pas8) := cz_ok (by decide +kernel)
theorem paf34 : cz_less pas8 1 1 = ((-4), pas8) := cz_ok (by decide +kernel)
theorem paf35 : cz_less pas8 1 (-1) = ((-2), pas8) := cz_ok (by decide +kernel)
theorem paf36 : cz_in pas8 1 0 = ((-4), pas8) := cz_ok (by decide +kernel)
theorem paf37 : cz_in pas8 1 1000 = ((-2), pas8) := cz_ok (by decide +kernel)
def pas9 : rz_E8 := ([(1, 3, 2, 1, 1), (4, 9, 5, 0, 4), (0, 2, 1, 1, 0), (5, 2, 6, 0, 0)], 2, 3, [(2, 2, 3, 1), (3, 0, 4, 0)], 0, 6, 2, 0)
theorem paf38 : cz_in pas8 2 6 = (5, pas9) := cz_ok (by decide +kernel)
theorem paf39 : rz_entry_ pas9.1 5 3 = 1 := by decide +kernel
theorem paf40 : rz_ranked_ pas9.1 0 = 0 := by decide +kernel
theorem paf41 : rz_ranked_ pas9.1 1 = 5 := by decide +kernel
theorem paf42 : rz_ranked_ pas9.1 2 = 1 := by decide +kernel
theorem paf43 : rz_ranked_ pas9.1 3 = 4 := by decide +kernel
theorem paf44 : rz_ranked_ pas9.1 4 = (-5) := by decide +kernel
def pas10 : rz_E8 := ([(1, 3, 2, 1, 1), (4, 9, 5, 0, 4), (0, 2, 1, 1, 0)], 2, 3, [(2, 2, 3, 1), (3, 0, 4, 0)], 0, 6, 2, 1)
theorem paf45 : cz_back pas9 5 = (2, pas10) := cz_ok (by decide +kernel)
theorem paf46 : ∀ hn tn : Nat, rz_count_ (cz pas10 (fun _ => -5)) hn tn 7 = 1 := fun hn tn => rz_count_w (by decide) (by decide) (by decide +kernel)
def pas11 : rz_E8 := ([(4, 9, 5, 0, 4)], 3, 4, [(1, 3, 2, 2), (0, 2, 1, 1), (2, 2, 3, 1), (3, 0, 4, 0)], 0, 6, 4, 1)
theorem paf47 : cz_upto pas10 3 = (2, pas11) := cz_ok (by decide +kernel)
theorem paf48 : rz_tell pas11.2.2.2.1 0 0 = 1 := by decide +kernel
theorem paf49 : rz_tell pas11.2.2.2.1 0 1 = 3 := by decide +kernel
theorem paf50 : rz_tell pas11.2.2.2.1 0 2 = 2 := by decide +kernel
theorem paf51 : rz_tell pas11.2.2.2.1 0 3 = 2 := by decide +kernel
theorem paf52 : rz_tell pas11.2.2.2.1 1 0 = 0 := by decide +kernel
theorem paf53 : rz_tell pas11.2.2.2.1 1 3 = 1 := by decide +kernel
theorem paf54 : rz_tell pas11.2.2.2.1 2 0 = 2 := by decide +kernel
theorem paf55 : rz_tell pas11.2.2.2.1 3 0 = 3 := by decide +kernel
theorem paf56 : rz_tell pas11.2.2.2.1 4 0 = (-5) := by decide +kernel
theorem paf57 : ∀ hn tn : Nat, rz_count_ (cz pas11 (fun _ => -5)) hn tn 2 = 4 := fun hn tn => rz_count_w (by decide) (by decide) (by decide +kernel)
theorem paf58 : ∀ hn tn : Nat, rz_count_ (cz pas11 (fun _ => -5)) hn tn 3 = 3 := fun hn tn => rz_count_w (by decide) (by decide) (by decide +kernel)
theorem paf59 : ∀ hn tn : Nat, rz_count_ (cz pas11 (fun _ => -5)) hn tn 4 = 4 := fun hn tn => rz_count_w (by decide) (by decide) (by decide +kernel)
theorem paf60 : rz_entry_ pas11.1 4 2 = 4 := by decide +kernel
theorem paf61 : rz_smp pas11.1  = 4 := by decide +kernel
theorem paf62 : cz_upto pas11 8 = ((-5), pas11) := cz_ok (by decide +kernel)
def pas12 : rz_E8 := ([], 9, 5, [(4, 9, 5, 1), (1, 3, 2, 2), (0, 2, 1, 1), (2, 2, 3, 1), (3, 0, 4, 0)], 0, 6, 5, 1)
theorem paf63 : cz_out pas11 = (4, pas12) := cz_ok (by decide +kernel)
theorem paf64 : ∀ hn tn : Nat, rz_count_ (cz pas12 (fun _ => -5)) hn tn 3 = 9 := fun hn tn => rz_count_w (by decide) (by decide) (by decide +kernel)
theorem paf65 : ∀ hn tn : Nat, rz_count_ (cz pas12 (fun _ => -5)) hn tn 4 = 5 := fun hn tn => rz_count_w (by decide) (by decide) (by decide +kernel)
theorem paf66 : cz_out pas12 = ((-5), pas12) := cz_ok (by decide +kernel)
theorem paf67 : rz_entry_ pas11.1 4 0 = 9 := by decide +kernel
set_option maxHeartbeats 4000000 in
set_option maxRecDepth 100000 in
theorem pa_A {d o : Nat} {hp : rz_Hp} {R : Option Value → rz_Hp → Prop} {l1 l2 : Option Value} (h : rz_OJ o (cz pas0 (fun _ => -5)) rz_st0 [] [] 0 0 0 hp) (kk : ∀ hp', rz_OJ o (cz pas7 (fun _ => -5)) rz_st0 (rz_rec (rz_rec (rz_rec (rz_rec (rz_rec (rz_rec (rz_rec [] (cz pas0 (fun _ => -5))) (cz pas1 (fun _ => -5))) (cz pas2 (fun _ => -5))) (cz pas3 (fun _ => -5))) (cz pas4 (fun _ => -5))) (cz pas5 (fun _ => -5))) (cz pas6 (fun _ => -5))) [] 0 0 0 hp' → rz_sm o (o + 115) hp hp' → rz_ev (d + 9) 122 300 [some (.ref o), l1, l2] [] hp' R) : rz_ev (d + 9) 122 8 [some (.ref o), l1, l2] [] hp R := by
  have hc := h.co
  simp only [↓ri_122_8, ↓ri_122_9, Option.some.injEq, Prod.mk.injEq, exists_eq_left', exists_eq', exists_and_left, exists_and_right, true_and, and_true, true_or, or_true, and_self, and_assoc, Option.toList_some, Option.toList_none, List.cons_append, List.nil_append, ↓reduceIte, rz_x01, rz_x10, hc]
  refine q_undo0 (d := d + 3) h (fun hp0 h0 s0 => ?_)
  clear hc
  have hc := h0.co
  simp only [↓ri_122_12, ↓ri_122_14, ↓ri_122_17, ↓ri_122_18, Option.some.injEq, Prod.mk.injEq, exists_eq_left', exists_eq', exists_and_left, exists_and_right, true_and, and_true, true_or, or_true, and_self, and_assoc, Option.toList_some, Option.toList_none, List.cons_append, List.nil_append, ↓reduceIte, rz_x01, rz_x10, hc]
  refine q_restore0 (d := d + 2) h0 ?_
  simp only [↓ri_122_21, ↓ri_122_23, ↓ri_122_26, ↓ri_122_27, Option.some.injEq, Prod.mk.injEq, exists_eq_left', exists_eq', exists_and_left, exists_and_right, true_and, and_true, true_or, or_true, and_self, and_assoc, Option.toList_some, Option.toList_none, List.cons_append, List.nil_append, ↓reduceIte, rz_x01, rz_x10, hc]
  refine q_comeOut_n (d := d + 2) h0 (cz_out_at paf0) (by decide) (fun hp1 h1 s1 => ?_)
  clear hc
  have hc := h1.co
  have b0 := fun (R : Option Value → rz_Hp → Prop) => (q_next (d := d + 4) (what := 0) h1 (R := R)).trans (by rw [show rz_next_ (cz pas0 (fun _ => -5)).1 0 = (-5) from paf1])
  simp only [↓ri_122_30, ↓ri_122_32, ↓ri_122_35, ↓ri_122_36, ↓ri_122_37, ↓ri_122_40, ↓ri_122_42, ↓ri_122_45, ↓ri_122_46, ↓ri_122_48, Option.some.injEq, Prod.mk.injEq, exists_eq_left', exists_eq', exists_and_left, exists_and_right, true_and, and_true, true_or, or_true, and_self, and_assoc, Option.toList_some, Option.toList_none, List.cons_append, List.nil_append, ↓reduceIte, rz_x01, rz_x10, hc, b0]
  refine q_comeOutUpTo_n (d := d + 2) h1 (cz_upto_at paf2) (by decide) (fun hp2 h2 s2 => ?_)
  clear hc
  have hc := h2.co
  have b1 := fun (R : Option Value → rz_Hp → Prop) => (q_refusal (d := d + 8) (what := 0) h2 (R := R)).trans (by rw [show rz_refu 0 0 0 = (-5) from paf3])
  simp only [↓ri_122_51, ↓ri_122_53, ↓ri_122_56, ↓ri_122_57, ↓ri_122_58, ↓ri_122_61, ↓ri_122_63, ↓ri_122_66, ↓ri_122_67, ↓ri_122_68, ↓ri_122_69, Option.some.injEq, Prod.mk.injEq, exists_eq_left', exists_eq', exists_and_left, exists_and_right, true_and, and_true, true_or, or_true, and_self, and_assoc, Option.toList_some, Option.toList_none, List.cons_append, List.nil_append, ↓reduceIte, rz_x01, rz_x10, hc, b1]
  refine q_comeIn_y (d := d + 2) h2 (cz_in_at paf4) (by decide) (fun hp3 h3 s3 => ?_)
  clear hc
  have hc := h3.co
  simp only [↓ri_122_72, ↓ri_122_75, ↓ri_122_76, ↓ri_122_77, ↓ri_122_78, Option.some.injEq, Prod.mk.injEq, exists_eq_left', exists_eq', exists_and_left, exists_and_right, true_and, and_true, true_or, or_true, and_self, and_assoc, Option.toList_some, Option.toList_none, List.cons_append, List.nil_append, ↓reduceIte, rz_x01, rz_x10, hc]
  refine q_comeIn_y (d := d + 2) h3 (cz_in_at paf5) (by decide) (fun hp4 h4 s4 => ?_)
  clear hc
  have hc := h4.co
  simp only [↓ri_122_81, ↓ri_122_82, ↓ri_122_85, ↓ri_122_86, ↓ri_122_87, ↓ri_122_88, Option.some.injEq, Prod.mk.injEq, exists_eq_left', exists_eq', exists_and_left, exists_and_right, true_and, and_true, true_or, or_true, and_self, and_assoc, Option.toList_some, Option.toList_none, List.cons_append, List.nil_append, ↓reduceIte, rz_x01, rz_x10, hc]
  refine q_comeIn_y (d := d + 2) h4 (cz_in_at paf6) (by decide) (fun hp5 h5 s5 => ?_)
  clear hc
  have hc := h5.co
  simp only [↓ri_122_91, ↓ri_122_92, ↓ri_122_95, ↓ri_122_96, ↓ri_122_97, ↓ri_122_98, Option.some.injEq, Prod.mk.injEq, exists_eq_left', exists_eq', exists_and_left, exists_and_right, true_and, and_true, true_or, or_true, and_self, and_assoc, Option.toList_some, Option.toList_none, List.cons_append, List.nil_append, ↓reduceIte, rz_x01, rz_x10, hc]
  refine q_comeIn_y (d := d + 2) h5 (cz_in_at paf7) (by decide) (fun hp6 h6 s6 => ?_)
  clear hc
  have hc := h6.co
  simp only [↓ri_122_101, ↓ri_122_102, ↓ri_122_105, ↓ri_122_106, ↓ri_122_108, ↓ri_122_109, Option.some.injEq, Prod.mk.injEq, exists_eq_left', exists_eq', exists_and_left, exists_and_right, true_and, and_true, true_or, or_true, and_self, and_assoc, Option.toList_some, Option.toList_none, List.cons_append, List.nil_append, ↓reduceIte, rz_x01, rz_x10, hc]
  refine q_comeIn_y (d := d + 2) h6 (cz_in_at paf8) (by decide) (fun hp7 h7 s7 => ?_)
  clear hc
  have hc := h7.co
  have b2 := fun (R : Option Value → rz_Hp → Prop) => (q_movesLeft (d := d + 5)  h7 (R := R)).trans (by rw [show rz_smp (cz pas5 (fun _ => -5)).1  = 11 from paf9])
  have b3 := fun (R : Option Value → rz_Hp → Prop) => (q_pile (d := d + 5) (p := 2) (what := 0) h7 (R := R)).trans (by rw [show rz_pile_ (cz pas5 (fun _ => -5)).1 2 0 = 2 from paf10])
  have b4 := fun (R : Option Value → rz_Hp → Prop) => (q_pile (d := d + 5) (p := 2) (what := 1) h7 (R := R)).trans (by rw [show rz_pile_ (cz pas5 (fun _ => -5)).1 2 1 = 2 from paf11])
  have b5 := fun (R : Option Value → rz_Hp → Prop) => (q_pile (d := d + 5) (p := 2) (what := 2) h7 (R := R)).trans (by rw [show rz_pile_ (cz pas5 (fun _ => -5)).1 2 2 = 3 from paf12])
  have b6 := fun (R : Option Value → rz_Hp → Prop) => (q_pile (d := d + 5) (p := 2) (what := 3) h7 (R := R)).trans (by rw [show rz_pile_ (cz pas5 (fun _ => -5)).1 2 3 = 1 from paf13])
  have b7 := fun (R : Option Value → rz_Hp → Prop) => (q_count (d := d + 4) (what := 5) h7 (R := R)).trans (by rw [paf14])
  have b8 := fun (R : Option Value → rz_Hp → Prop) => (q_next (d := d + 4) (what := 0) h7 (R := R)).trans (by rw [show rz_next_ (cz pas5 (fun _ => -5)).1 0 = 3 from paf15])
  have b9 := fun (R : Option Value → rz_Hp → Prop) => (q_next (d := d + 4) (what := 1) h7 (R := R)).trans (by rw [show rz_next_ (cz pas5 (fun _ => -5)).1 1 = 0 from paf16])
  have b10 := fun (R : Option Value → rz_Hp → Prop) => (q_next (d := d + 4) (what := 2) h7 (R := R)).trans (by rw [show rz_next_ (cz pas5 (fun _ => -5)).1 2 = 0 from paf17])
  simp only [↓ri_122_112, ↓ri_122_113, ↓ri_122_116, ↓ri_122_117, ↓ri_122_120, ↓ri_122_122, ↓ri_122_125, ↓ri_122_126, ↓ri_122_127, ↓ri_122_128, ↓ri_122_131, ↓ri_122_132, ↓ri_122_135, ↓ri_122_136, ↓ri_122_137, ↓ri_122_138, ↓ri_122_141, ↓ri_122_142, ↓ri_122_145, ↓ri_122_146, ↓ri_122_147, ↓ri_122_148, ↓ri_122_151, ↓ri_122_152, ↓ri_122_155, ↓ri_122_156, ↓ri_122_157, ↓ri_122_158, ↓ri_122_161, ↓ri_122_162, ↓ri_122_165, ↓ri_122_166, ↓ri_122_167, ↓ri_122_170, ↓ri_122_171, ↓ri_122_174, ↓ri_122_175, ↓ri_122_176, ↓ri_122_179, ↓ri_122_180, ↓ri_122_183, ↓ri_122_184, ↓ri_122_185, ↓ri_122_188, ↓ri_122_191, ↓ri_122_192, ↓ri_122_193, ↓ri_122_196, ↓ri_122_199, ↓ri_122_200, Option.some.injEq, Prod.mk.injEq, exists_eq_left', exists_eq', exists_and_left, exists_and_right, true_and, and_true, true_or, or_true, and_self, and_assoc, Option.toList_some, Option.toList_none, List.cons_append, List.nil_append, ↓reduceIte, rz_x01, rz_x10, hc, b2, b3, b4, b5, b6, b7, b8, b9, b10]
  refine q_comeOut_y (d := d + 2) h7 (cz_out_at paf18) (by decide) (fun hp8 h8 s8 => ?_)
  clear hc
  have hc := h8.co
  have b11 := fun (R : Option Value → rz_Hp → Prop) => (q_count (d := d + 4) (what := 3) h8 (R := R)).trans (by rw [paf19])
  have b12 := fun (R : Option Value → rz_Hp → Prop) => (q_next (d := d + 4) (what := 0) h8 (R := R)).trans (by rw [show rz_next_ (cz pas6 (fun _ => -5)).1 0 = 2 from paf20])
  have b13 := fun (R : Option Value → rz_Hp → Prop) => (q_next (d := d + 4) (what := 1) h8 (R := R)).trans (by rw [show rz_next_ (cz pas6 (fun _ => -5)).1 1 = 2 from paf21])
  have b14 := fun (R : Option Value → rz_Hp → Prop) => (q_next (d := d + 4) (what := 2) h8 (R := R)).trans (by rw [show rz_next_ (cz pas6 (fun _ => -5)).1 2 = 2 from paf22])
  simp only [↓ri_122_203, ↓ri_122_204, ↓ri_122_207, ↓ri_122_208, ↓ri_122_209, ↓ri_122_212, ↓ri_122_215, ↓ri_122_216, ↓ri_122_217, ↓ri_122_220, ↓ri_122_221, ↓ri_122_224, ↓ri_122_225, ↓ri_122_226, ↓ri_122_229, ↓ri_122_230, ↓ri_122_233, ↓ri_122_234, ↓ri_122_235, ↓ri_122_238, ↓ri_122_239, ↓ri_122_242, ↓ri_122_243, Option.some.injEq, Prod.mk.injEq, exists_eq_left', exists_eq', exists_and_left, exists_and_right, true_and, and_true, true_or, or_true, and_self, and_assoc, Option.toList_some, Option.toList_none, List.cons_append, List.nil_append, ↓reduceIte, rz_x01, rz_x10, hc, b11, b12, b13, b14]
  refine q_comeOut_y (d := d + 2) h8 (cz_out_at paf23) (by decide) (fun hp9 h9 s9 => ?_)
  clear hc
  have hc := h9.co
  have b15 := fun (R : Option Value → rz_Hp → Prop) => (q_count (d := d + 4) (what := 3) h9 (R := R)).trans (by rw [paf24])
  have b16 := fun (R : Option Value → rz_Hp → Prop) => (q_count (d := d + 4) (what := 4) h9 (R := R)).trans (by rw [paf25])
  have b17 := fun (R : Option Value → rz_Hp → Prop) => (q_entry (d := d + 4) (n := 1) (what := 2) h9 (R := R)).trans (by rw [show rz_entry_ (cz pas7 (fun _ => -5)).1 1 2 = 1 from paf26])
  have b18 := fun (R : Option Value → rz_Hp → Prop) => (q_entry (d := d + 4) (n := 1) (what := 4) h9 (R := R)).trans (by rw [show rz_entry_ (cz pas7 (fun _ => -5)).1 1 4 = 1 from paf27])
  have b19 := fun (R : Option Value → rz_Hp → Prop) => (q_entry (d := d + 4) (n := 2) (what := 0) h9 (R := R)).trans (by rw [show rz_entry_ (cz pas7 (fun _ => -5)).1 2 0 = (-1) from paf28])
  simp only [↓ri_122_246, ↓ri_122_247, ↓ri_122_250, ↓ri_122_251, ↓ri_122_252, ↓ri_122_255, ↓ri_122_256, ↓ri_122_259, ↓ri_122_260, ↓ri_122_261, ↓ri_122_264, ↓ri_122_265, ↓ri_122_268, ↓ri_122_269, ↓ri_122_270, ↓ri_122_271, ↓ri_122_274, ↓ri_122_275, ↓ri_122_278, ↓ri_122_279, ↓ri_122_280, ↓ri_122_281, ↓ri_122_284, ↓ri_122_285, ↓ri_122_288, ↓ri_122_289, ↓ri_122_290, ↓ri_122_291, ↓ri_122_294, ↓ri_122_295, ↓ri_122_298, ↓ri_122_299, Option.some.injEq, Prod.mk.injEq, exists_eq_left', exists_eq', exists_and_left, exists_and_right, true_and, and_true, true_or, or_true, and_self, and_assoc, Option.toList_some, Option.toList_none, List.cons_append, List.nil_append, ↓reduceIte, rz_x01, rz_x10, hc, b15, b16, b17, b18, b19]
  exact kk _ h9 (((((((((s0.tr s1).tr s2).tr s3).tr s4).tr s5).tr s6).tr s7).tr s8).tr s9)
def pa_hA : List rz_AS := (rz_rec (rz_rec (rz_rec (rz_rec (rz_rec (rz_rec (rz_rec [] (cz pas0 (fun _ => -5))) (cz pas1 (fun _ => -5))) (cz pas2 (fun _ => -5))) (cz pas3 (fun _ => -5))) (cz pas4 (fun _ => -5))) (cz pas5 (fun _ => -5))) (cz pas6 (fun _ => -5)))
set_option maxHeartbeats 4000000 in
set_option maxRecDepth 100000 in
theorem pa_B {d o : Nat} {hp : rz_Hp} {R : Option Value → rz_Hp → Prop} {l1 l2 : Option Value} (h : rz_OJ o (cz pas7 (fun _ => -5)) rz_st0 pa_hA [] 0 0 0 hp) (kk : ∀ hp', rz_OJ o (cz pas11 (fun _ => -5)) rz_st0 (rz_rec (rz_rec (rz_rec (rz_rec pa_hA (cz pas7 (fun _ => -5))) (cz pas8 (fun _ => -5))) (cz pas9 (fun _ => -5))) (cz pas10 (fun _ => -5))) [] 0 0 0 hp' → rz_sm o (o + 115) hp hp' → rz_ev (d + 9) 122 589 [some (.ref o), l1, l2] [] hp' R) : rz_ev (d + 9) 122 300 [some (.ref o), l1, l2] [] hp R := by
  have hc := h.co
  simp only [↓ri_122_300, ↓ri_122_301, ↓ri_122_302, ↓ri_122_303, Option.some.injEq, Prod.mk.injEq, exists_eq_left', exists_eq', exists_and_left, exists_and_right, true_and, and_true, true_or, or_true, and_self, and_assoc, Option.toList_some, Option.toList_none, List.cons_append, List.nil_append, ↓reduceIte, rz_x01, rz_x10, hc]
  refine q_less_y (d := d + 2) h (cz_less_at paf29) (by decide) (fun hp0 h0 s0 => ?_)
  clear hc
  have hc := h0.co
  have b0 := fun (R : Option Value → rz_Hp → Prop) => (q_count (d := d + 4) (what := 4) h0 (R := R)).trans (by rw [paf30])
  have b1 := fun (R : Option Value → rz_Hp → Prop) => (q_entry (d := d + 4) (n := 0) (what := 4) h0 (R := R)).trans (by rw [show rz_entry_ (cz pas8 (fun _ => -5)).1 0 4 = 1 from paf31])
  simp only [↓ri_122_306, ↓ri_122_309, ↓ri_122_310, ↓ri_122_311, ↓ri_122_314, ↓ri_122_315, ↓ri_122_318, ↓ri_122_319, ↓ri_122_320, ↓ri_122_321, ↓ri_122_324, ↓ri_122_325, ↓ri_122_328, ↓ri_122_329, ↓ri_122_330, ↓ri_122_331, Option.some.injEq, Prod.mk.injEq, exists_eq_left', exists_eq', exists_and_left, exists_and_right, true_and, and_true, true_or, or_true, and_self, and_assoc, Option.toList_some, Option.toList_none, List.cons_append, List.nil_append, ↓reduceIte, rz_x01, rz_x10, hc, b0, b1]
  refine q_less_n (d := d + 2) h0 (cz_less_at paf32) (by decide) (fun hp1 h1 s1 => ?_)
  clear hc
  have hc := h1.co
  simp only [↓ri_122_334, ↓ri_122_336, ↓ri_122_339, ↓ri_122_340, ↓ri_122_341, ↓ri_122_342, Option.some.injEq, Prod.mk.injEq, exists_eq_left', exists_eq', exists_and_left, exists_and_right, true_and, and_true, true_or, or_true, and_self, and_assoc, Option.toList_some, Option.toList_none, List.cons_append, List.nil_append, ↓reduceIte, rz_x01, rz_x10, hc]
  refine q_less_n (d := d + 2) h1 (cz_less_at paf33) (by decide) (fun hp2 h2 s2 => ?_)
  clear hc
  have hc := h2.co
  simp only [↓ri_122_345, ↓ri_122_347, ↓ri_122_350, ↓ri_122_351, ↓ri_122_352, ↓ri_122_353, Option.some.injEq, Prod.mk.injEq, exists_eq_left', exists_eq', exists_and_left, exists_and_right, true_and, and_true, true_or, or_true, and_self, and_assoc, Option.toList_some, Option.toList_none, List.cons_append, List.nil_append, ↓reduceIte, rz_x01, rz_x10, hc]
  refine q_less_n (d := d + 2) h2 (cz_less_at paf34) (by decide) (fun hp3 h3 s3 => ?_)
  clear hc
  have hc := h3.co
  simp only [↓ri_122_356, ↓ri_122_358, ↓ri_122_361, ↓ri_122_362, ↓ri_122_363, ↓ri_122_364, Option.some.injEq, Prod.mk.injEq, exists_eq_left', exists_eq', exists_and_left, exists_and_right, true_and, and_true, true_or, or_true, and_self, and_assoc, Option.toList_some, Option.toList_none, List.cons_append, List.nil_append, ↓reduceIte, rz_x01, rz_x10, hc]
  refine q_less_n (d := d + 2) h3 (cz_less_at paf35) (by decide) (fun hp4 h4 s4 => ?_)
  clear hc
  have hc := h4.co
  simp only [↓ri_122_367, ↓ri_122_369, ↓ri_122_372, ↓ri_122_373, ↓ri_122_374, ↓ri_122_375, Option.some.injEq, Prod.mk.injEq, exists_eq_left', exists_eq', exists_and_left, exists_and_right, true_and, and_true, true_or, or_true, and_self, and_assoc, Option.toList_some, Option.toList_none, List.cons_append, List.nil_append, ↓reduceIte, rz_x01, rz_x10, hc]
  refine q_comeIn_n (d := d + 2) h4 (cz_in_at paf36) (by decide) (fun hp5 h5 s5 => ?_)
  clear hc
  have hc := h5.co
  simp only [↓ri_122_378, ↓ri_122_380, ↓ri_122_383, ↓ri_122_384, ↓ri_122_385, ↓ri_122_388, Option.some.injEq, Prod.mk.injEq, exists_eq_left', exists_eq', exists_and_left, exists_and_right, true_and, and_true, true_or, or_true, and_self, and_assoc, Option.toList_some, Option.toList_none, List.cons_append, List.nil_append, ↓reduceIte, rz_x01, rz_x10, hc]
  refine q_comeIn_n (d := d + 2) h5 (cz_in_at paf37) (by decide) (fun hp6 h6 s6 => ?_)
  clear hc
  have hc := h6.co
  simp only [↓ri_122_391, ↓ri_122_393, ↓ri_122_396, ↓ri_122_397, ↓ri_122_398, ↓ri_122_400, Option.some.injEq, Prod.mk.injEq, exists_eq_left', exists_eq', exists_and_left, exists_and_right, true_and, and_true, true_or, or_true, and_self, and_assoc, Option.toList_some, Option.toList_none, List.cons_append, List.nil_append, ↓reduceIte, rz_x01, rz_x10, hc]
  refine q_comeIn_y (d := d + 2) h6 (cz_in_at paf38) (by decide) (fun hp7 h7 s7 => ?_)
  clear hc
  have hc := h7.co
  have b2 := fun (R : Option Value → rz_Hp → Prop) => (q_entry (d := d + 4) (n := 5) (what := 3) h7 (R := R)).trans (by rw [show rz_entry_ (cz pas9 (fun _ => -5)).1 5 3 = 1 from paf39])
  have b3 := fun (R : Option Value → rz_Hp → Prop) => (q_ranked (d := d + 4) (rank := 0) h7 (R := R)).trans (by rw [show rz_ranked_ (cz pas9 (fun _ => -5)).1 0 = 0 from paf40])
  have b4 := fun (R : Option Value → rz_Hp → Prop) => (q_ranked (d := d + 4) (rank := 1) h7 (R := R)).trans (by rw [show rz_ranked_ (cz pas9 (fun _ => -5)).1 1 = 5 from paf41])
  have b5 := fun (R : Option Value → rz_Hp → Prop) => (q_ranked (d := d + 4) (rank := 2) h7 (R := R)).trans (by rw [show rz_ranked_ (cz pas9 (fun _ => -5)).1 2 = 1 from paf42])
  have b6 := fun (R : Option Value → rz_Hp → Prop) => (q_ranked (d := d + 4) (rank := 3) h7 (R := R)).trans (by rw [show rz_ranked_ (cz pas9 (fun _ => -5)).1 3 = 4 from paf43])
  have b7 := fun (R : Option Value → rz_Hp → Prop) => (q_ranked (d := d + 4) (rank := 4) h7 (R := R)).trans (by rw [show rz_ranked_ (cz pas9 (fun _ => -5)).1 4 = (-5) from paf44])
  simp only [↓ri_122_403, ↓ri_122_404, ↓ri_122_407, ↓ri_122_408, ↓ri_122_409, ↓ri_122_410, ↓ri_122_413, ↓ri_122_414, ↓ri_122_417, ↓ri_122_418, ↓ri_122_419, ↓ri_122_422, ↓ri_122_425, ↓ri_122_426, ↓ri_122_427, ↓ri_122_430, ↓ri_122_431, ↓ri_122_434, ↓ri_122_435, ↓ri_122_436, ↓ri_122_439, ↓ri_122_440, ↓ri_122_443, ↓ri_122_444, ↓ri_122_445, ↓ri_122_448, ↓ri_122_449, ↓ri_122_452, ↓ri_122_453, ↓ri_122_454, ↓ri_122_457, ↓ri_122_459, ↓ri_122_462, ↓ri_122_463, Option.some.injEq, Prod.mk.injEq, exists_eq_left', exists_eq', exists_and_left, exists_and_right, true_and, and_true, true_or, or_true, and_self, and_assoc, Option.toList_some, Option.toList_none, List.cons_append, List.nil_append, ↓reduceIte, rz_x01, rz_x10, hc, b2, b3, b4, b5, b6, b7]
  refine q_refused (d := d + 0) h7 (fun hp8 h8 s8 => ?_)
  clear hc
  have hc := h8.co
  simp only [↓ri_122_466, ↓ri_122_469, ↓ri_122_470, ↓ri_122_471, Option.some.injEq, Prod.mk.injEq, exists_eq_left', exists_eq', exists_and_left, exists_and_right, true_and, and_true, true_or, or_true, and_self, and_assoc, Option.toList_some, Option.toList_none, List.cons_append, List.nil_append, ↓reduceIte, rz_x01, rz_x10, hc]
  refine q_takeBack_y (d := d + 2) h8 (cz_back_at paf45) (by decide) (fun hp9 h9 s9 => ?_)
  clear hc
  have hc := h9.co
  have b8 := fun (R : Option Value → rz_Hp → Prop) => (q_count (d := d + 4) (what := 7) h9 (R := R)).trans (by rw [paf46])
  simp only [↓ri_122_474, ↓ri_122_475, ↓ri_122_478, ↓ri_122_479, ↓ri_122_481, ↓ri_122_484, ↓ri_122_485, ↓ri_122_488, ↓ri_122_489, ↓ri_122_490, Option.some.injEq, Prod.mk.injEq, exists_eq_left', exists_eq', exists_and_left, exists_and_right, true_and, and_true, true_or, or_true, and_self, and_assoc, Option.toList_some, Option.toList_none, List.cons_append, List.nil_append, ↓reduceIte, rz_x01, rz_x10, hc, b8]
  refine q_comeOutUpTo_y (d := d + 2) h9 (cz_upto_at paf47) (by decide) (fun hp10 h10 s10 => ?_)
  clear hc
  have hc := h10.co
  have b9 := fun (R : Option Value → rz_Hp → Prop) => (q_out (d := d + 7) (back := 0) (what := 0) h10 (R := R)).trans (by rw [show rz_tell (cz pas11 (fun _ => -5)).2.2.2.1 0 0 = 1 from paf48])
  have b10 := fun (R : Option Value → rz_Hp → Prop) => (q_out (d := d + 7) (back := 0) (what := 1) h10 (R := R)).trans (by rw [show rz_tell (cz pas11 (fun _ => -5)).2.2.2.1 0 1 = 3 from paf49])
  have b11 := fun (R : Option Value → rz_Hp → Prop) => (q_out (d := d + 7) (back := 0) (what := 2) h10 (R := R)).trans (by rw [show rz_tell (cz pas11 (fun _ => -5)).2.2.2.1 0 2 = 2 from paf50])
  have b12 := fun (R : Option Value → rz_Hp → Prop) => (q_out (d := d + 7) (back := 0) (what := 3) h10 (R := R)).trans (by rw [show rz_tell (cz pas11 (fun _ => -5)).2.2.2.1 0 3 = 2 from paf51])
  have b13 := fun (R : Option Value → rz_Hp → Prop) => (q_out (d := d + 7) (back := 1) (what := 0) h10 (R := R)).trans (by rw [show rz_tell (cz pas11 (fun _ => -5)).2.2.2.1 1 0 = 0 from paf52])
  have b14 := fun (R : Option Value → rz_Hp → Prop) => (q_out (d := d + 7) (back := 1) (what := 3) h10 (R := R)).trans (by rw [show rz_tell (cz pas11 (fun _ => -5)).2.2.2.1 1 3 = 1 from paf53])
  have b15 := fun (R : Option Value → rz_Hp → Prop) => (q_out (d := d + 7) (back := 2) (what := 0) h10 (R := R)).trans (by rw [show rz_tell (cz pas11 (fun _ => -5)).2.2.2.1 2 0 = 2 from paf54])
  have b16 := fun (R : Option Value → rz_Hp → Prop) => (q_out (d := d + 7) (back := 3) (what := 0) h10 (R := R)).trans (by rw [show rz_tell (cz pas11 (fun _ => -5)).2.2.2.1 3 0 = 3 from paf55])
  have b17 := fun (R : Option Value → rz_Hp → Prop) => (q_out (d := d + 7) (back := 4) (what := 0) h10 (R := R)).trans (by rw [show rz_tell (cz pas11 (fun _ => -5)).2.2.2.1 4 0 = (-5) from paf56])
  simp only [↓ri_122_493, ↓ri_122_494, ↓ri_122_497, ↓ri_122_498, ↓ri_122_499, ↓ri_122_500, ↓ri_122_503, ↓ri_122_504, ↓ri_122_507, ↓ri_122_508, ↓ri_122_509, ↓ri_122_510, ↓ri_122_513, ↓ri_122_514, ↓ri_122_517, ↓ri_122_518, ↓ri_122_519, ↓ri_122_520, ↓ri_122_523, ↓ri_122_524, ↓ri_122_527, ↓ri_122_528, ↓ri_122_529, ↓ri_122_530, ↓ri_122_533, ↓ri_122_534, ↓ri_122_537, ↓ri_122_538, ↓ri_122_539, ↓ri_122_540, ↓ri_122_543, ↓ri_122_546, ↓ri_122_547, ↓ri_122_548, ↓ri_122_549, ↓ri_122_552, ↓ri_122_553, ↓ri_122_556, ↓ri_122_557, ↓ri_122_558, ↓ri_122_559, ↓ri_122_562, ↓ri_122_563, ↓ri_122_566, ↓ri_122_567, ↓ri_122_568, ↓ri_122_569, ↓ri_122_572, ↓ri_122_573, ↓ri_122_576, ↓ri_122_577, ↓ri_122_578, ↓ri_122_579, ↓ri_122_582, ↓ri_122_584, ↓ri_122_587, ↓ri_122_588, Option.some.injEq, Prod.mk.injEq, exists_eq_left', exists_eq', exists_and_left, exists_and_right, true_and, and_true, true_or, or_true, and_self, and_assoc, Option.toList_some, Option.toList_none, List.cons_append, List.nil_append, ↓reduceIte, rz_x01, rz_x10, hc, b9, b10, b11, b12, b13, b14, b15, b16, b17]
  exact kk _ h10 ((((((((((s0.tr s1).tr s2).tr s3).tr s4).tr s5).tr s6).tr s7).tr s8).tr s9).tr s10)
def pa_hB : List rz_AS := (rz_rec (rz_rec (rz_rec (rz_rec pa_hA (cz pas7 (fun _ => -5))) (cz pas8 (fun _ => -5))) (cz pas9 (fun _ => -5))) (cz pas10 (fun _ => -5)))
set_option maxHeartbeats 4000000 in
set_option maxRecDepth 100000 in
theorem pa_C {d o : Nat} {hp : rz_Hp} {R : Option Value → rz_Hp → Prop} {l1 l2 : Option Value} (h : rz_OJ o (cz pas11 (fun _ => -5)) rz_st0 pa_hB [] 0 0 0 hp) (kk : ∀ hp', rz_OJ o (cz pas11 (fun _ => -5)) rz_st0 ((rz_rec pa_hB (cz pas11 (fun _ => -5)))).dropLast [] 0 0 0 hp' → rz_sm o (o + 115) hp hp' → rz_ev (d + 9) 122 711 [some (.ref o), l1, l2] [] hp' R) : rz_ev (d + 9) 122 589 [some (.ref o), l1, l2] [] hp R := by
  have hc := h.co
  have b0 := fun (R : Option Value → rz_Hp → Prop) => (q_count (d := d + 4) (what := 2) h (R := R)).trans (by rw [paf57])
  have b1 := fun (R : Option Value → rz_Hp → Prop) => (q_count (d := d + 4) (what := 3) h (R := R)).trans (by rw [paf58])
  have b2 := fun (R : Option Value → rz_Hp → Prop) => (q_count (d := d + 4) (what := 4) h (R := R)).trans (by rw [paf59])
  have b3 := fun (R : Option Value → rz_Hp → Prop) => (q_entry (d := d + 4) (n := 4) (what := 2) h (R := R)).trans (by rw [show rz_entry_ (cz pas11 (fun _ => -5)).1 4 2 = 4 from paf60])
  have b4 := fun (R : Option Value → rz_Hp → Prop) => (q_movesLeft (d := d + 5)  h (R := R)).trans (by rw [show rz_smp (cz pas11 (fun _ => -5)).1  = 4 from paf61])
  simp only [↓ri_122_589, ↓ri_122_590, ↓ri_122_591, ↓ri_122_594, ↓ri_122_595, ↓ri_122_598, ↓ri_122_599, ↓ri_122_600, ↓ri_122_603, ↓ri_122_604, ↓ri_122_607, ↓ri_122_608, ↓ri_122_609, ↓ri_122_612, ↓ri_122_613, ↓ri_122_616, ↓ri_122_617, ↓ri_122_618, ↓ri_122_619, ↓ri_122_622, ↓ri_122_623, ↓ri_122_626, ↓ri_122_627, ↓ri_122_630, ↓ri_122_631, ↓ri_122_634, ↓ri_122_635, ↓ri_122_637, Option.some.injEq, Prod.mk.injEq, exists_eq_left', exists_eq', exists_and_left, exists_and_right, true_and, and_true, true_or, or_true, and_self, and_assoc, Option.toList_some, Option.toList_none, List.cons_append, List.nil_append, ↓reduceIte, rz_x01, rz_x10, hc, b0, b1, b2, b3, b4]
  refine q_comeOutUpTo_n (d := d + 2) h (cz_upto_at paf62) (by decide) (fun hp0 h0 s0 => ?_)
  clear hc
  have hc := h0.co
  simp only [↓ri_122_640, ↓ri_122_642, ↓ri_122_645, ↓ri_122_646, Option.some.injEq, Prod.mk.injEq, exists_eq_left', exists_eq', exists_and_left, exists_and_right, true_and, and_true, true_or, or_true, and_self, and_assoc, Option.toList_some, Option.toList_none, List.cons_append, List.nil_append, ↓reduceIte, rz_x01, rz_x10, hc]
  refine q_comeOut_y (d := d + 2) h0 (cz_out_at paf63) (by decide) (fun hp1 h1 s1 => ?_)
  clear hc
  have hc := h1.co
  have b5 := fun (R : Option Value → rz_Hp → Prop) => (q_count (d := d + 4) (what := 3) h1 (R := R)).trans (by rw [paf64])
  have b6 := fun (R : Option Value → rz_Hp → Prop) => (q_count (d := d + 4) (what := 4) h1 (R := R)).trans (by rw [paf65])
  simp only [↓ri_122_649, ↓ri_122_650, ↓ri_122_653, ↓ri_122_654, ↓ri_122_655, ↓ri_122_658, ↓ri_122_660, ↓ri_122_663, ↓ri_122_664, ↓ri_122_665, ↓ri_122_668, ↓ri_122_669, ↓ri_122_672, ↓ri_122_673, Option.some.injEq, Prod.mk.injEq, exists_eq_left', exists_eq', exists_and_left, exists_and_right, true_and, and_true, true_or, or_true, and_self, and_assoc, Option.toList_some, Option.toList_none, List.cons_append, List.nil_append, ↓reduceIte, rz_x01, rz_x10, hc, b5, b6]
  refine q_comeOut_n (d := d + 2) h1 (cz_out_at paf66) (by decide) (fun hp2 h2 s2 => ?_)
  clear hc
  have hc := h2.co
  simp only [↓ri_122_676, ↓ri_122_678, ↓ri_122_681, ↓ri_122_682, Option.some.injEq, Prod.mk.injEq, exists_eq_left', exists_eq', exists_and_left, exists_and_right, true_and, and_true, true_or, or_true, and_self, and_assoc, Option.toList_some, Option.toList_none, List.cons_append, List.nil_append, ↓reduceIte, rz_x01, rz_x10, hc]
  refine q_undo1 (d := d + 3) (n := 3) h2 (by decide +kernel) (fun hp3 h3 s3 => ?_)
  rw [show nI 3 = 3 from rfl]
  clear hc
  have hc := h3.co
  have b7 := fun (R : Option Value → rz_Hp → Prop) => (q_count (d := d + 4) (what := 3) h3 (R := R)).trans (by rw [paf58])
  have b8 := fun (R : Option Value → rz_Hp → Prop) => (q_entry (d := d + 4) (n := 4) (what := 0) h3 (R := R)).trans (by rw [show rz_entry_ (cz pas11 (fun _ => -5)).1 4 0 = 9 from paf67])
  simp only [↓ri_122_685, ↓ri_122_686, ↓ri_122_689, ↓ri_122_690, ↓ri_122_691, ↓ri_122_694, ↓ri_122_695, ↓ri_122_698, ↓ri_122_699, ↓ri_122_700, ↓ri_122_701, ↓ri_122_704, ↓ri_122_706, ↓ri_122_709, ↓ri_122_710, Option.some.injEq, Prod.mk.injEq, exists_eq_left', exists_eq', exists_and_left, exists_and_right, true_and, and_true, true_or, or_true, and_self, and_assoc, Option.toList_some, Option.toList_none, List.cons_append, List.nil_append, ↓reduceIte, rz_x01, rz_x10, hc, b7, b8]
  exact kk _ h3 (((s0.tr s1).tr s2).tr s3)
