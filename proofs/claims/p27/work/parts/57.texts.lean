/-! Texts by hand -/
theorem tf0a : ty_ok 0 8 56 [] = true := by decide +kernel
theorem tf0b : ty_ok 0 8 56 (ty_tx 0 8 56 []) = true := by decide +kernel
theorem tf0c : ty_tx 0 8 56 (ty_tx 0 8 56 []) = [] := by decide +kernel
theorem tf0d : (rz_rt [] 30 0 []).2.length ≤ 30 := by decide +kernel
theorem tf0e : (rz_rt [] 30 0 []).1 = some 0 := by decide +kernel
theorem tf1a : ty_ok 47511820907318 8 56 [] = true := by decide +kernel
theorem tf1b : ty_ok 0 8 56 (ty_tx 47511820907318 8 56 []) = true := by decide +kernel
theorem tf1c : ty_tx 0 8 56 (ty_tx 47511820907318 8 56 []) = [43, 54, 53, 53, 51, 54] := by decide +kernel
theorem tf1d : (rz_rt [43, 54, 53, 53, 51, 54] 30 0 []).2.length ≤ 30 := by decide +kernel
theorem tf1e : (rz_rt [43, 54, 53, 53, 51, 54] 30 0 []).1 = some 5 := by decide +kernel
theorem tf2a : ty_ok 12157550001664048 8 56 [] = true := by decide +kernel
theorem tf2b : ty_ok 0 8 56 (ty_tx 12157550001664048 8 56 []) = true := by decide +kernel
theorem tf2c : ty_tx 0 8 56 (ty_tx 12157550001664048 8 56 []) = [43, 49, 58, 49, 48, 48, 48] := by decide +kernel
theorem tf2d : (rz_rt [43, 49, 58, 49, 48, 48, 48] 30 0 []).2.length ≤ 30 := by decide +kernel
theorem tf2e : (rz_rt [43, 49, 58, 49, 48, 48, 48] 30 0 []).1 = some 6 := by decide +kernel
theorem tf3a : ty_ok 516221317168 8 56 [] = true := by decide +kernel
theorem tf3b : ty_ok 0 8 56 (ty_tx 516221317168 8 56 []) = true := by decide +kernel
theorem tf3c : ty_tx 0 8 56 (ty_tx 516221317168 8 56 []) = [120, 49, 48, 48, 48] := by decide +kernel
theorem tf3d : (rz_rt [120, 49, 48, 48, 48] 30 0 []).2.length ≤ 30 := by decide +kernel
theorem tf3e : (rz_rt [120, 49, 48, 48, 48] 30 0 []).1 = some 4 := by decide +kernel
theorem tf4a : ty_ok 15411 8 56 [] = true := by decide +kernel
theorem tf4b : ty_ok 0 8 56 (ty_tx 15411 8 56 []) = true := by decide +kernel
theorem tf4c : ty_tx 0 8 56 (ty_tx 15411 8 56 []) = [60, 51] := by decide +kernel
theorem tf4d : (rz_rt [60, 51] 30 0 []).2.length ≤ 30 := by decide +kernel
theorem tf4e : (rz_rt [60, 51] 30 0 []).1 = some 2 := by decide +kernel
theorem tf5a : ty_ok 2830385 8 56 [] = true := by decide +kernel
theorem tf5b : ty_ok 0 8 56 (ty_tx 2830385 8 56 []) = true := by decide +kernel
theorem tf5c : ty_tx 0 8 56 (ty_tx 2830385 8 56 []) = [43, 48, 49] := by decide +kernel
theorem tf5d : (rz_rt [43, 48, 49] 30 0 []).2.length ≤ 30 := by decide +kernel
theorem tf5e : (rz_rt [43, 48, 49] 30 0 []).1 = some 2 := by decide +kernel
theorem tf6a : ty_ok 11564 8 56 [] = true := by decide +kernel
theorem tf6b : ty_ok 0 8 56 (ty_tx 11564 8 56 []) = true := by decide +kernel
theorem tf6c : ty_tx 0 8 56 (ty_tx 11564 8 56 []) = [45, 44] := by decide +kernel
theorem tf6d : (rz_rt [45, 44] 30 0 []).2.length ≤ 30 := by decide +kernel
theorem tf6e : (rz_rt [45, 44] 30 0 []).1 = some 2 := by decide +kernel
theorem tf7a : ty_ok 45 8 56 [] = true := by decide +kernel
theorem tf7b : ty_ok 0 8 56 (ty_tx 45 8 56 []) = true := by decide +kernel
theorem tf7c : ty_tx 0 8 56 (ty_tx 45 8 56 []) = [45] := by decide +kernel
theorem tf7d : (rz_rt [45] 30 0 []).2.length ≤ 30 := by decide +kernel
theorem tf7e : (rz_rt [45] 30 0 []).1 = none := by decide +kernel
theorem tf8a : ty_ok 2830650 8 56 [] = true := by decide +kernel
theorem tf8b : ty_ok 0 8 56 (ty_tx 2830650 8 56 []) = true := by decide +kernel
theorem tf8c : ty_tx 0 8 56 (ty_tx 2830650 8 56 []) = [43, 49, 58] := by decide +kernel
theorem tf8d : (rz_rt [43, 49, 58] 30 0 []).2.length ≤ 30 := by decide +kernel
theorem tf8e : (rz_rt [43, 49, 58] 30 0 []).1 = some 3 := by decide +kernel
theorem tf9a : ty_ok 120 8 56 [] = true := by decide +kernel
theorem tf9b : ty_ok 0 8 56 (ty_tx 120 8 56 []) = true := by decide +kernel
theorem tf9c : ty_tx 0 8 56 (ty_tx 120 8 56 []) = [120] := by decide +kernel
theorem tf9d : (rz_rt [120] 30 0 []).2.length ≤ 30 := by decide +kernel
theorem tf9e : (rz_rt [120] 30 0 []).1 = some 1 := by decide +kernel
theorem tf10a : ty_ok 3945277 8 56 [] = true := by decide +kernel
theorem tf10b : ty_ok 0 8 56 (ty_tx 3945277 8 56 []) = true := by decide +kernel
theorem tf10c : ty_tx 0 8 56 (ty_tx 3945277 8 56 []) = [60, 51, 61] := by decide +kernel
theorem tf10d : (rz_rt [60, 51, 61] 30 0 []).2.length ≤ 30 := by decide +kernel
theorem tf10e : (rz_rt [60, 51, 61] 30 0 []).1 = some 3 := by decide +kernel
theorem tf11a : ty_ok 4337878169118126901 8 56 [] = true := by decide +kernel
theorem tf11b : ty_ok 0 8 56 (ty_tx 4337878169118126901 8 56 []) = true := by decide +kernel
theorem tf11c : ty_tx 0 8 56 (ty_tx 4337878169118126901 8 56 []) = [60, 51, 61, 54, 53, 53, 51, 53] := by decide +kernel
theorem tf11d : (rz_rt [60, 51, 61, 54, 53, 53, 51, 53] 30 0 []).2.length ≤ 30 := by decide +kernel
theorem tf11e : (rz_rt [60, 51, 61, 54, 53, 53, 51, 53] 30 0 []).1 = none := by decide +kernel
theorem tf12a : ty_ok 3113734694981941817 8 56 [] = true := by decide +kernel
theorem tf12b : ty_ok 0 8 56 (ty_tx 3113734694981941817 8 56 []) = true := by decide +kernel
theorem tf12c : ty_tx 0 8 56 (ty_tx 3113734694981941817 8 56 []) = [43, 54, 53, 53, 51, 53, 58, 57] := by decide +kernel
theorem tf12d : (rz_rt [43, 54, 53, 53, 51, 53, 58, 57] 30 0 []).2.length ≤ 30 := by decide +kernel
theorem tf12e : (rz_rt [43, 54, 53, 53, 51, 53, 58, 57] 30 0 []).1 = none := by decide +kernel
theorem tf13a : ty_ok 97 8 56 [] = true := by decide +kernel
theorem tf13b : ty_ok 0 8 56 (ty_tx 97 8 56 []) = true := by decide +kernel
theorem tf13c : ty_tx 0 8 56 (ty_tx 97 8 56 []) = [97] := by decide +kernel
theorem tf13d : (rz_rt [97] 30 0 []).2.length ≤ 30 := by decide +kernel
theorem tf13e : (rz_rt [97] 30 0 []).1 = some 0 := by decide +kernel
theorem tf14a : ty_ok 11565 8 56 [] = true := by decide +kernel
theorem tf14b : ty_ok 0 8 56 (ty_tx 11565 8 56 []) = true := by decide +kernel
theorem tf14c : ty_tx 0 8 56 (ty_tx 11565 8 56 []) = [45, 45] := by decide +kernel
theorem tf14d : (rz_rt [45, 45] 30 0 []).2.length ≤ 30 := by decide +kernel
theorem tf14e : (rz_rt [45, 45] 30 0 []).1 = some 1 := by decide +kernel
theorem tf15a : ty_ok 185509490738 8 56 [] = true := by decide +kernel
theorem tf15b : ty_ok 0 8 56 (ty_tx 185509490738 8 56 []) = true := by decide +kernel
theorem tf15c : ty_tx 0 8 56 (ty_tx 185509490738 8 56 []) = [43, 49, 58, 48, 50] := by decide +kernel
theorem tf15d : (rz_rt [43, 49, 58, 48, 50] 30 0 []).2.length ≤ 30 := by decide +kernel
theorem tf15e : (rz_rt [43, 49, 58, 48, 50] 30 0 []).1 = some 4 := by decide +kernel
theorem tf16a : ty_ok 16942581639298353 8 56 [] = true := by decide +kernel
theorem tf16b : ty_ok 0 8 56 (ty_tx 16942581639298353 8 56 []) = true := by decide +kernel
theorem tf16c : ty_tx 0 8 56 (ty_tx 16942581639298353 8 56 []) = [60, 49, 48, 48, 48, 61, 49] := by decide +kernel
theorem tf16d : (rz_rt [60, 49, 48, 48, 48, 61, 49] 30 0 []).2.length ≤ 30 := by decide +kernel
theorem tf16e : (rz_rt [60, 49, 48, 48, 48, 61, 49] 30 0 []).1 = some 4 := by decide +kernel
theorem tf17a : ty_ok 12715268667878201 8 56 [] = true := by decide +kernel
theorem tf17b : ty_ok 0 8 56 (ty_tx 12715268667878201 8 56 []) = true := by decide +kernel
theorem tf17c : ty_tx 0 8 56 (ty_tx 12715268667878201 8 56 []) = [45, 44, 120, 48, 44, 43, 57] := by decide +kernel
theorem tf17d : (rz_rt [45, 44, 120, 48, 44, 43, 57] 30 0 []).2.length ≤ 30 := by decide +kernel
theorem tf17e : (rz_rt [45, 44, 120, 48, 44, 43, 57] 30 0 []).1 = none := by decide +kernel
set_option maxHeartbeats 4000000 in
set_option maxRecDepth 100000 in
theorem tx_1 {d : Nat} {hp : rz_Hp} {R : Option Value → rz_Hp → Prop} {l0 l1 : Option Value} (kk : ∀ hp', rz_ex hp.2.1 hp hp' → hp'.2.1 = hp.2.1 + 1035 → hp'.2.2 = hp.2.2 + 28593 → rz_ev (d + 9) 126 99 [l0, l1] [] hp' R) : rz_ev (d + 9) 126 0 [l0, l1] [] hp R := by
  simp only [↓ri_126_0, ↓ri_126_1, ↓ri_126_2, Option.some.injEq, Prod.mk.injEq, exists_eq_left', exists_eq', exists_and_left, exists_and_right, true_and, and_true, true_or, or_true, and_self, and_assoc, Option.toList_some, Option.toList_none, List.cons_append, List.nil_append, ↓reduceIte, rz_x01, rz_x10]
  refine q_faultOf (d := d + 1) (r := 0) tf0a tf0b tf0c tf0d (by first | (rw [tf0e]; done) | (rw [tf0e]; decide)) (by first | (rw [tf0e]; done) | (rw [tf0e]; decide)) (fun hp0 x0 e0 => ?_)
  have m0 : hp0.2.1 = hp.2.1 + 115 := by rw [e0]
  have w0 : hp0.2.2 = hp.2.2 + 3177 := by rw [e0]
  have a0 : rz_ex hp.2.1 hp hp0 := x0
  simp only [↓ri_126_5, ↓ri_126_8, ↓ri_126_11, ↓ri_126_12, Option.some.injEq, Prod.mk.injEq, exists_eq_left', exists_eq', exists_and_left, exists_and_right, true_and, and_true, true_or, or_true, and_self, and_assoc, Option.toList_some, Option.toList_none, List.cons_append, List.nil_append, ↓reduceIte, rz_x01, rz_x10]
  refine q_faultOf (d := d + 1) (r := 5) tf1a tf1b tf1c tf1d (by first | (rw [tf1e]; done) | (rw [tf1e]; decide)) (by first | (rw [tf1e]; done) | (rw [tf1e]; decide)) (fun hp1 x1 e1 => ?_)
  have m1 : hp1.2.1 = hp.2.1 + 230 := by rw [e1]; show hp0.2.1 + 115 = _; omega
  have w1 : hp1.2.2 = hp.2.2 + 6354 := by rw [e1]; show hp0.2.2 + 3177 = _; omega
  have a1 : rz_ex hp.2.1 hp hp1 := a0.tr (x1.wd (by omega))
  simp only [↓ri_126_15, ↓ri_126_16, ↓ri_126_19, ↓ri_126_22, ↓ri_126_23, Option.some.injEq, Prod.mk.injEq, exists_eq_left', exists_eq', exists_and_left, exists_and_right, true_and, and_true, true_or, or_true, and_self, and_assoc, Option.toList_some, Option.toList_none, List.cons_append, List.nil_append, ↓reduceIte, rz_x01, rz_x10]
  refine q_faultOf (d := d + 1) (r := 6) tf2a tf2b tf2c tf2d (by first | (rw [tf2e]; done) | (rw [tf2e]; decide)) (by first | (rw [tf2e]; done) | (rw [tf2e]; decide)) (fun hp2 x2 e2 => ?_)
  have m2 : hp2.2.1 = hp.2.1 + 345 := by rw [e2]; show hp1.2.1 + 115 = _; omega
  have w2 : hp2.2.2 = hp.2.2 + 9531 := by rw [e2]; show hp1.2.2 + 3177 = _; omega
  have a2 : rz_ex hp.2.1 hp hp2 := a1.tr (x2.wd (by omega))
  simp only [↓ri_126_26, ↓ri_126_28, ↓ri_126_31, ↓ri_126_34, ↓ri_126_35, Option.some.injEq, Prod.mk.injEq, exists_eq_left', exists_eq', exists_and_left, exists_and_right, true_and, and_true, true_or, or_true, and_self, and_assoc, Option.toList_some, Option.toList_none, List.cons_append, List.nil_append, ↓reduceIte, rz_x01, rz_x10]
  refine q_faultOf (d := d + 1) (r := 4) tf3a tf3b tf3c tf3d (by first | (rw [tf3e]; done) | (rw [tf3e]; decide)) (by first | (rw [tf3e]; done) | (rw [tf3e]; decide)) (fun hp3 x3 e3 => ?_)
  have m3 : hp3.2.1 = hp.2.1 + 460 := by rw [e3]; show hp2.2.1 + 115 = _; omega
  have w3 : hp3.2.2 = hp.2.2 + 12708 := by rw [e3]; show hp2.2.2 + 3177 = _; omega
  have a3 : rz_ex hp.2.1 hp hp3 := a2.tr (x3.wd (by omega))
  simp only [↓ri_126_38, ↓ri_126_39, ↓ri_126_42, ↓ri_126_45, ↓ri_126_46, Option.some.injEq, Prod.mk.injEq, exists_eq_left', exists_eq', exists_and_left, exists_and_right, true_and, and_true, true_or, or_true, and_self, and_assoc, Option.toList_some, Option.toList_none, List.cons_append, List.nil_append, ↓reduceIte, rz_x01, rz_x10]
  refine q_faultOf (d := d + 1) (r := 2) tf4a tf4b tf4c tf4d (by first | (rw [tf4e]; done) | (rw [tf4e]; decide)) (by first | (rw [tf4e]; done) | (rw [tf4e]; decide)) (fun hp4 x4 e4 => ?_)
  have m4 : hp4.2.1 = hp.2.1 + 575 := by rw [e4]; show hp3.2.1 + 115 = _; omega
  have w4 : hp4.2.2 = hp.2.2 + 15885 := by rw [e4]; show hp3.2.2 + 3177 = _; omega
  have a4 : rz_ex hp.2.1 hp hp4 := a3.tr (x4.wd (by omega))
  simp only [↓ri_126_49, ↓ri_126_50, ↓ri_126_53, ↓ri_126_56, ↓ri_126_57, Option.some.injEq, Prod.mk.injEq, exists_eq_left', exists_eq', exists_and_left, exists_and_right, true_and, and_true, true_or, or_true, and_self, and_assoc, Option.toList_some, Option.toList_none, List.cons_append, List.nil_append, ↓reduceIte, rz_x01, rz_x10]
  refine q_faultOf (d := d + 1) (r := 2) tf5a tf5b tf5c tf5d (by first | (rw [tf5e]; done) | (rw [tf5e]; decide)) (by first | (rw [tf5e]; done) | (rw [tf5e]; decide)) (fun hp5 x5 e5 => ?_)
  have m5 : hp5.2.1 = hp.2.1 + 690 := by rw [e5]; show hp4.2.1 + 115 = _; omega
  have w5 : hp5.2.2 = hp.2.2 + 19062 := by rw [e5]; show hp4.2.2 + 3177 = _; omega
  have a5 : rz_ex hp.2.1 hp hp5 := a4.tr (x5.wd (by omega))
  simp only [↓ri_126_60, ↓ri_126_61, ↓ri_126_64, ↓ri_126_67, ↓ri_126_68, Option.some.injEq, Prod.mk.injEq, exists_eq_left', exists_eq', exists_and_left, exists_and_right, true_and, and_true, true_or, or_true, and_self, and_assoc, Option.toList_some, Option.toList_none, List.cons_append, List.nil_append, ↓reduceIte, rz_x01, rz_x10]
  refine q_faultOf (d := d + 1) (r := 2) tf6a tf6b tf6c tf6d (by first | (rw [tf6e]; done) | (rw [tf6e]; decide)) (by first | (rw [tf6e]; done) | (rw [tf6e]; decide)) (fun hp6 x6 e6 => ?_)
  have m6 : hp6.2.1 = hp.2.1 + 805 := by rw [e6]; show hp5.2.1 + 115 = _; omega
  have w6 : hp6.2.2 = hp.2.2 + 22239 := by rw [e6]; show hp5.2.2 + 3177 = _; omega
  have a6 : rz_ex hp.2.1 hp hp6 := a5.tr (x6.wd (by omega))
  simp only [↓ri_126_71, ↓ri_126_72, ↓ri_126_75, ↓ri_126_78, ↓ri_126_79, Option.some.injEq, Prod.mk.injEq, exists_eq_left', exists_eq', exists_and_left, exists_and_right, true_and, and_true, true_or, or_true, and_self, and_assoc, Option.toList_some, Option.toList_none, List.cons_append, List.nil_append, ↓reduceIte, rz_x01, rz_x10]
  refine q_faultOf (d := d + 1) (r := (-1)) tf7a tf7b tf7c tf7d (by first | (rw [tf7e]; done) | (rw [tf7e]; decide)) (by first | (rw [tf7e]; done) | (rw [tf7e]; decide)) (fun hp7 x7 e7 => ?_)
  have m7 : hp7.2.1 = hp.2.1 + 920 := by rw [e7]; show hp6.2.1 + 115 = _; omega
  have w7 : hp7.2.2 = hp.2.2 + 25416 := by rw [e7]; show hp6.2.2 + 3177 = _; omega
  have a7 : rz_ex hp.2.1 hp hp7 := a6.tr (x7.wd (by omega))
  simp only [↓ri_126_82, ↓ri_126_83, ↓ri_126_86, ↓ri_126_89, ↓ri_126_90, Option.some.injEq, Prod.mk.injEq, exists_eq_left', exists_eq', exists_and_left, exists_and_right, true_and, and_true, true_or, or_true, and_self, and_assoc, Option.toList_some, Option.toList_none, List.cons_append, List.nil_append, ↓reduceIte, rz_x01, rz_x10]
  refine q_faultOf (d := d + 1) (r := 3) tf8a tf8b tf8c tf8d (by first | (rw [tf8e]; done) | (rw [tf8e]; decide)) (by first | (rw [tf8e]; done) | (rw [tf8e]; decide)) (fun hp8 x8 e8 => ?_)
  have m8 : hp8.2.1 = hp.2.1 + 1035 := by rw [e8]; show hp7.2.1 + 115 = _; omega
  have w8 : hp8.2.2 = hp.2.2 + 28593 := by rw [e8]; show hp7.2.2 + 3177 = _; omega
  have a8 : rz_ex hp.2.1 hp hp8 := a7.tr (x8.wd (by omega))
  simp only [↓ri_126_93, ↓ri_126_94, ↓ri_126_97, ↓ri_126_98, Option.some.injEq, Prod.mk.injEq, exists_eq_left', exists_eq', exists_and_left, exists_and_right, true_and, and_true, true_or, or_true, and_self, and_assoc, Option.toList_some, Option.toList_none, List.cons_append, List.nil_append, ↓reduceIte, rz_x01, rz_x10]
  exact kk _ a8 m8 w8
set_option maxHeartbeats 4000000 in
set_option maxRecDepth 100000 in
theorem tx_2 {d : Nat} {hp : rz_Hp} {R : Option Value → rz_Hp → Prop} {l0 l1 : Option Value} (kk : ∀ hp', rz_ex hp.2.1 hp hp' → hp'.2.1 = hp.2.1 + 1035 → hp'.2.2 = hp.2.2 + 28593 → rz_ev (d + 9) 126 199 [l0, l1] [] hp' R) : rz_ev (d + 9) 126 99 [l0, l1] [] hp R := by
  simp only [↓ri_126_99, ↓ri_126_102, ↓ri_126_103, Option.some.injEq, Prod.mk.injEq, exists_eq_left', exists_eq', exists_and_left, exists_and_right, true_and, and_true, true_or, or_true, and_self, and_assoc, Option.toList_some, Option.toList_none, List.cons_append, List.nil_append, ↓reduceIte, rz_x01, rz_x10]
  refine q_faultOf (d := d + 1) (r := 1) tf9a tf9b tf9c tf9d (by first | (rw [tf9e]; done) | (rw [tf9e]; decide)) (by first | (rw [tf9e]; done) | (rw [tf9e]; decide)) (fun hp0 x0 e0 => ?_)
  have m0 : hp0.2.1 = hp.2.1 + 115 := by rw [e0]
  have w0 : hp0.2.2 = hp.2.2 + 3177 := by rw [e0]
  have a0 : rz_ex hp.2.1 hp hp0 := x0
  simp only [↓ri_126_106, ↓ri_126_107, ↓ri_126_110, ↓ri_126_113, ↓ri_126_114, Option.some.injEq, Prod.mk.injEq, exists_eq_left', exists_eq', exists_and_left, exists_and_right, true_and, and_true, true_or, or_true, and_self, and_assoc, Option.toList_some, Option.toList_none, List.cons_append, List.nil_append, ↓reduceIte, rz_x01, rz_x10]
  refine q_faultOf (d := d + 1) (r := 3) tf10a tf10b tf10c tf10d (by first | (rw [tf10e]; done) | (rw [tf10e]; decide)) (by first | (rw [tf10e]; done) | (rw [tf10e]; decide)) (fun hp1 x1 e1 => ?_)
  have m1 : hp1.2.1 = hp.2.1 + 230 := by rw [e1]; show hp0.2.1 + 115 = _; omega
  have w1 : hp1.2.2 = hp.2.2 + 6354 := by rw [e1]; show hp0.2.2 + 3177 = _; omega
  have a1 : rz_ex hp.2.1 hp hp1 := a0.tr (x1.wd (by omega))
  simp only [↓ri_126_117, ↓ri_126_118, ↓ri_126_121, ↓ri_126_124, ↓ri_126_125, Option.some.injEq, Prod.mk.injEq, exists_eq_left', exists_eq', exists_and_left, exists_and_right, true_and, and_true, true_or, or_true, and_self, and_assoc, Option.toList_some, Option.toList_none, List.cons_append, List.nil_append, ↓reduceIte, rz_x01, rz_x10]
  refine q_faultOf (d := d + 1) (r := (-1)) tf11a tf11b tf11c tf11d (by first | (rw [tf11e]; done) | (rw [tf11e]; decide)) (by first | (rw [tf11e]; done) | (rw [tf11e]; decide)) (fun hp2 x2 e2 => ?_)
  have m2 : hp2.2.1 = hp.2.1 + 345 := by rw [e2]; show hp1.2.1 + 115 = _; omega
  have w2 : hp2.2.2 = hp.2.2 + 9531 := by rw [e2]; show hp1.2.2 + 3177 = _; omega
  have a2 : rz_ex hp.2.1 hp hp2 := a1.tr (x2.wd (by omega))
  simp only [↓ri_126_128, ↓ri_126_129, ↓ri_126_132, ↓ri_126_135, ↓ri_126_136, Option.some.injEq, Prod.mk.injEq, exists_eq_left', exists_eq', exists_and_left, exists_and_right, true_and, and_true, true_or, or_true, and_self, and_assoc, Option.toList_some, Option.toList_none, List.cons_append, List.nil_append, ↓reduceIte, rz_x01, rz_x10]
  refine q_faultOf (d := d + 1) (r := (-1)) tf12a tf12b tf12c tf12d (by first | (rw [tf12e]; done) | (rw [tf12e]; decide)) (by first | (rw [tf12e]; done) | (rw [tf12e]; decide)) (fun hp3 x3 e3 => ?_)
  have m3 : hp3.2.1 = hp.2.1 + 460 := by rw [e3]; show hp2.2.1 + 115 = _; omega
  have w3 : hp3.2.2 = hp.2.2 + 12708 := by rw [e3]; show hp2.2.2 + 3177 = _; omega
  have a3 : rz_ex hp.2.1 hp hp3 := a2.tr (x3.wd (by omega))
  simp only [↓ri_126_139, ↓ri_126_140, ↓ri_126_143, ↓ri_126_146, ↓ri_126_147, Option.some.injEq, Prod.mk.injEq, exists_eq_left', exists_eq', exists_and_left, exists_and_right, true_and, and_true, true_or, or_true, and_self, and_assoc, Option.toList_some, Option.toList_none, List.cons_append, List.nil_append, ↓reduceIte, rz_x01, rz_x10]
  refine q_faultOf (d := d + 1) (r := 0) tf13a tf13b tf13c tf13d (by first | (rw [tf13e]; done) | (rw [tf13e]; decide)) (by first | (rw [tf13e]; done) | (rw [tf13e]; decide)) (fun hp4 x4 e4 => ?_)
  have m4 : hp4.2.1 = hp.2.1 + 575 := by rw [e4]; show hp3.2.1 + 115 = _; omega
  have w4 : hp4.2.2 = hp.2.2 + 15885 := by rw [e4]; show hp3.2.2 + 3177 = _; omega
  have a4 : rz_ex hp.2.1 hp hp4 := a3.tr (x4.wd (by omega))
  simp only [↓ri_126_150, ↓ri_126_153, ↓ri_126_156, ↓ri_126_157, Option.some.injEq, Prod.mk.injEq, exists_eq_left', exists_eq', exists_and_left, exists_and_right, true_and, and_true, true_or, or_true, and_self, and_assoc, Option.toList_some, Option.toList_none, List.cons_append, List.nil_append, ↓reduceIte, rz_x01, rz_x10]
  refine q_faultOf (d := d + 1) (r := 1) tf14a tf14b tf14c tf14d (by first | (rw [tf14e]; done) | (rw [tf14e]; decide)) (by first | (rw [tf14e]; done) | (rw [tf14e]; decide)) (fun hp5 x5 e5 => ?_)
  have m5 : hp5.2.1 = hp.2.1 + 690 := by rw [e5]; show hp4.2.1 + 115 = _; omega
  have w5 : hp5.2.2 = hp.2.2 + 19062 := by rw [e5]; show hp4.2.2 + 3177 = _; omega
  have a5 : rz_ex hp.2.1 hp hp5 := a4.tr (x5.wd (by omega))
  simp only [↓ri_126_160, ↓ri_126_161, ↓ri_126_164, ↓ri_126_167, ↓ri_126_168, Option.some.injEq, Prod.mk.injEq, exists_eq_left', exists_eq', exists_and_left, exists_and_right, true_and, and_true, true_or, or_true, and_self, and_assoc, Option.toList_some, Option.toList_none, List.cons_append, List.nil_append, ↓reduceIte, rz_x01, rz_x10]
  refine q_faultOf (d := d + 1) (r := 4) tf15a tf15b tf15c tf15d (by first | (rw [tf15e]; done) | (rw [tf15e]; decide)) (by first | (rw [tf15e]; done) | (rw [tf15e]; decide)) (fun hp6 x6 e6 => ?_)
  have m6 : hp6.2.1 = hp.2.1 + 805 := by rw [e6]; show hp5.2.1 + 115 = _; omega
  have w6 : hp6.2.2 = hp.2.2 + 22239 := by rw [e6]; show hp5.2.2 + 3177 = _; omega
  have a6 : rz_ex hp.2.1 hp hp6 := a5.tr (x6.wd (by omega))
  simp only [↓ri_126_171, ↓ri_126_172, ↓ri_126_175, ↓ri_126_178, ↓ri_126_179, Option.some.injEq, Prod.mk.injEq, exists_eq_left', exists_eq', exists_and_left, exists_and_right, true_and, and_true, true_or, or_true, and_self, and_assoc, Option.toList_some, Option.toList_none, List.cons_append, List.nil_append, ↓reduceIte, rz_x01, rz_x10]
  refine q_faultOf (d := d + 1) (r := 4) tf16a tf16b tf16c tf16d (by first | (rw [tf16e]; done) | (rw [tf16e]; decide)) (by first | (rw [tf16e]; done) | (rw [tf16e]; decide)) (fun hp7 x7 e7 => ?_)
  have m7 : hp7.2.1 = hp.2.1 + 920 := by rw [e7]; show hp6.2.1 + 115 = _; omega
  have w7 : hp7.2.2 = hp.2.2 + 25416 := by rw [e7]; show hp6.2.2 + 3177 = _; omega
  have a7 : rz_ex hp.2.1 hp hp7 := a6.tr (x7.wd (by omega))
  simp only [↓ri_126_182, ↓ri_126_183, ↓ri_126_186, ↓ri_126_189, ↓ri_126_190, Option.some.injEq, Prod.mk.injEq, exists_eq_left', exists_eq', exists_and_left, exists_and_right, true_and, and_true, true_or, or_true, and_self, and_assoc, Option.toList_some, Option.toList_none, List.cons_append, List.nil_append, ↓reduceIte, rz_x01, rz_x10]
  refine q_faultOf (d := d + 1) (r := (-1)) tf17a tf17b tf17c tf17d (by first | (rw [tf17e]; done) | (rw [tf17e]; decide)) (by first | (rw [tf17e]; done) | (rw [tf17e]; decide)) (fun hp8 x8 e8 => ?_)
  have m8 : hp8.2.1 = hp.2.1 + 1035 := by rw [e8]; show hp7.2.1 + 115 = _; omega
  have w8 : hp8.2.2 = hp.2.2 + 28593 := by rw [e8]; show hp7.2.2 + 3177 = _; omega
  have a8 : rz_ex hp.2.1 hp hp8 := a7.tr (x8.wd (by omega))
  simp only [↓ri_126_193, ↓ri_126_194, ↓ri_126_197, ↓ri_126_198, Option.some.injEq, Prod.mk.injEq, exists_eq_left', exists_eq', exists_and_left, exists_and_right, true_and, and_true, true_or, or_true, and_self, and_assoc, Option.toList_some, Option.toList_none, List.cons_append, List.nil_append, ↓reduceIte, rz_x01, rz_x10]
  exact kk _ a8 m8 w8
def tes0 : rz_E8 := ([], 0, 0, [], 0, 0, 0, 0)
theorem tef0 : ty_ok 3114006231404656940 8 56 [] = true := by decide +kernel
theorem tef1 : ty_tx 3114006231404656940 8 56 [] = [43, 55, 44, 43, 51, 58, 57, 44] := by decide +kernel
theorem tef2 : ty_ok 49668011605301 8 56 [43, 55, 44, 43, 51, 58, 57, 44] = true := by decide +kernel
theorem tef3 : ty_tx 49668011605301 8 56 [43, 55, 44, 43, 51, 58, 57, 44] = [43, 55, 44, 43, 51, 58, 57, 44, 45, 44, 60, 48, 61, 53] := by decide +kernel
theorem tef4 : rz_rt [43, 55, 44, 43, 51, 58, 57, 44, 45, 44, 60, 48, 61, 53] 30 0 [] = (none, [(43, 7, 0), (43, 3, 9), (45, 0, 0), (60, 0, 5)]) := by decide +kernel
def tes1 : rz_E8 := ([(0, 5, 0, 0, 3)], 3, 1, [(1, 3, 9, 1)], 0, 2, 1, 0)
theorem tef5 : (cz_pw [(43, 7, 0), (43, 3, 9), (45, 0, 0), (60, 0, 5)] 0 tes0).1 = none := by decide +kernel
theorem tef6 : (0, (cz_pw [(43, 7, 0), (43, 3, 9), (45, 0, 0), (60, 0, 5)] 0 tes0).2) = ((0 : Int32), tes1) := cz_ok (by decide +kernel)
theorem tef7 : rz_count_ (cz tes1 (fun _ => -5)) ((rz_rec [] (cz tes0 (fun _ => -5))) : List rz_AS).length ([43, 55, 44, 43, 51, 58, 57, 44, 45, 44, 60, 48, 61, 53] : List Int32).length 8 = 1 := by decide +kernel
theorem tef8 : rz_entry_ tes1.1 0 0 = 5 := by decide +kernel
theorem tef9 : rz_tell tes1.2.2.2.1 0 2 = 9 := by decide +kernel
theorem tef10 : ∀ hn tn : Nat, rz_count_ (cz tes1 (fun _ => -5)) hn tn 3 = 3 := fun hn tn => rz_count_w (by decide) (by decide) (by decide +kernel)
theorem tef11 : ty_ok 3255026298693631283 8 56 [] = true := by decide +kernel
theorem tef12 : ty_tx 3255026298693631283 8 56 [] = [45, 44, 45, 44, 60, 48, 61, 51] := by decide +kernel
theorem tef13 : rz_rt [45, 44, 45, 44, 60, 48, 61, 51] 30 0 [] = (none, [(45, 0, 0), (45, 0, 0), (60, 0, 3)]) := by decide +kernel
theorem tef14 : (cz_pw [(45, 0, 0), (45, 0, 0), (60, 0, 3)] 0 tes1).1 = some (2, (-1)) := by decide +kernel
theorem tef15 : rz_refu 0 (nI 2) (-1) = 2 := by decide +kernel
theorem tef16 : rz_refu 1 (nI 2) (-1) = (-1) := by decide +kernel
theorem tef17 : rz_count_ (cz tes1 (fun _ => -5)) ((rz_rec [] (cz tes0 (fun _ => -5))) : List rz_AS).length ([45, 44, 45, 44, 60, 48, 61, 51] : List Int32).length 8 = 1 := by decide +kernel
theorem tef18 : ∀ hn tn : Nat, rz_count_ (cz tes1 (fun _ => -5)) hn tn 2 = 1 := fun hn tn => rz_count_w (by decide) (by decide) (by decide +kernel)
theorem tef19 : ty_ok 11058 8 56 [] = true := by decide +kernel
theorem tef20 : ty_tx 11058 8 56 [] = [43, 50] := by decide +kernel
theorem tef21 : rz_rt [43, 50] 30 0 [] = (none, [(43, 2, 0)]) := by decide +kernel
theorem tef22 : (cz_pw [(43, 2, 0)] 0 tes1).1 = some (0, (-4)) := by decide +kernel
theorem tef23 : rz_refu 0 (nI 0) (-4) = 0 := by decide +kernel
theorem tef24 : rz_refu 1 (nI 0) (-4) = (-4) := by decide +kernel
theorem tef25 : ty_ok 43 8 56 [43, 50] = true := by decide +kernel
theorem tef26 : ty_tx 43 8 56 [43, 50] = [43, 50, 43] := by decide +kernel
theorem tef27 : (rz_rt [43, 50, 43] 30 0 []).1 = some 2 := by decide +kernel
theorem tef28 : ty_ok 2960429 8 56 [] = true := by decide +kernel
theorem tef29 : ty_tx 2960429 8 56 [] = [45, 44, 45] := by decide +kernel
theorem tef30 : rz_rt [45, 44, 45] 30 0 [] = (none, [(45, 0, 0), (45, 0, 0)]) := by decide +kernel
def tes2 : rz_E8 := ([], 5, 2, [(0, 5, 0, 1), (1, 3, 9, 1)], 0, 2, 2, 0)
theorem tef31 : (cz_pw [(45, 0, 0), (45, 0, 0)] 0 tes1).1 = none := by decide +kernel
theorem tef32 : (0, (cz_pw [(45, 0, 0), (45, 0, 0)] 0 tes1).2) = ((0 : Int32), tes2) := cz_ok (by decide +kernel)
theorem tef33 : ∀ hn tn : Nat, rz_count_ (cz tes0 (fun _ => -5)) hn tn 0 = 0 := fun hn tn => rz_count_w (by decide) (by decide) (by decide +kernel)
theorem tef34 : (cz_pw [(45, 0, 0), (45, 0, 0)] 0 tes0).1 = none := by decide +kernel
theorem tef35 : (0, (cz_pw [(45, 0, 0), (45, 0, 0)] 0 tes0).2) = ((0 : Int32), tes0) := cz_ok (by decide +kernel)
theorem tef36 : rz_count_ (cz tes0 (fun _ => -5)) ((rz_rec [] (cz tes0 (fun _ => -5))) : List rz_AS).length ([45, 44, 45] : List Int32).length 8 = 1 := by decide +kernel
set_option maxHeartbeats 4000000 in
set_option maxRecDepth 100000 in
theorem te_A {d o : Nat} {hp : rz_Hp} {R : Option Value → rz_Hp → Prop} {l1 : Option Value} (h : rz_OJ o (cz tes0 (fun _ => -5)) rz_st0 [] [] 0 0 0 hp) (kk : ∀ hp', rz_OJ o (cz tes1 (fun _ => -5)) rz_st0 (rz_rec [] (cz tes0 (fun _ => -5))) [] 0 0 0 hp' → rz_sm o (o + 115) hp hp' → rz_ev (d + 9) 126 286 [some (.ref o), l1] [] hp' R) : rz_ev (d + 9) 126 207 [some (.ref o), l1] [] hp R := by
  have hc := h.co
  simp only [↓ri_126_207, ↓ri_126_208, ↓ri_126_211, Option.some.injEq, Prod.mk.injEq, exists_eq_left', exists_eq', exists_and_left, exists_and_right, true_and, and_true, true_or, or_true, and_self, and_assoc, Option.toList_some, Option.toList_none, List.cons_append, List.nil_append, ↓reduceIte, rz_x01, rz_x10, hc]
  refine q_types (d := d + 6) h tef0 tef1 (fun hp0 h0 s0 => ?_)
  clear hc
  have hc := h0.co
  simp only [↓ri_126_214, ↓ri_126_217, ↓ri_126_218, ↓ri_126_221, Option.some.injEq, Prod.mk.injEq, exists_eq_left', exists_eq', exists_and_left, exists_and_right, true_and, and_true, true_or, or_true, and_self, and_assoc, Option.toList_some, Option.toList_none, List.cons_append, List.nil_append, ↓reduceIte, rz_x01, rz_x10, hc]
  refine q_types (d := d + 6) h0 tef2 tef3 (fun hp1 h1 s1 => ?_)
  clear hc
  have hc := h1.co
  simp only [↓ri_126_224, ↓ri_126_227, ↓ri_126_228, Option.some.injEq, Prod.mk.injEq, exists_eq_left', exists_eq', exists_and_left, exists_and_right, true_and, and_true, true_or, or_true, and_self, and_assoc, Option.toList_some, Option.toList_none, List.cons_append, List.nil_append, ↓reduceIte, rz_x01, rz_x10, hc]
  refine q_perform_y (d := d + 2) (n := 4) h1 tef4 tef5 (cz_snd tef6) (by decide) (fun hp2 h2 s2 => ?_)
  clear hc
  have hc := h2.co
  have b0 := fun (R : Option Value → rz_Hp → Prop) => (q_count (d := d + 4) (what := 8) h2 (R := R)).trans (by rw [show rz_count_ (cz tes1 (fun _ => -5)) ((rz_rec [] (cz tes0 (fun _ => -5))) : List rz_AS).length ([43, 55, 44, 43, 51, 58, 57, 44, 45, 44, 60, 48, 61, 53] : List Int32).length 8 = 1 from tef7])
  have b1 := fun (R : Option Value → rz_Hp → Prop) => (q_entry (d := d + 4) (n := 0) (what := 0) h2 (R := R)).trans (by rw [show rz_entry_ (cz tes1 (fun _ => -5)).1 0 0 = 5 from tef8])
  have b2 := fun (R : Option Value → rz_Hp → Prop) => (q_out (d := d + 7) (back := 0) (what := 2) h2 (R := R)).trans (by rw [show rz_tell (cz tes1 (fun _ => -5)).2.2.2.1 0 2 = 9 from tef9])
  have b3 := fun (R : Option Value → rz_Hp → Prop) => (q_count (d := d + 4) (what := 3) h2 (R := R)).trans (by rw [tef10])
  simp only [↓ri_126_231, ↓ri_126_232, ↓ri_126_235, ↓ri_126_236, ↓ri_126_238, ↓ri_126_241, ↓ri_126_242, ↓ri_126_245, ↓ri_126_246, ↓ri_126_247, ↓ri_126_248, ↓ri_126_251, ↓ri_126_252, ↓ri_126_255, ↓ri_126_256, ↓ri_126_257, ↓ri_126_258, ↓ri_126_261, ↓ri_126_263, ↓ri_126_266, ↓ri_126_267, ↓ri_126_268, ↓ri_126_271, ↓ri_126_272, ↓ri_126_275, ↓ri_126_276, Option.some.injEq, Prod.mk.injEq, exists_eq_left', exists_eq', exists_and_left, exists_and_right, true_and, and_true, true_or, or_true, and_self, and_assoc, Option.toList_some, Option.toList_none, List.cons_append, List.nil_append, ↓reduceIte, rz_x01, rz_x10, hc, b0, b1, b2, b3]
  refine q_clearText (d := d + 7) h2 (fun hp3 h3 s3 => ?_)
  rw [show nI ([43, 55, 44, 43, 51, 58, 57, 44, 45, 44, 60, 48, 61, 53] : List Int32).length = 14 from by decide +kernel]
  clear hc
  have hc := h3.co
  simp only [↓ri_126_279, ↓ri_126_281, ↓ri_126_284, ↓ri_126_285, Option.some.injEq, Prod.mk.injEq, exists_eq_left', exists_eq', exists_and_left, exists_and_right, true_and, and_true, true_or, or_true, and_self, and_assoc, Option.toList_some, Option.toList_none, List.cons_append, List.nil_append, ↓reduceIte, rz_x01, rz_x10, hc]
  exact kk _ h3 (((s0.tr s1).tr s2).tr s3)
set_option maxHeartbeats 4000000 in
set_option maxRecDepth 100000 in
theorem te_B {d o : Nat} {hp : rz_Hp} {R : Option Value → rz_Hp → Prop} {l1 : Option Value} (h : rz_OJ o (cz tes1 (fun _ => -5)) rz_st0 (rz_rec [] (cz tes0 (fun _ => -5))) [] 0 0 0 hp) (kk : ∀ hp', rz_OJ o (cz tes1 (fun _ => -5)) rz_st0 (rz_rec [] (cz tes0 (fun _ => -5))) [] 0 (nI 2) (-1) hp' → rz_sm o (o + 115) hp hp' → rz_ev (d + 9) 126 363 [some (.ref o), l1] [] hp' R) : rz_ev (d + 9) 126 286 [some (.ref o), l1] [] hp R := by
  have hc := h.co
  simp only [↓ri_126_286, ↓ri_126_287, ↓ri_126_290, Option.some.injEq, Prod.mk.injEq, exists_eq_left', exists_eq', exists_and_left, exists_and_right, true_and, and_true, true_or, or_true, and_self, and_assoc, Option.toList_some, Option.toList_none, List.cons_append, List.nil_append, ↓reduceIte, rz_x01, rz_x10, hc]
  refine q_types (d := d + 6) h tef11 tef12 (fun hp0 h0 s0 => ?_)
  clear hc
  have hc := h0.co
  simp only [↓ri_126_293, ↓ri_126_296, ↓ri_126_297, Option.some.injEq, Prod.mk.injEq, exists_eq_left', exists_eq', exists_and_left, exists_and_right, true_and, and_true, true_or, or_true, and_self, and_assoc, Option.toList_some, Option.toList_none, List.cons_append, List.nil_append, ↓reduceIte, rz_x01, rz_x10, hc]
  refine q_perform_n (d := d + 2) h0 tef13 tef14 (fun hp1 h1 s1 => ?_)
  clear hc
  have hc := h1.co
  have b0 := fun (R : Option Value → rz_Hp → Prop) => (q_refusal (d := d + 8) (what := 0) h1 (R := R)).trans (by rw [show rz_refu 0 (nI 2) (-1) = 2 from tef15])
  have b1 := fun (R : Option Value → rz_Hp → Prop) => (q_refusal (d := d + 8) (what := 1) h1 (R := R)).trans (by rw [show rz_refu 1 (nI 2) (-1) = (-1) from tef16])
  have b2 := fun (R : Option Value → rz_Hp → Prop) => (q_count (d := d + 4) (what := 8) h1 (R := R)).trans (by rw [show rz_count_ (cz tes1 (fun _ => -5)) ((rz_rec [] (cz tes0 (fun _ => -5))) : List rz_AS).length ([45, 44, 45, 44, 60, 48, 61, 51] : List Int32).length 8 = 1 from tef17])
  have b3 := fun (R : Option Value → rz_Hp → Prop) => (q_entry (d := d + 4) (n := 0) (what := 0) h1 (R := R)).trans (by rw [show rz_entry_ (cz tes1 (fun _ => -5)).1 0 0 = 5 from tef8])
  have b4 := fun (R : Option Value → rz_Hp → Prop) => (q_count (d := d + 4) (what := 2) h1 (R := R)).trans (by rw [tef18])
  simp only [↓ri_126_300, ↓ri_126_302, ↓ri_126_305, ↓ri_126_306, ↓ri_126_307, ↓ri_126_310, ↓ri_126_311, ↓ri_126_314, ↓ri_126_315, ↓ri_126_316, ↓ri_126_319, ↓ri_126_320, ↓ri_126_323, ↓ri_126_324, ↓ri_126_326, ↓ri_126_329, ↓ri_126_330, ↓ri_126_333, ↓ri_126_334, ↓ri_126_335, ↓ri_126_336, ↓ri_126_339, ↓ri_126_340, ↓ri_126_343, ↓ri_126_344, ↓ri_126_345, ↓ri_126_348, ↓ri_126_349, ↓ri_126_352, ↓ri_126_353, Option.some.injEq, Prod.mk.injEq, exists_eq_left', exists_eq', exists_and_left, exists_and_right, true_and, and_true, true_or, or_true, and_self, and_assoc, Option.toList_some, Option.toList_none, List.cons_append, List.nil_append, ↓reduceIte, rz_x01, rz_x10, hc, b0, b1, b2, b3, b4]
  refine q_clearText (d := d + 7) h1 (fun hp2 h2 s2 => ?_)
  rw [show nI ([45, 44, 45, 44, 60, 48, 61, 51] : List Int32).length = 8 from by decide +kernel]
  clear hc
  have hc := h2.co
  simp only [↓ri_126_356, ↓ri_126_358, ↓ri_126_361, ↓ri_126_362, Option.some.injEq, Prod.mk.injEq, exists_eq_left', exists_eq', exists_and_left, exists_and_right, true_and, and_true, true_or, or_true, and_self, and_assoc, Option.toList_some, Option.toList_none, List.cons_append, List.nil_append, ↓reduceIte, rz_x01, rz_x10, hc]
  exact kk _ h2 ((s0.tr s1).tr s2)
set_option maxHeartbeats 4000000 in
set_option maxRecDepth 100000 in
theorem te_C {d o : Nat} {hp : rz_Hp} {R : Option Value → rz_Hp → Prop} {l1 : Option Value} (h : rz_OJ o (cz tes1 (fun _ => -5)) rz_st0 (rz_rec [] (cz tes0 (fun _ => -5))) [] 0 (nI 2) (-1) hp) (kk : ∀ hp', rz_OJ o (cz tes0 (fun _ => -5)) rz_st0 [] [45, 44, 45] 0 (nI 0) (-4) hp' → rz_sm o (o + 115) hp hp' → rz_ev (d + 9) 126 490 [some (.ref o), l1] [] hp' R) : rz_ev (d + 9) 126 363 [some (.ref o), l1] [] hp R := by
  have hc := h.co
  simp only [↓ri_126_363, ↓ri_126_364, ↓ri_126_367, Option.some.injEq, Prod.mk.injEq, exists_eq_left', exists_eq', exists_and_left, exists_and_right, true_and, and_true, true_or, or_true, and_self, and_assoc, Option.toList_some, Option.toList_none, List.cons_append, List.nil_append, ↓reduceIte, rz_x01, rz_x10, hc]
  refine q_types (d := d + 6) h tef19 tef20 (fun hp0 h0 s0 => ?_)
  clear hc
  have hc := h0.co
  simp only [↓ri_126_370, ↓ri_126_373, ↓ri_126_374, Option.some.injEq, Prod.mk.injEq, exists_eq_left', exists_eq', exists_and_left, exists_and_right, true_and, and_true, true_or, or_true, and_self, and_assoc, Option.toList_some, Option.toList_none, List.cons_append, List.nil_append, ↓reduceIte, rz_x01, rz_x10, hc]
  refine q_perform_n (d := d + 2) h0 tef21 tef22 (fun hp1 h1 s1 => ?_)
  clear hc
  have hc := h1.co
  have b0 := fun (R : Option Value → rz_Hp → Prop) => (q_refusal (d := d + 8) (what := 0) h1 (R := R)).trans (by rw [show rz_refu 0 (nI 0) (-4) = 0 from tef23])
  have b1 := fun (R : Option Value → rz_Hp → Prop) => (q_refusal (d := d + 8) (what := 1) h1 (R := R)).trans (by rw [show rz_refu 1 (nI 0) (-4) = (-4) from tef24])
  simp only [↓ri_126_377, ↓ri_126_379, ↓ri_126_382, ↓ri_126_383, ↓ri_126_384, ↓ri_126_387, ↓ri_126_390, ↓ri_126_391, ↓ri_126_392, ↓ri_126_395, ↓ri_126_397, ↓ri_126_400, ↓ri_126_401, ↓ri_126_404, Option.some.injEq, Prod.mk.injEq, exists_eq_left', exists_eq', exists_and_left, exists_and_right, true_and, and_true, true_or, or_true, and_self, and_assoc, Option.toList_some, Option.toList_none, List.cons_append, List.nil_append, ↓reduceIte, rz_x01, rz_x10, hc, b0, b1]
  refine q_types (d := d + 6) h1 tef25 tef26 (fun hp2 h2 s2 => ?_)
  clear hc
  have hc := h2.co
  simp only [↓ri_126_407, ↓ri_126_410, ↓ri_126_411, Option.some.injEq, Prod.mk.injEq, exists_eq_left', exists_eq', exists_and_left, exists_and_right, true_and, and_true, true_or, or_true, and_self, and_assoc, Option.toList_some, Option.toList_none, List.cons_append, List.nil_append, ↓reduceIte, rz_x01, rz_x10, hc]
  refine q_perform_f (d := d + 2) (r := (-102)) h2 tef27 (by decide) (fun hp3 h3 s3 => ?_)
  clear hc
  have hc := h3.co
  simp only [↓ri_126_414, ↓ri_126_416, ↓ri_126_419, ↓ri_126_420, Option.some.injEq, Prod.mk.injEq, exists_eq_left', exists_eq', exists_and_left, exists_and_right, true_and, and_true, true_or, or_true, and_self, and_assoc, Option.toList_some, Option.toList_none, List.cons_append, List.nil_append, ↓reduceIte, rz_x01, rz_x10, hc]
  refine q_clearText (d := d + 7) h3 (fun hp4 h4 s4 => ?_)
  rw [show nI ([43, 50, 43] : List Int32).length = 3 from by decide +kernel]
  clear hc
  have hc := h4.co
  simp only [↓ri_126_423, ↓ri_126_424, ↓ri_126_427, ↓ri_126_428, ↓ri_126_431, Option.some.injEq, Prod.mk.injEq, exists_eq_left', exists_eq', exists_and_left, exists_and_right, true_and, and_true, true_or, or_true, and_self, and_assoc, Option.toList_some, Option.toList_none, List.cons_append, List.nil_append, ↓reduceIte, rz_x01, rz_x10, hc]
  refine q_types (d := d + 6) h4 tef28 tef29 (fun hp5 h5 s5 => ?_)
  clear hc
  have hc := h5.co
  simp only [↓ri_126_434, ↓ri_126_437, ↓ri_126_438, Option.some.injEq, Prod.mk.injEq, exists_eq_left', exists_eq', exists_and_left, exists_and_right, true_and, and_true, true_or, or_true, and_self, and_assoc, Option.toList_some, Option.toList_none, List.cons_append, List.nil_append, ↓reduceIte, rz_x01, rz_x10, hc]
  refine q_perform_y (d := d + 2) (n := 2) h5 tef30 tef31 (cz_snd tef32) (by decide) (fun hp6 h6 s6 => ?_)
  clear hc
  have hc := h6.co
  have b2 := fun (R : Option Value → rz_Hp → Prop) => (q_refusal (d := d + 8) (what := 1) h6 (R := R)).trans (by rw [show rz_refu 1 (nI 0) (-4) = (-4) from tef24])
  simp only [↓ri_126_441, ↓ri_126_442, ↓ri_126_445, ↓ri_126_446, ↓ri_126_447, ↓ri_126_450, ↓ri_126_452, ↓ri_126_455, ↓ri_126_456, Option.some.injEq, Prod.mk.injEq, exists_eq_left', exists_eq', exists_and_left, exists_and_right, true_and, and_true, true_or, or_true, and_self, and_assoc, Option.toList_some, Option.toList_none, List.cons_append, List.nil_append, ↓reduceIte, rz_x01, rz_x10, hc, b2]
  refine q_undo2 (d := d + 3) (n := 1) h6 (by decide +kernel) (by decide +kernel) (fun hp7 h7 s7 => ?_)
  rw [show nI 1 = 1 from rfl]
  clear hc
  have hc := h7.co
  simp only [↓ri_126_459, ↓ri_126_460, ↓ri_126_463, ↓ri_126_464, Option.some.injEq, Prod.mk.injEq, exists_eq_left', exists_eq', exists_and_left, exists_and_right, true_and, and_true, true_or, or_true, and_self, and_assoc, Option.toList_some, Option.toList_none, List.cons_append, List.nil_append, ↓reduceIte, rz_x01, rz_x10, hc]
  refine q_undo2 (d := d + 3) (n := 0) h7 (by decide +kernel) (by decide +kernel) (fun hp8 h8 s8 => ?_)
  rw [show nI 0 = 0 from rfl]
  clear hc
  have hc := h8.co
  have b3 := fun (R : Option Value → rz_Hp → Prop) => (q_refusal (d := d + 8) (what := 1) h8 (R := R)).trans (by rw [show rz_refu 1 (nI 0) (-4) = (-4) from tef24])
  have b4 := fun (R : Option Value → rz_Hp → Prop) => (q_count (d := d + 4) (what := 0) h8 (R := R)).trans (by rw [tef33])
  simp only [↓ri_126_467, ↓ri_126_470, ↓ri_126_471, ↓ri_126_472, ↓ri_126_475, ↓ri_126_477, ↓ri_126_480, ↓ri_126_481, ↓ri_126_482, ↓ri_126_485, ↓ri_126_488, ↓ri_126_489, Option.some.injEq, Prod.mk.injEq, exists_eq_left', exists_eq', exists_and_left, exists_and_right, true_and, and_true, true_or, or_true, and_self, and_assoc, Option.toList_some, Option.toList_none, List.cons_append, List.nil_append, ↓reduceIte, rz_x01, rz_x10, hc, b3, b4]
  exact kk _ h8 ((((((((s0.tr s1).tr s2).tr s3).tr s4).tr s5).tr s6).tr s7).tr s8)
set_option maxHeartbeats 4000000 in
set_option maxRecDepth 100000 in
theorem te_D {d o : Nat} {hp : rz_Hp} {R : Option Value → rz_Hp → Prop} {l1 : Option Value} (h : rz_OJ o (cz tes0 (fun _ => -5)) rz_st0 [] [45, 44, 45] 0 (nI 0) (-4) hp) (kk : ∀ hp', rz_OJ o (cz tes0 (fun _ => -5)) rz_st0 (rz_rec [] (cz tes0 (fun _ => -5))) [] 0 (nI 0) (-4) hp' → rz_sm o (o + 115) hp hp' → rz_ev (d + 9) 126 518 [some (.ref o), l1] [] hp' R) : rz_ev (d + 9) 126 490 [some (.ref o), l1] [] hp R := by
  have hc := h.co
  simp only [↓ri_126_490, ↓ri_126_491, Option.some.injEq, Prod.mk.injEq, exists_eq_left', exists_eq', exists_and_left, exists_and_right, true_and, and_true, true_or, or_true, and_self, and_assoc, Option.toList_some, Option.toList_none, List.cons_append, List.nil_append, ↓reduceIte, rz_x01, rz_x10, hc]
  refine q_perform_y (d := d + 2) (n := 2) h tef30 tef34 (cz_snd tef35) (by decide) (fun hp0 h0 s0 => ?_)
  clear hc
  have hc := h0.co
  have b0 := fun (R : Option Value → rz_Hp → Prop) => (q_count (d := d + 4) (what := 8) h0 (R := R)).trans (by rw [show rz_count_ (cz tes0 (fun _ => -5)) ((rz_rec [] (cz tes0 (fun _ => -5))) : List rz_AS).length ([45, 44, 45] : List Int32).length 8 = 1 from tef36])
  simp only [↓ri_126_494, ↓ri_126_495, ↓ri_126_498, ↓ri_126_499, ↓ri_126_501, ↓ri_126_504, ↓ri_126_505, ↓ri_126_508, ↓ri_126_509, Option.some.injEq, Prod.mk.injEq, exists_eq_left', exists_eq', exists_and_left, exists_and_right, true_and, and_true, true_or, or_true, and_self, and_assoc, Option.toList_some, Option.toList_none, List.cons_append, List.nil_append, ↓reduceIte, rz_x01, rz_x10, hc, b0]
  refine q_clearText (d := d + 7) h0 (fun hp1 h1 s1 => ?_)
  rw [show nI ([45, 44, 45] : List Int32).length = 3 from by decide +kernel]
  clear hc
  have hc := h1.co
  simp only [↓ri_126_512, ↓ri_126_513, ↓ri_126_516, ↓ri_126_517, Option.some.injEq, Prod.mk.injEq, exists_eq_left', exists_eq', exists_and_left, exists_and_right, true_and, and_true, true_or, or_true, and_self, and_assoc, Option.toList_some, Option.toList_none, List.cons_append, List.nil_append, ↓reduceIte, rz_x01, rz_x10, hc]
  exact kk _ h1 (s0.tr s1)
section TEL
variable {d o : Nat} {hp : rz_Hp} {R : Option Value → rz_Hp → Prop} {nw sn : rz_AS} {hist : List rz_AS} {tk ro re : Int32}
theorem q_type_f {c : Int32} {tx : List Int32} (hc : vp_nar .char c = c) (h : rz_OJ o nw sn hist tx tk ro re hp) (hl : ¬ tx.length < 60) (kk : ∀ hp', rz_OJ o nw sn hist tx tk ro re hp' → rz_sm o (o + 115) hp hp' → R (some (.int (-3))) hp') : rz_ev (d + 1) 95 0 [some (.ref o), some (.int c)] [] hp R := by
  refine q_type hc h (fun hp2 h2 s2 => ?_)
  have et : rz_type_ tx c = (-3, tx) := if_neg hl
  rw [et] at h2 ⊢
  exact kk hp2 h2 s2
set_option maxHeartbeats 4000000 in
set_option maxRecDepth 100000 in
theorem te_loop (kk : ∀ hp1, rz_OJ o nw sn hist (List.replicate 60 45) tk ro re hp1 → rz_sm o (o + 115) hp hp1 → rz_ev (d + 9) 126 546 [some (.ref o), some (.int (nI 60))] [] hp1 R) : ∀ k, k ≤ 60 → ∀ hp1, rz_OJ o nw sn hist (List.replicate k 45) tk ro re hp1 → rz_sm o (o + 115) hp hp1 → rz_ev (d + 9) 126 520 [some (.ref o), some (.int (nI k))] [] hp1 R := by
  refine rz_down 60 ?_ ?_
  · intro hp1 h s
    have c1 : (60 : Int32) ≤ nI 60 := by decide
    rw [ri_126_520]
    simp only [↓ri_126_521, ↓ri_126_523, Option.some.injEq, Prod.mk.injEq, exists_eq_left', exists_eq', exists_and_left, exists_and_right, true_and, and_true, true_or, or_true, and_self, and_assoc, Option.toList_some, Option.toList_none, List.cons_append, List.nil_append, ↓reduceIte, rz_x01, rz_x10, ↓if_pos c1]
    exact kk hp1 h s
  · intro k hk ih hp1 h s
    have c1 : ¬ (60 : Int32) ≤ nI k := nI_ge (b := 60) hk (by decide)
    have hc := h.co
    rw [ri_126_520]
    simp only [↓ri_126_521, ↓ri_126_523, ↓ri_126_526, ↓ri_126_527, ↓ri_126_529, Option.some.injEq, Prod.mk.injEq, exists_eq_left', exists_eq', exists_and_left, exists_and_right, true_and, and_true, true_or, or_true, and_self, and_assoc, Option.toList_some, Option.toList_none, List.cons_append, List.nil_append, ↓reduceIte, rz_x01, rz_x10, ↓if_neg c1, hc]
    refine q_type (d := d + 7) (c := 45) (by decide +kernel) h (fun hp2 h2 s2 => ?_)
    have et : rz_type_ (List.replicate k 45) 45 = (nI (k + 1), List.replicate (k + 1) 45) := by
      unfold rz_type_
      rw [if_pos (by rw [List.length_replicate]; exact hk), List.length_replicate, List.replicate_succ']
    rw [et] at h2 ⊢
    simp only [↓ri_126_532, ↓ri_126_533, ↓ri_126_534, ↓ri_126_535, ↓ri_126_538, ↓ri_126_539, ↓ri_126_540, ↓ri_126_543, Option.some.injEq, Prod.mk.injEq, exists_eq_left', exists_eq', exists_and_left, exists_and_right, true_and, and_true, true_or, or_true, and_self, and_assoc, Option.toList_some, Option.toList_none, List.cons_append, List.nil_append, ↓reduceIte, rz_x01, rz_x10, nI_1]
    exact ih hp2 h2 (s.tr s2)
end TEL
def tgs0 : rz_E8 := ([], 0, 0, [], 0, 0, 0, 0)
theorem tgf0 : (rz_rt [45, 45, 45, 45, 45, 45, 45, 45, 45, 45, 45, 45, 45, 45, 45, 45, 45, 45, 45, 45, 45, 45, 45, 45, 45, 45, 45, 45, 45, 45, 45, 45, 45, 45, 45, 45, 45, 45, 45, 45, 45, 45, 45, 45, 45, 45, 45, 45, 45, 45, 45, 45, 45, 45, 45, 45, 45, 45, 45, 45] 30 0 []).1 = some 1 := by decide +kernel
set_option maxHeartbeats 4000000 in
set_option maxRecDepth 100000 in
theorem tg_A {d o : Nat} {hp : rz_Hp} {R : Option Value → rz_Hp → Prop} {l1 : Option Value} {hist : List rz_AS} (h : rz_OJ o (cz tgs0 (fun _ => -5)) rz_st0 hist [45, 45, 45, 45, 45, 45, 45, 45, 45, 45, 45, 45, 45, 45, 45, 45, 45, 45, 45, 45, 45, 45, 45, 45, 45, 45, 45, 45, 45, 45, 45, 45, 45, 45, 45, 45, 45, 45, 45, 45, 45, 45, 45, 45, 45, 45, 45, 45, 45, 45, 45, 45, 45, 45, 45, 45, 45, 45, 45, 45] 0 (nI 0) (-4) hp) (kk : ∀ hp', rz_OJ o (cz tgs0 (fun _ => -5)) rz_st0 hist [45, 45, 45, 45, 45, 45, 45, 45, 45, 45, 45, 45, 45, 45, 45, 45, 45, 45, 45, 45, 45, 45, 45, 45, 45, 45, 45, 45, 45, 45, 45, 45, 45, 45, 45, 45, 45, 45, 45, 45, 45, 45, 45, 45, 45, 45, 45, 45, 45, 45, 45, 45, 45, 45, 45, 45, 45, 45, 45, 45] 0 (nI 0) (-4) hp' → rz_sm o (o + 115) hp hp' → rz_ev (d + 9) 126 566 [some (.ref o), l1] [] hp' R) : rz_ev (d + 9) 126 546 [some (.ref o), l1] [] hp R := by
  have hc := h.co
  simp only [↓ri_126_546, ↓ri_126_547, ↓ri_126_549, Option.some.injEq, Prod.mk.injEq, exists_eq_left', exists_eq', exists_and_left, exists_and_right, true_and, and_true, true_or, or_true, and_self, and_assoc, Option.toList_some, Option.toList_none, List.cons_append, List.nil_append, ↓reduceIte, rz_x01, rz_x10, hc]
  refine q_type_f (d := d + 7) (c := 45) (by decide +kernel) h (by decide +kernel) (fun hp0 h0 s0 => ?_)
  clear hc
  have hc := h0.co
  simp only [↓ri_126_552, ↓ri_126_554, ↓ri_126_557, ↓ri_126_558, Option.some.injEq, Prod.mk.injEq, exists_eq_left', exists_eq', exists_and_left, exists_and_right, true_and, and_true, true_or, or_true, and_self, and_assoc, Option.toList_some, Option.toList_none, List.cons_append, List.nil_append, ↓reduceIte, rz_x01, rz_x10, hc]
  refine q_perform_f (d := d + 2) (r := (-101)) h0 tgf0 (by decide) (fun hp1 h1 s1 => ?_)
  clear hc
  have hc := h1.co
  simp only [↓ri_126_561, ↓ri_126_563, Option.some.injEq, Prod.mk.injEq, exists_eq_left', exists_eq', exists_and_left, exists_and_right, true_and, and_true, true_or, or_true, and_self, and_assoc, Option.toList_some, Option.toList_none, List.cons_append, List.nil_append, ↓reduceIte, rz_x01, rz_x10, hc]
  exact kk _ h1 (s0.tr s1)
theorem tg_60 : List.replicate 60 (45 : Int32) = [45, 45, 45, 45, 45, 45, 45, 45, 45, 45, 45, 45, 45, 45, 45, 45, 45, 45, 45, 45, 45, 45, 45, 45, 45, 45, 45, 45, 45, 45, 45, 45, 45, 45, 45, 45, 45, 45, 45, 45, 45, 45, 45, 45, 45, 45, 45, 45, 45, 45, 45, 45, 45, 45, 45, 45, 45, 45, 45, 45] := by decide +kernel
theorem tg_S : tes0 = tgs0 := rfl
set_option maxHeartbeats 4000000 in
set_option maxRecDepth 100000 in
theorem q_texts {d : Nat} {hp : rz_Hp} {R : Option Value → rz_Hp → Prop} (kk : ∀ hp', rz_ex hp.2.1 hp hp' → hp'.2 = (hp.2.1 + 2185, hp.2.2 + 60363) → R (some (.int 1)) hp') : rz_ev (d + 9) 126 0 [none, none] [] hp R := by
  refine tx_1 (fun hp0 x0 m0 w0 => ?_)
  refine tx_2 (fun hp1 x1 m1 w1 => ?_)
  have a1 : rz_ex hp.2.1 hp hp1 := x0.tr (x1.wd (by omega))
  simp only [↓ri_126_199, ↓ri_126_202, ↓ri_126_203, Option.some.injEq, Prod.mk.injEq, exists_eq_left', exists_eq', exists_and_left, exists_and_right, true_and, and_true, true_or, or_true, and_self, and_assoc, Option.toList_some, Option.toList_none, List.cons_append, List.nil_append, ↓reduceIte, rz_x01, rz_x10]
  refine q_init (d := d + 4) (b := hp1.2.1) (rz_nw_push rfl) (fun hp2 h2 e2 x2 => ?_)
  simp only [↓ri_126_206, Option.some.injEq, Prod.mk.injEq, exists_eq_left', exists_eq', exists_and_left, exists_and_right, true_and, and_true, true_or, or_true, and_self, and_assoc, Option.toList_some, Option.toList_none, List.cons_append, List.nil_append, ↓reduceIte, rz_x01, rz_x10]
  refine te_A (d := d) (o := hp1.2.1) h2 (fun hp3 h3 s3 => ?_)
  refine te_B (d := d) (o := hp1.2.1) h3 (fun hp4 h4 s4 => ?_)
  refine te_C (d := d) (o := hp1.2.1) h4 (fun hp5 h5 s5 => ?_)
  refine te_D (d := d) (o := hp1.2.1) h5 (fun hp6 h6 s6 => ?_)
  simp only [↓ri_126_518, ↓ri_126_519, Option.some.injEq, Prod.mk.injEq, exists_eq_left', exists_eq', exists_and_left, exists_and_right, true_and, and_true, true_or, or_true, and_self, and_assoc, Option.toList_some, Option.toList_none, List.cons_append, List.nil_append, ↓reduceIte, rz_x01, rz_x10]
  refine te_loop (d := d) (o := hp1.2.1) (hp := hp6) (fun hp7 h7 s7 => ?_) 0 (Nat.zero_le _) hp6 h6 rz_sm.rf
  rw [tg_60, tg_S] at h7
  refine tg_A (d := d) (o := hp1.2.1) h7 (fun hp8 h8 s8 => ?_)
  have hc := h8.co
  simp only [↓ri_126_566, ↓ri_126_567, Option.some.injEq, Prod.mk.injEq, exists_eq_left', exists_eq', exists_and_left, exists_and_right, true_and, and_true, true_or, or_true, and_self, and_assoc, Option.toList_some, Option.toList_none, List.cons_append, List.nil_append, ↓reduceIte, rz_x01, rz_x10, hc]
  refine q_clearText (d := d + 7) h8 (fun hp9 h9 s9 => ?_)
  rw [show nI ([45, 45, 45, 45, 45, 45, 45, 45, 45, 45, 45, 45, 45, 45, 45, 45, 45, 45, 45, 45, 45, 45, 45, 45, 45, 45, 45, 45, 45, 45, 45, 45, 45, 45, 45, 45, 45, 45, 45, 45, 45, 45, 45, 45, 45, 45, 45, 45, 45, 45, 45, 45, 45, 45, 45, 45, 45, 45, 45, 45] : List Int32).length = 60 from by decide +kernel]
  simp only [↓ri_126_570, ↓ri_126_572, ↓ri_126_575, ↓ri_126_576, ↓ri_126_579, ↓ri_126_580, Option.some.injEq, Prod.mk.injEq, exists_eq_left', exists_eq', exists_and_left, exists_and_right, true_and, and_true, true_or, or_true, and_self, and_assoc, Option.toList_some, Option.toList_none, List.cons_append, List.nil_append, ↓reduceIte, rz_x01, rz_x10]
  refine kk hp9 ?_ ?_
  · have b1 := a1.tr ((rz_ex_new x2).wd (by omega))
    have b2 := b1.tr (rz_ex_sm s3 (by omega))
    have b3 := b2.tr (rz_ex_sm s4 (by omega))
    have b4 := b3.tr (rz_ex_sm s5 (by omega))
    have b5 := b4.tr (rz_ex_sm s6 (by omega))
    have b6 := b5.tr (rz_ex_sm s7 (by omega))
    have b7 := b6.tr (rz_ex_sm s8 (by omega))
    exact b7.tr (rz_ex_sm s9 (by omega))
  · rw [s9.1, s8.1, s7.1, s6.1, s5.1, s4.1, s3.1, e2]
    show (hp1.2.1 + 115, hp1.2.2 + 10 + 3167) = _
    rw [m1, w1, m0, w0]
