/-! The law's loop: what is called -/
section LWB
variable {d o w L k : Nat} {xs : Nat → Int32} {N : Nat × Nat} {t : UInt32} {P : List rz_AS} {s : rz_AS} {R : Option Value → rz_Hp → Prop} {l10 : Option Value}
set_option maxHeartbeats 8000000 in
set_option maxRecDepth 100000 in
theorem lw_act {x kind e key : Int32} {hp2 : rz_Hp} (hw : o + 115 ≤ w) (hS : w < rz_SP) (hk : k < 30) (hPk : P.length ≤ k) (hB : lw_B k s) (hK : lw_K o w L xs N P s s (P.drop (P.length - 4)) hp2) (ih : ∀ (P' : List rz_AS) (s2 : rz_AS) (hp3 : rz_Hp) (l5 l6 l7 l8 l9 l10 : Option Value), lw_J o w L xs N (k + 1) P' s2 hp3 → rz_ev (d + 10) 127 38 [some (.float t), some (.ref o), some (.ref w), some (.int (nI P'.length)), some (.int (nI (k + 1))), l5, l6, l7, l8, l9, l10] [] hp3 R) : rz_ev (d + 10) 127 124 [some (.float t), some (.ref o), some (.ref w), some (.int (nI P.length)), some (.int (nI k)), some (.int x), some (.int kind), some (.int (nI (P.drop (P.length - 4)).length)), some (.int e), some (.int key), l10] [] hp2 R := by
  have kO := hK.1
  have hc := kO.co
  have hIV := kO.2.1.1
  have z12 : ¬ (12 : Int32) = 0 := by decide
  have z13 : ¬ (13 : Int32) = 0 := by decide
  have z999 : ¬ (999 : Int32) = 0 := by decide
  have z3 : ¬ (3 : Int32) = 0 := by decide
  by_cases h4 : kind < 4
  · have c4 : ¬ 4 ≤ kind := Int32.not_le.mpr h4
    simp only [↓ri_127_124, ↓ri_127_126, ↓ri_127_127, ↓ri_127_130, ↓ri_127_131, ↓ri_127_133, ↓ri_127_135, ↓ri_127_137, ↓ri_127_138, ↓ri_127_141, ↓ri_127_144, Option.some.injEq, Prod.mk.injEq, exists_eq_left', exists_eq', exists_and_left, exists_and_right, true_and, and_true, true_or, or_true, and_self, and_assoc, Option.toList_some, Option.toList_none, List.cons_append, List.nil_append, ↓reduceIte, rz_x01, rz_x10, ↓if_neg c4, hc, q_part, z999, not_false_eq_true]
    refine q_comeIn (d := d + 3) kO (fun hp3 k3 s3 => ?_)
    simp only [↓ri_127_147, Option.some.injEq, Prod.mk.injEq, exists_eq_left', exists_eq', exists_and_left, exists_and_right, true_and, and_true, true_or, or_true, and_self, and_assoc, Option.toList_some, Option.toList_none, List.cons_append, List.nil_append, ↓reduceIte, rz_x01, rz_x10]
    exact lw_tail hk hPk (rz_neg_in hIV) (lw_B_in hB) (hK.sm hw hS k3 s3) ih
  · have c4 : 4 ≤ kind := Int32.not_lt.mp h4
    by_cases e4 : kind = 4
    · simp only [↓ri_127_124, ↓ri_127_126, ↓ri_127_127, ↓ri_127_150, ↓ri_127_152, ↓ri_127_153, ↓ri_127_156, ↓ri_127_157, Option.some.injEq, Prod.mk.injEq, exists_eq_left', exists_eq', exists_and_left, exists_and_right, true_and, and_true, true_or, or_true, and_self, and_assoc, Option.toList_some, Option.toList_none, List.cons_append, List.nil_append, ↓reduceIte, rz_x01, rz_x10, ↓if_pos c4, ↓if_pos e4, hc]
      refine q_comeOut (d := d + 3) kO (fun hp3 k3 s3 => ?_)
      simp only [↓ri_127_160, Option.some.injEq, Prod.mk.injEq, exists_eq_left', exists_eq', exists_and_left, exists_and_right, true_and, and_true, true_or, or_true, and_self, and_assoc, Option.toList_some, Option.toList_none, List.cons_append, List.nil_append, ↓reduceIte, rz_x01, rz_x10]
      exact lw_tail hk hPk (rz_neg_out hIV) (lw_le_out.B hB) (hK.sm hw hS k3 s3) ih
    · by_cases e5 : kind = 5
      · simp only [↓ri_127_124, ↓ri_127_126, ↓ri_127_127, ↓ri_127_150, ↓ri_127_152, ↓ri_127_153, ↓ri_127_163, ↓ri_127_165, ↓ri_127_166, ↓ri_127_169, ↓ri_127_170, ↓ri_127_172, ↓ri_127_174, Option.some.injEq, Prod.mk.injEq, exists_eq_left', exists_eq', exists_and_left, exists_and_right, true_and, and_true, true_or, or_true, and_self, and_assoc, Option.toList_some, Option.toList_none, List.cons_append, List.nil_append, ↓reduceIte, rz_x01, rz_x10, ↓if_pos c4, ↓if_neg e4, ↓if_pos e5, hc]
        refine q_less (d := d + 3) kO (fun hp3 k3 s3 => ?_)
        simp only [↓ri_127_177, Option.some.injEq, Prod.mk.injEq, exists_eq_left', exists_eq', exists_and_left, exists_and_right, true_and, and_true, true_or, or_true, and_self, and_assoc, Option.toList_some, Option.toList_none, List.cons_append, List.nil_append, ↓reduceIte, rz_x01, rz_x10]
        exact lw_tail hk hPk rz_neg_less (lw_le_less.B hB) (hK.sm hw hS k3 s3) ih
      · by_cases e6 : kind = 6
        · simp only [↓ri_127_124, ↓ri_127_126, ↓ri_127_127, ↓ri_127_150, ↓ri_127_152, ↓ri_127_153, ↓ri_127_163, ↓ri_127_165, ↓ri_127_166, ↓ri_127_180, ↓ri_127_182, ↓ri_127_184, ↓ri_127_187, ↓ri_127_188, ↓ri_127_190, Option.some.injEq, Prod.mk.injEq, exists_eq_left', exists_eq', exists_and_left, exists_and_right, true_and, and_true, true_or, or_true, and_self, and_assoc, Option.toList_some, Option.toList_none, List.cons_append, List.nil_append, ↓reduceIte, rz_x01, rz_x10, ↓if_pos c4, ↓if_neg e4, ↓if_neg e5, ↓if_pos e6, hc]
          refine q_takeBack (d := d + 3) kO (fun hp3 k3 s3 => ?_)
          simp only [↓ri_127_193, Option.some.injEq, Prod.mk.injEq, exists_eq_left', exists_eq', exists_and_left, exists_and_right, true_and, and_true, true_or, or_true, and_self, and_assoc, Option.toList_some, Option.toList_none, List.cons_append, List.nil_append, ↓reduceIte, rz_x01, rz_x10]
          exact lw_tail hk hPk (rz_neg_back hIV) (lw_le_back.B hB) (hK.sm hw hS k3 s3) ih
        · by_cases e7 : kind = 7
          · simp only [↓ri_127_124, ↓ri_127_126, ↓ri_127_127, ↓ri_127_150, ↓ri_127_152, ↓ri_127_153, ↓ri_127_163, ↓ri_127_165, ↓ri_127_166, ↓ri_127_180, ↓ri_127_182, ↓ri_127_184, ↓ri_127_196, ↓ri_127_198, ↓ri_127_200, ↓ri_127_203, ↓ri_127_204, ↓ri_127_206, ↓ri_127_207, ↓ri_127_208, ↓ri_127_210, ↓ri_127_213, ↓ri_127_215, ↓ri_127_217, ↓ri_127_218, ↓ri_127_220, ↓ri_127_223, ↓ri_127_225, ↓ri_127_227, ↓ri_127_228, ↓ri_127_231, ↓ri_127_234, Option.some.injEq, Prod.mk.injEq, exists_eq_left', exists_eq', exists_and_left, exists_and_right, true_and, and_true, true_or, or_true, and_self, and_assoc, Option.toList_some, Option.toList_none, List.cons_append, List.nil_append, ↓reduceIte, rz_x01, rz_x10, ↓if_pos c4, ↓if_neg e4, ↓if_neg e5, ↓if_neg e6, ↓if_pos e7, hc, q_part, z12, z13, z999, not_false_eq_true]
            refine q_road (d := d + 3) kO (fun hp3 k3 s3 => ?_)
            simp only [↓ri_127_237, Option.some.injEq, Prod.mk.injEq, exists_eq_left', exists_eq', exists_and_left, exists_and_right, true_and, and_true, true_or, or_true, and_self, and_assoc, Option.toList_some, Option.toList_none, List.cons_append, List.nil_append, ↓reduceIte, rz_x01, rz_x10]
            exact lw_tail hk hPk (rz_neg_road hIV) (lw_le_road.B hB) (hK.sm hw hS k3 s3) ih
          · by_cases e8 : kind = 8
            · simp only [↓ri_127_124, ↓ri_127_126, ↓ri_127_127, ↓ri_127_150, ↓ri_127_152, ↓ri_127_153, ↓ri_127_163, ↓ri_127_165, ↓ri_127_166, ↓ri_127_180, ↓ri_127_182, ↓ri_127_184, ↓ri_127_196, ↓ri_127_198, ↓ri_127_200, ↓ri_127_240, ↓ri_127_242, ↓ri_127_244, ↓ri_127_247, ↓ri_127_248, ↓ri_127_250, ↓ri_127_251, ↓ri_127_252, ↓ri_127_253, ↓ri_127_256, ↓ri_127_258, ↓ri_127_260, ↓ri_127_261, ↓ri_127_263, ↓ri_127_266, Option.some.injEq, Prod.mk.injEq, exists_eq_left', exists_eq', exists_and_left, exists_and_right, true_and, and_true, true_or, or_true, and_self, and_assoc, Option.toList_some, Option.toList_none, List.cons_append, List.nil_append, ↓reduceIte, rz_x01, rz_x10, ↓if_pos c4, ↓if_neg e4, ↓if_neg e5, ↓if_neg e6, ↓if_neg e7, ↓if_pos e8, hc, q_part, z12, z3, not_false_eq_true]
              refine q_unroad (d := d + 3) kO (fun hp3 k3 s3 => ?_)
              simp only [↓ri_127_269, Option.some.injEq, Prod.mk.injEq, exists_eq_left', exists_eq', exists_and_left, exists_and_right, true_and, and_true, true_or, or_true, and_self, and_assoc, Option.toList_some, Option.toList_none, List.cons_append, List.nil_append, ↓reduceIte, rz_x01, rz_x10]
              exact lw_tail hk hPk (rz_neg_unroad hIV) (lw_le_unroad.B hB) (hK.sm hw hS k3 s3) ih
            · by_cases e9 : 0 ≤ key
              · simp only [↓ri_127_124, ↓ri_127_126, ↓ri_127_127, ↓ri_127_150, ↓ri_127_152, ↓ri_127_153, ↓ri_127_163, ↓ri_127_165, ↓ri_127_166, ↓ri_127_180, ↓ri_127_182, ↓ri_127_184, ↓ri_127_196, ↓ri_127_198, ↓ri_127_200, ↓ri_127_240, ↓ri_127_242, ↓ri_127_244, ↓ri_127_272, ↓ri_127_273, ↓ri_127_275, ↓ri_127_278, ↓ri_127_279, ↓ri_127_282, ↓ri_127_284, Option.some.injEq, Prod.mk.injEq, exists_eq_left', exists_eq', exists_and_left, exists_and_right, true_and, and_true, true_or, or_true, and_self, and_assoc, Option.toList_some, Option.toList_none, List.cons_append, List.nil_append, ↓reduceIte, rz_x01, rz_x10, ↓if_pos c4, ↓if_neg e4, ↓if_neg e5, ↓if_neg e6, ↓if_neg e7, ↓if_neg e8, ↓if_pos e9, hc]
                refine q_comeOutUpTo (d := d + 3) kO (fun hp3 k3 s3 => ?_)
                exact lw_tail hk hPk rz_neg_upto (lw_le_upto.B hB) (hK.sm hw hS k3 s3) ih
              · simp only [↓ri_127_124, ↓ri_127_126, ↓ri_127_127, ↓ri_127_150, ↓ri_127_152, ↓ri_127_153, ↓ri_127_163, ↓ri_127_165, ↓ri_127_166, ↓ri_127_180, ↓ri_127_182, ↓ri_127_184, ↓ri_127_196, ↓ri_127_198, ↓ri_127_200, ↓ri_127_240, ↓ri_127_242, ↓ri_127_244, ↓ri_127_272, ↓ri_127_273, ↓ri_127_275, ↓ri_127_278, ↓ri_127_279, ↓ri_127_282, ↓ri_127_284, Option.some.injEq, Prod.mk.injEq, exists_eq_left', exists_eq', exists_and_left, exists_and_right, true_and, and_true, true_or, or_true, and_self, and_assoc, Option.toList_some, Option.toList_none, List.cons_append, List.nil_append, ↓reduceIte, rz_x01, rz_x10, ↓if_pos c4, ↓if_neg e4, ↓if_neg e5, ↓if_neg e6, ↓if_neg e7, ↓if_neg e8, ↓if_neg e9, hc]
                refine q_comeOutUpTo (d := d + 3) kO (fun hp3 k3 s3 => ?_)
                exact lw_tail hk hPk rz_neg_upto (lw_le_upto.B hB) (hK.sm hw hS k3 s3) ih
set_option maxHeartbeats 8000000 in
set_option maxRecDepth 100000 in
theorem lw_loop (hw : o + 115 ≤ w) (hS : w < rz_SP) (hL : L ≤ 260) (fin : ∀ (P : List rz_AS) (s : rz_AS) (hp1 : rz_Hp) (l5 l6 l7 l8 l9 l10 : Option Value), lw_J o w L xs N 30 P s hp1 → rz_ev (d + 10) 127 337 [some (.float t), some (.ref o), some (.ref w), some (.int (nI P.length)), some (.int (nI 30)), l5, l6, l7, l8, l9, l10] [] hp1 R) : ∀ k, k ≤ 30 → ∀ (P : List rz_AS) (s : rz_AS) (hp1 : rz_Hp) (l5 l6 l7 l8 l9 l10 : Option Value), lw_J o w L xs N k P s hp1 → rz_ev (d + 10) 127 38 [some (.float t), some (.ref o), some (.ref w), some (.int (nI P.length)), some (.int (nI k)), l5, l6, l7, l8, l9, l10] [] hp1 R := by
  refine rz_down 30 ?_ ?_
  · intro P s hp1 l5 l6 l7 l8 l9 l10 hJ
    have c1 : (30 : Int32) ≤ nI 30 := by decide
    rw [ri_127_38]
    simp only [↓ri_127_40, ↓ri_127_42, Option.some.injEq, Prod.mk.injEq, exists_eq_left', exists_eq', exists_and_left, exists_and_right, true_and, and_true, true_or, or_true, and_self, and_assoc, Option.toList_some, Option.toList_none, List.cons_append, List.nil_append, ↓reduceIte, rz_x01, rz_x10, ↓if_pos c1]
    exact fin P s hp1 l5 l6 l7 l8 l9 l10 hJ
  · intro k hk ih P s hp1 l5 l6 l7 l8 l9 l10 hJ
    exact lw_pre hw hS hL hk hJ (fun x kind e key hp2 hK => lw_act hw hS hk hJ.1 hJ.2.1 hK ih)
end LWB
