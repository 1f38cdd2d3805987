/-! The law as a whole, over places -/
section LWF
variable {d o w L : Nat} {xs : Nat → Int32} {N : Nat × Nat} {t : UInt32} {P : List rz_AS} {s : rz_AS} {hp1 : rz_Hp} {R : Option Value → rz_Hp → Prop} {l5 l6 l7 l8 l9 l10 : Option Value}
set_option maxHeartbeats 8000000 in
set_option maxRecDepth 100000 in
theorem lw_fin (hw : o + 115 ≤ w) (hS : w < rz_SP) (hJ : lw_J o w L xs N 30 P s hp1) (kk : ∀ hp', hp'.2 = N → R (some (.int 1)) hp') : rz_ev (d + 10) 127 337 [some (.float t), some (.ref o), some (.ref w), some (.int (nI P.length)), some (.int (nI 30)), l5, l6, l7, l8, l9, l10] [] hp1 R := by
  obtain ⟨j1, j2, j3, j4, j5, j6⟩ := hJ
  have hc := j3.co
  have hsn := fun R => q_sn (d := d + 4) j3 (R := R)
  have en : (nI P.length).toNatClampNeg = P.length := nI_clamp (by omega)
  have hpos : ¬ nI P.length < 0 := nI_pos (by omega)
  obtain ⟨v, hv⟩ := j4.1 P.length (by omega)
  have hex : (∃ w', rz_fv hp1 w 10 P.length = some w') = True := eq_true ⟨v, hv⟩
  simp only [↓ri_127_337, ↓ri_127_338, ↓ri_127_339, ↓ri_127_340, ↓ri_127_343, Option.some.injEq, Prod.mk.injEq, exists_eq_left', exists_eq', exists_and_left, exists_and_right, true_and, and_true, true_or, or_true, and_self, and_assoc, Option.toList_some, Option.toList_none, List.cons_append, List.nil_append, ↓reduceIte, rz_x01, rz_x10, hc, hsn, en, hpos, not_false_eq_true, hex]
  have hs2 : rz_sm w (w + 1) hp1 (rz_pf hp1 w P.length (.long (rz_sn s))) := rz_sm_pf (Nat.le_refl _) (Nat.lt_succ_self _)
  have hK : lw_K o w L xs N P s s (P.drop (P.length - 4)) (rz_pf hp1 w P.length (.long (rz_sn s))) := ⟨j3.sm hs2 (Or.inl hw), j4.set.1, j4.set.2 v hv, by rw [rz_scr_sm hs2 hS]; exact j5, hs2.1.trans j6⟩
  generalize rz_pf hp1 w P.length (.long (rz_sn s)) = hp2 at hK ⊢
  obtain ⟨k1, k2, k3, -, k5⟩ := hK
  have hc2 := k1.co
  have b0 := fun (R : Option Value → rz_Hp → Prop) => (q_count (d := d + 5) (what := 0) k1 (R := R)).trans (by rw [rz_count0])
  simp only [↓ri_127_344, ↓ri_127_345, ↓ri_127_346, ↓ri_127_349, ↓ri_127_351, ↓ri_127_352, Option.some.injEq, Prod.mk.injEq, exists_eq_left', exists_eq', exists_and_left, exists_and_right, true_and, and_true, true_or, or_true, and_self, and_assoc, Option.toList_some, Option.toList_none, List.cons_append, List.nil_append, ↓reduceIte, rz_x01, rz_x10, hc2, b0]
  refine q_keep (d := d + 5) k1 (fun hp3 h3 s3 => ?_)
  have hc3 := h3.co
  obtain ⟨c, u1, ei, hc30, hne⟩ := lw_in_ok h3.2.1.1 j2
  simp only [↓ri_127_355, ↓ri_127_357, ↓ri_127_360, ↓ri_127_361, ↓ri_127_363, ↓ri_127_366, Option.some.injEq, Prod.mk.injEq, exists_eq_left', exists_eq', exists_and_left, exists_and_right, true_and, and_true, true_or, or_true, and_self, and_assoc, Option.toList_some, Option.toList_none, List.cons_append, List.nil_append, ↓reduceIte, rz_x01, rz_x10, hc3]
  refine q_comeIn_y (d := d + 3) h3 ei (nI_pos (by omega)) (fun hp4 h4 s4 => ?_)
  have hc4 := h4.co
  have n1 : ¬ nI c < 0 := nI_pos (by omega)
  simp only [↓ri_127_369, ↓ri_127_372, ↓ri_127_373, Option.some.injEq, Prod.mk.injEq, exists_eq_left', exists_eq', exists_and_left, exists_and_right, true_and, and_true, true_or, or_true, and_self, and_assoc, Option.toList_some, Option.toList_none, List.cons_append, List.nil_append, ↓reduceIte, rz_x01, rz_x10, ↓if_neg n1, hc4]
  have n2 := lw_out_ok h4.2.1.1 hne
  refine q_comeOut_y (d := d + 3) h4 (r := (rz_out_ u1).1) (t := (rz_out_ u1).2) rfl n2 (fun hp5 h5 s5 => ?_)
  have hc5 := h5.co
  simp only [↓ri_127_376, ↓ri_127_379, ↓ri_127_380, Option.some.injEq, Prod.mk.injEq, exists_eq_left', exists_eq', exists_and_left, exists_and_right, true_and, and_true, true_or, or_true, and_self, and_assoc, Option.toList_some, Option.toList_none, List.cons_append, List.nil_append, ↓reduceIte, rz_x01, rz_x10, ↓if_neg n2, hc5]
  refine q_refused (d := d + 1) h5 (fun hp6 h6 s6 => ?_)
  have hc6 := h6.co
  rw [rz_rec_two] at h6
  simp only [↓ri_127_383, ↓ri_127_386, ↓ri_127_387, Option.some.injEq, Prod.mk.injEq, exists_eq_left', exists_eq', exists_and_left, exists_and_right, true_and, and_true, true_or, or_true, and_self, and_assoc, Option.toList_some, Option.toList_none, List.cons_append, List.nil_append, ↓reduceIte, rz_x01, rz_x10, hc6]
  refine q_undoA (d := d + 4) h6 (fun hp7 h7 s7 => ?_)
  have hc7 := h7.co
  have n3 : ¬ nI (P.drop (P.length - 2) ++ [s]).length < 1 := Int32.not_lt.mpr (by
    rw [List.length_append, List.length_singleton, rz_len_drop]
    exact nI_le (a := 1) (by omega) (by omega))
  simp only [↓ri_127_390, ↓ri_127_391, ↓ri_127_394, ↓ri_127_395, Option.some.injEq, Prod.mk.injEq, exists_eq_left', exists_eq', exists_and_left, exists_and_right, true_and, and_true, true_or, or_true, and_self, and_assoc, Option.toList_some, Option.toList_none, List.cons_append, List.nil_append, ↓reduceIte, rz_x01, rz_x10, ↓if_neg n3, hc7]
  refine q_undoA (d := d + 4) h7 (fun hp8 h8 s8 => ?_)
  have n4 : 0 ≤ nI (P.drop (P.length - 2)).length := nI_pos' (by rw [rz_len_drop]; omega)
  simp only [↓ri_127_398, ↓ri_127_403, ↓ri_127_404, Option.some.injEq, Prod.mk.injEq, exists_eq_left', exists_eq', exists_and_left, exists_and_right, true_and, and_true, true_or, or_true, and_self, and_assoc, Option.toList_some, Option.toList_none, List.cons_append, List.nil_append, ↓reduceIte, rz_x01, rz_x10, ↓if_pos n4]
  have sA := ((((s3.tr s4).tr s5).tr s6).tr s7).tr s8
  have w8 : ∀ j, rz_fv hp8 w 10 j = rz_fv hp2 w 10 j := fun j => sA.fv (Or.inr hw)
  have fin : ∀ (hp9 : rz_Hp) (nw : rz_AS) (m5 m6 m7 m8 m9 m10 : Option Value), rz_sm o (o + 115) hp8 hp9 → rz_OJ o nw s [] [] 1 0 0 hp9 → rz_ev (d + 10) 127 406 [some (.float t), some (.ref o), some (.ref w), some (.int (nI P.length)), some (.int (nI s.1.length)), m5, m6, m7, m8, m9, m10] [] hp9 R := by
    intro hp9 nw m5 m6 m7 m8 m9 m10 s9 h9
    refine lw_empty h9 ?_
    exact lw_exit j1 (by rw [s9.fv (Or.inr hw), w8]; exact k3) h9 hw (fun hp' s' => kk hp' (s'.1.trans (s9.1.trans (sA.1.trans k5))))
  have hY := rz_len_drop (P := P)
  have hg : ∀ (i : Nat), (P.drop (P.length - 2))[i]? = P[P.length - 2 + i]? := fun i => List.getElem?_drop
  generalize P.drop (P.length - 2) = Y at h8 hY hg ⊢
  rw [show (0 : Int32) = nI 0 from rfl]
  match Y, h8, hY, hg with
  | [], h8, hY, hg => exact fin hp8 _ _ _ _ _ _ _ rz_sm.rf h8
  | [a], h8, hY, hg =>
    have hY : 1 = min P.length 2 := hY
    exact lw_undo (Y := []) (u := a) (k := 0) (j := P.length) j1 (by omega) (by omega) (by omega) (by rw [w8]; exact k3) h8 (fun hp9 h9 s9 => fin hp9 _ _ _ _ _ _ _ s9 h9)
  | [a, b], h8, hY, hg =>
    have hY : 2 = min P.length 2 := hY
    have gb : P[P.length - 1]? = some b := by
      have := hg 1
      rw [show P.length - 2 + 1 = P.length - 1 by omega] at this
      exact this.symm
    refine lw_undo (Y := [a]) (u := b) (k := 0) (j := P.length) j1 (by omega) (by omega) (by omega) (by rw [w8]; exact k3) h8 (fun hp9 h9 s9 => ?_)
    exact lw_undo (Y := []) (u := a) (k := 1) (j := P.length - 1) j1 (by omega) (by omega) (by omega) (by rw [s9.fv (Or.inr hw), w8]; exact k2.2 _ _ gb) h9 (fun hpa ha sa => fin hpa _ _ _ _ _ _ _ (s9.tr sa) ha)
  | a :: b :: c :: Y', h8, hY, hg =>
    have hY : Y'.length + 1 + 1 + 1 = min P.length 2 := hY
    omega
end LWF
