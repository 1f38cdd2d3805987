/-! The law's end: the snapshot, undo -/
theorem rz_len_drop {P : List rz_AS} : (P.drop (P.length - 2)).length = min P.length 2 := by
  rw [List.length_drop]
  omega
/-- two acts more, one undone -/
theorem rz_rec_two {P : List rz_AS} {s s1 : rz_AS} : rz_rec (rz_rec (P.drop (P.length - 4)) s) s1 = (P.drop (P.length - 2) ++ [s]) ++ [s1] := by
  rw [rz_rec_drop, rz_rec_drop]
  have e1 : (P ++ [s]).length = P.length + 1 := by rw [List.length_append]; rfl
  have e2 : (P ++ [s] ++ [s1]).length = P.length + 2 := by rw [List.length_append, e1]; rfl
  rw [e2, List.drop_append_of_le_length (by rw [e1]; omega), List.drop_append_of_le_length (by omega), show P.length + 2 - 4 = P.length - 2 by omega]
section LWE
variable {d o w L : Nat} {xs : Nat → Int32} {t : UInt32} {P : List rz_AS} {s sn nw : rz_AS} {hist : List rz_AS} {tx : List Int32} {tk ro re : Int32} {hp : rz_Hp} {R : Option Value → rz_Hp → Prop} {l5 l6 l7 l8 l9 l10 : Option Value}
theorem q_undoA {Y : List rz_AS} {u : rz_AS} (h : rz_OJ o nw sn (Y ++ [u]) tx tk ro re hp) (kk : ∀ hp', rz_OJ o u sn Y tx tk ro re hp' → rz_sm o (o + 115) hp hp' → R (some (.int (nI Y.length))) hp') : rz_ev (d + 5) 99 0 [some (.ref o)] [] hp R :=
  q_undo h (fun hp' nw' e k s => by
    rcases e with ⟨e, -⟩ | e
    · exact absurd e (by simp)
    · rw [List.getLast?_concat] at e
      cases e
      rw [List.dropLast_concat] at k
      have e1 : (Y ++ [u]).length = Y.length + 1 := by rw [List.length_append]; rfl
      rw [e1, if_neg (Nat.succ_ne_zero _), Nat.add_sub_cancel]
      exact kk hp' k s)
theorem q_restore1 (h : rz_OJ o nw sn hist tx 1 ro re hp) (kk : ∀ hp', rz_OJ o sn sn (rz_rec hist nw) tx 1 ro re hp' → rz_sm o (o + 115) hp hp' → R (some (.int (nI sn.1.length))) hp') : rz_ev (d + 6) 101 0 [some (.ref o)] [] hp R :=
  q_restore h (fun q => absurd q (by decide)) (fun _ => kk)
/-- an entry comes in, and one comes out -/
theorem lw_in_ok (h : rz_IV s) (hB : lw_B 30 s) : ∃ c s1, rz_in_ s 65535 999 = (nI c, s1) ∧ c ≤ 30 ∧ ¬ s1.1 = [] := by
  obtain ⟨h1, c, h2, h3⟩ := hB
  obtain ⟨b, hb, hf⟩ := h.I0.2
  refine ⟨c, (s.1 ++ [(s.2.2.2.2.2.2.1, 65535, 999, 0, rz_pl s.2.1 65535)], s.2.1, s.2.2.1, s.2.2.2.1, s.2.2.2.2.1, s.2.2.2.2.2.1, s.2.2.2.2.2.2.1 + 1, s.2.2.2.2.2.2.2), ?_, h2, by simp⟩
  have e := rz_in_yes (s := s) (key := 65535) (val := 999) ⟨by decide, by decide⟩ (by decide) (by
    show ¬ (65535 : Int32) < s.2.1
    have hf : s.2.1 = nI b := hf
    rw [hf]
    exact Int32.not_lt.mpr (by rw [show (65535 : Int32) = nI 65535 from rfl]; exact nI_le (by omega) (by omega))) (by omega) (by
    rw [h3]
    exact nI_ge (b := 1000) (by omega) (by decide))
  rw [e, h3]
theorem lw_out_ok (h : rz_IV s) (hn : ¬ s.1 = []) : ¬ (rz_out_ s).1 < 0 := by
  intro q
  obtain ⟨n, hn1, hn2, hn3⟩ := h.ci
  obtain ⟨L, fl, am, lat, rd, laid, ci, co, tb⟩ := s
  have hn : ¬ L = [] := hn
  cases hx : rz_nxf L with
  | none => exact hn (rz_nxf_none hx)
  | some j =>
    obtain ⟨e, he, -, -⟩ := rz_nxf_some hx
    obtain ⟨e1, he1, -⟩ := rz_re_at he
    rw [rz_out_eq hx he he1] at q
    obtain ⟨m, g1, g2⟩ := hn3 e (List.mem_of_getElem? he)
    have q : e.1 < 0 := q
    rw [g2] at q
    exact nI_pos (by omega) q
set_option maxHeartbeats 8000000 in
set_option maxRecDepth 100000 in
/-- the last lines -/
theorem lw_exit (hP : P.length ≤ 30) (hs : rz_fv hp w 10 P.length = some (.long (rz_sn s))) (h : rz_OJ o nw s [] [] 1 0 0 hp) (hw : o + 115 ≤ w) (kk : ∀ hp', rz_sm o (o + 115) hp hp' → R (some (.int 1)) hp') : rz_ev (d + 10) 127 456 [some (.float t), some (.ref o), some (.ref w), some (.int (nI P.length)), some (.int (nI s.1.length)), l5, l6, l7, l8, l9, l10] [] hp R := by
  have hc := h.co
  have b8 := fun (R : Option Value → rz_Hp → Prop) => (q_count (d := d + 5) (what := 8) h (R := R)).trans (by rw [rz_count8])
  have e0 : nI ([] : List rz_AS).length = 0 := rfl
  simp only [↓ri_127_456, ↓ri_127_457, ↓ri_127_459, ↓ri_127_462, ↓ri_127_465, ↓ri_127_466, Option.some.injEq, Prod.mk.injEq, exists_eq_left', exists_eq', exists_and_left, exists_and_right, true_and, and_true, true_or, or_true, and_self, and_assoc, Option.toList_some, Option.toList_none, List.cons_append, List.nil_append, ↓reduceIte, rz_x01, rz_x10, hc, b8, e0]
  refine q_undo0 (d := d + 4) h (fun hp1 h1 s1 => ?_)
  have hc1 := h1.co
  simp only [↓ri_127_469, ↓ri_127_471, ↓ri_127_474, ↓ri_127_475, Option.some.injEq, Prod.mk.injEq, exists_eq_left', exists_eq', exists_and_left, exists_and_right, true_and, and_true, true_or, or_true, and_self, and_assoc, Option.toList_some, Option.toList_none, List.cons_append, List.nil_append, ↓reduceIte, rz_x01, rz_x10, hc1]
  refine q_restore1 (d := d + 3) h1 (fun hp2 h2 s2 => ?_)
  have hc2 := h2.co
  have hsn := fun R => q_sn (d := d + 4) h2 (R := R)
  have en : (nI P.length).toNatClampNeg = P.length := nI_clamp (by omega)
  have hpos : ¬ nI P.length < 0 := nI_pos (by omega)
  have hla : ∀ Q : Int64 → Prop, (∃ v, rz_fv hp2 w 10 P.length = some (.long v) ∧ Q v) ↔ Q (rz_sn s) := fun Q => by
    rw [s2.fv (Or.inr hw), s1.fv (Or.inr hw), hs]
    constructor
    · rintro ⟨v, e, q⟩; cases e; exact q
    · intro q; exact ⟨_, rfl, q⟩
  have b9 := fun (R : Option Value → rz_Hp → Prop) => (q_count (d := d + 5) (what := 8) h2 (R := R)).trans (by rw [rz_count8, show nI (rz_rec ([] : List rz_AS) nw).length = 1 from rfl])
  simp only [↓ri_127_478, ↓ri_127_480, ↓ri_127_483, ↓ri_127_484, ↓ri_127_487, ↓ri_127_488, ↓ri_127_489, ↓ri_127_490, ↓ri_127_491, ↓ri_127_494, ↓ri_127_495, ↓ri_127_497, ↓ri_127_500, ↓ri_127_501, ↓ri_127_504, ↓ri_127_505, ↓ri_127_508, ↓ri_127_509, Option.some.injEq, Prod.mk.injEq, exists_eq_left', exists_eq', exists_and_left, exists_and_right, true_and, and_true, true_or, or_true, and_self, and_assoc, Option.toList_some, Option.toList_none, List.cons_append, List.nil_append, ↓reduceIte, rz_x01, rz_x10, hc2, hsn, en, hpos, not_false_eq_true, hla, lw_cmp, b9]
  exact kk _ (s1.tr s2)
set_option maxHeartbeats 8000000 in
set_option maxRecDepth 100000 in
/-- one undone state is as it was written down -/
theorem lw_undo {Y : List rz_AS} {u : rz_AS} {k j : Nat} (hP : P.length ≤ 30) (hk : k ≤ 4) (hj : j + k = P.length) (hkP : k < P.length) (hs : rz_fv hp w 10 j = some (.long (rz_sn nw))) (h : rz_OJ o nw sn (Y ++ [u]) tx tk ro re hp) (kk : ∀ hp', rz_OJ o u sn Y tx tk ro re hp' → rz_sm o (o + 115) hp hp' → rz_ev (d + 10) 127 406 [some (.float t), some (.ref o), some (.ref w), some (.int (nI P.length)), l5, some (.int (nI (k + 1))), l6, l7, l8, l9, l10] [] hp' R) : rz_ev (d + 10) 127 406 [some (.float t), some (.ref o), some (.ref w), some (.int (nI P.length)), l5, some (.int (nI k)), l6, l7, l8, l9, l10] [] hp R := by
  have hc := h.co
  have hY4 : Y.length ≤ 3 := by
    have h4 := h.len.1
    rw [List.length_append, List.length_singleton] at h4
    omega
  have b8 := fun (R : Option Value → rz_Hp → Prop) => (q_count (d := d + 5) (what := 8) h (R := R)).trans (by rw [rz_count8])
  have e1 : (Y ++ [u]).length = Y.length + 1 := by rw [List.length_append]; rfl
  rw [e1] at b8
  have c1 : ¬ nI (Y.length + 1) ≤ 0 := Int32.not_le.mpr (nI_lt (a := 0) (by omega) (by omega))
  have c2 : ¬ nI P.length ≤ nI k := Int32.not_le.mpr (nI_lt hkP (by omega))
  have c3 : ¬ (4 : Int32) < nI k := Int32.not_lt.mpr (nI_le (b := 4) hk (by decide))
  have hsn := fun R => q_sn (d := d + 4) h (R := R)
  have ej : nI P.length - nI k = nI j := by rw [pk_sub (by omega)]; exact congrArg nI (by omega)
  have en : (nI j).toNatClampNeg = j := nI_clamp (by omega)
  have hpos : ¬ nI j < 0 := nI_pos (by omega)
  have hla : ∀ Q : Int64 → Prop, (∃ v, rz_fv hp w 10 j = some (.long v) ∧ Q v) ↔ Q (rz_sn nw) := fun Q => by
    rw [hs]
    constructor
    · rintro ⟨v, e, q⟩; cases e; exact q
    · intro q; exact ⟨_, rfl, q⟩
  rw [ri_127_406]
  simp only [↓ri_127_407, ↓ri_127_409, ↓ri_127_412, ↓ri_127_415, ↓ri_127_417, ↓ri_127_418, ↓ri_127_421, ↓ri_127_423, ↓ri_127_424, ↓ri_127_427, ↓ri_127_428, ↓ri_127_431, ↓ri_127_432, ↓ri_127_433, ↓ri_127_435, ↓ri_127_436, ↓ri_127_437, ↓ri_127_438, ↓ri_127_441, ↓ri_127_442, Option.some.injEq, Prod.mk.injEq, exists_eq_left', exists_eq', exists_and_left, exists_and_right, true_and, and_true, true_or, or_true, and_self, and_assoc, Option.toList_some, Option.toList_none, List.cons_append, List.nil_append, ↓reduceIte, rz_x01, rz_x10, hc, b8, ↓if_neg c1, ↓if_neg c2, ↓if_neg c3, hsn, ej, en, hpos, not_false_eq_true, hla, lw_cmp]
  refine q_undoA (d := d + 4) h (fun hp1 h1 s1 => ?_)
  have c4 : 0 ≤ nI Y.length := nI_pos' (by omega)
  simp only [↓ri_127_445, ↓ri_127_450, ↓ri_127_453, Option.some.injEq, Prod.mk.injEq, exists_eq_left', exists_eq', exists_and_left, exists_and_right, true_and, and_true, true_or, or_true, and_self, and_assoc, Option.toList_some, Option.toList_none, List.cons_append, List.nil_append, ↓reduceIte, rz_x01, rz_x10, ↓if_pos c4, nI_1]
  exact kk hp1 h1 s1
set_option maxHeartbeats 8000000 in
set_option maxRecDepth 100000 in
theorem lw_empty {l4 l3 : Option Value} (h : rz_OJ o nw sn [] tx tk ro re hp) (kk : rz_ev (d + 10) 127 456 [some (.float t), some (.ref o), some (.ref w), l3, l4, l5, l6, l7, l8, l9, l10] [] hp R) : rz_ev (d + 10) 127 406 [some (.float t), some (.ref o), some (.ref w), l3, l4, l5, l6, l7, l8, l9, l10] [] hp R := by
  have hc := h.co
  have b8 := fun (R : Option Value → rz_Hp → Prop) => (q_count (d := d + 5) (what := 8) h (R := R)).trans (by rw [rz_count8])
  have c1 : nI ([] : List rz_AS).length ≤ 0 := by decide
  rw [ri_127_406]
  simp only [↓ri_127_407, ↓ri_127_409, ↓ri_127_412, Option.some.injEq, Prod.mk.injEq, exists_eq_left', exists_eq', exists_and_left, exists_and_right, true_and, and_true, true_or, or_true, and_self, and_assoc, Option.toList_some, Option.toList_none, List.cons_append, List.nil_append, ↓reduceIte, rz_x01, rz_x10, hc, b8, ↓if_pos c1]
  exact kk
end LWE
