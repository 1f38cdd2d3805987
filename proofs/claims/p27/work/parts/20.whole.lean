/-! RisingPiles itself -/
def rz_RF (o : Nat) (tk ro re : Int32) (hp : rz_Hp) : Prop := rz_fv hp o 8 0 = some (.ref (o + 1)) ∧ rz_fv hp o 8 1 = some (.ref (o + 15)) ∧ rz_fv hp o 8 2 = some (.ref (o + 29)) ∧ rz_fv hp o 8 3 = some (.ref (o + 43)) ∧ rz_fv hp o 8 4 = some (.ref (o + 101)) ∧ rz_fv hp o 8 5 = some (.ref (o + 103)) ∧ rz_fv hp o 8 6 = some (.ref (o + 107)) ∧ rz_fv hp o 8 7 = some (.int tk) ∧ rz_fv hp o 8 8 = some (.int ro) ∧ rz_fv hp o 8 9 = some (.int re)
theorem rz_RF_sm {lo hi o : Nat} {tk ro re : Int32} {hp h1 : rz_Hp} (h : rz_RF o tk ro re hp) (s : rz_sm lo hi hp h1) (hd : o + 1 ≤ lo ∨ hi ≤ o) : rz_RF o tk ro re h1 := by
  obtain ⟨p0, p1, p2, p3, p4, p5, p6, p7, p8, p9⟩ := h
  refine ⟨?_, ?_, ?_, ?_, ?_, ?_, ?_, ?_, ?_, ?_⟩ <;> (rw [s.fv (by omega)]; assumption)
/-- a RisingPiles object with all that is behind it -/
def rz_RP (o : Nat) (nw bf sn : rz_AS) (hist : List rz_AS) (tx : List Int32) (os : List rz_Or) (pl : Int32) (ss : rz_SS) (tk ro re : Int32) (hp : rz_Hp) : Prop := rz_RF o tk ro re hp ∧ rz_ST (o + 1) nw hp ∧ rz_ST (o + 15) bf hp ∧ rz_ST (o + 29) sn hp ∧ rz_HI (o + 43) hist hp ∧ rz_TX (o + 101) tx hp ∧ rz_OR (o + 103) os pl hp ∧ rz_SR (o + 107) ss hp
section RZRP
variable {o lo hi : Nat} {nw bf sn nw' : rz_AS} {hist hist' : List rz_AS} {tx tx' : List Int32} {os os' : List rz_Or} {pl pl' : Int32} {ss ss' : rz_SS} {tk ro re : Int32} {hp h1 : rz_Hp}
theorem rz_RP_sm (h : rz_RP o nw bf sn hist tx os pl ss tk ro re hp) (s : rz_sm lo hi hp h1) (hd : o + 115 ≤ lo ∨ hi ≤ o) : rz_RP o nw bf sn hist tx os pl ss tk ro re h1 := by
  obtain ⟨a, b, c, d, e, f, g, i⟩ := h
  exact ⟨rz_RF_sm a s (by omega), rz_ST_sm b s (by omega), rz_ST_sm c s (by omega), rz_ST_sm d s (by omega), rz_HI_sm e s (by omega), rz_TX_sm f s (by omega), rz_OR_sm g s (by omega), rz_SR_sm i s (by omega)⟩
theorem rz_RP_nw (h : rz_RP o nw bf sn hist tx os pl ss tk ro re hp) (hS : rz_ST (o + 1) nw' h1) (s : rz_sm (o + 1) (o + 1 + 14) hp h1) : rz_RP o nw' bf sn hist tx os pl ss tk ro re h1 := by
  obtain ⟨a, b, c, d, e, f, g, i⟩ := h
  exact ⟨rz_RF_sm a s (by omega), hS, rz_ST_sm c s (by omega), rz_ST_sm d s (by omega), rz_HI_sm e s (by omega), rz_TX_sm f s (by omega), rz_OR_sm g s (by omega), rz_SR_sm i s (by omega)⟩
theorem rz_RP_bf (h : rz_RP o nw bf sn hist tx os pl ss tk ro re hp) (hS : rz_ST (o + 15) nw' h1) (s : rz_sm (o + 15) (o + 15 + 14) hp h1) : rz_RP o nw nw' sn hist tx os pl ss tk ro re h1 := by
  obtain ⟨a, b, c, d, e, f, g, i⟩ := h
  exact ⟨rz_RF_sm a s (by omega), rz_ST_sm b s (by omega), hS, rz_ST_sm d s (by omega), rz_HI_sm e s (by omega), rz_TX_sm f s (by omega), rz_OR_sm g s (by omega), rz_SR_sm i s (by omega)⟩
theorem rz_RP_sn (h : rz_RP o nw bf sn hist tx os pl ss tk ro re hp) (hS : rz_ST (o + 29) nw' h1) (s : rz_sm (o + 29) (o + 29 + 14) hp h1) : rz_RP o nw bf nw' hist tx os pl ss tk ro re h1 := by
  obtain ⟨a, b, c, d, e, f, g, i⟩ := h
  exact ⟨rz_RF_sm a s (by omega), rz_ST_sm b s (by omega), rz_ST_sm c s (by omega), hS, rz_HI_sm e s (by omega), rz_TX_sm f s (by omega), rz_OR_sm g s (by omega), rz_SR_sm i s (by omega)⟩
theorem rz_RP_hi (h : rz_RP o nw bf sn hist tx os pl ss tk ro re hp) (hS : rz_HI (o + 43) hist' h1) (s : rz_sm (o + 43) (o + 43 + 58) hp h1) : rz_RP o nw bf sn hist' tx os pl ss tk ro re h1 := by
  obtain ⟨a, b, c, d, e, f, g, i⟩ := h
  exact ⟨rz_RF_sm a s (by omega), rz_ST_sm b s (by omega), rz_ST_sm c s (by omega), rz_ST_sm d s (by omega), hS, rz_TX_sm f s (by omega), rz_OR_sm g s (by omega), rz_SR_sm i s (by omega)⟩
theorem rz_RP_tx (h : rz_RP o nw bf sn hist tx os pl ss tk ro re hp) (hS : rz_TX (o + 101) tx' h1) (s : rz_sm (o + 101) (o + 101 + 2) hp h1) : rz_RP o nw bf sn hist tx' os pl ss tk ro re h1 := by
  obtain ⟨a, b, c, d, e, f, g, i⟩ := h
  exact ⟨rz_RF_sm a s (by omega), rz_ST_sm b s (by omega), rz_ST_sm c s (by omega), rz_ST_sm d s (by omega), rz_HI_sm e s (by omega), hS, rz_OR_sm g s (by omega), rz_SR_sm i s (by omega)⟩
theorem rz_RP_or (h : rz_RP o nw bf sn hist tx os pl ss tk ro re hp) (hS : rz_OR (o + 103) os' pl' h1) (s : rz_sm (o + 103) (o + 103 + 4) hp h1) : rz_RP o nw bf sn hist tx os' pl' ss tk ro re h1 := by
  obtain ⟨a, b, c, d, e, f, g, i⟩ := h
  exact ⟨rz_RF_sm a s (by omega), rz_ST_sm b s (by omega), rz_ST_sm c s (by omega), rz_ST_sm d s (by omega), rz_HI_sm e s (by omega), rz_TX_sm f s (by omega), hS, rz_SR_sm i s (by omega)⟩
theorem rz_RP_ss (h : rz_RP o nw bf sn hist tx os pl ss tk ro re hp) (hS : rz_SR (o + 107) ss' h1) (s : rz_sm (o + 107) (o + 107 + 8) hp h1) : rz_RP o nw bf sn hist tx os pl ss' tk ro re h1 := by
  obtain ⟨a, b, c, d, e, f, g, i⟩ := h
  exact ⟨rz_RF_sm a s (by omega), rz_ST_sm b s (by omega), rz_ST_sm c s (by omega), rz_ST_sm d s (by omega), rz_HI_sm e s (by omega), rz_TX_sm f s (by omega), rz_OR_sm g s (by omega), hS⟩
theorem rz_ST_co {p : Nat} {s : rz_AS} (h : rz_ST p s hp) : rz_co hp p = some 6 := by
  obtain ⟨L, fl, am, lat, rd, laid, ci, co, tb⟩ := s
  exact rz_co_fv h.1.1
theorem rz_RP_cos (h : rz_RP o nw bf sn hist tx os pl ss tk ro re hp) : rz_co hp o = some 8 ∧ rz_co hp (o + 1) = some 6 ∧ rz_co hp (o + 15) = some 6 ∧ rz_co hp (o + 29) = some 6 ∧ rz_co hp (o + 43) = some 0 ∧ rz_co hp (o + 101) = some 7 ∧ rz_co hp (o + 103) = some 2 ∧ rz_co hp (o + 107) = some 5 := by
  obtain ⟨a, b, c, d, e, f, g, i⟩ := h
  refine ⟨rz_co_fv a.1, rz_ST_co b, rz_ST_co c, rz_ST_co d, rz_co_fv e.2.1, rz_co_fv f.2.1, rz_co_fv g.2.1, ?_⟩
  obtain ⟨L, fl, am, ds, dn, cm, gr⟩ := ss
  exact rz_co_fv i.1.1
end RZRP
/-- what an act records -/
def rz_hs (r : Int32) (nw : rz_AS) (hist : List rz_AS) : List rz_AS := if r < 0 then hist else rz_rec hist nw
section RZRQ
variable {d o : Nat} {nw bf sn nw' : rz_AS} {hist hist' : List rz_AS} {tx tx' : List Int32} {os os' : List rz_Or} {pl pl' : Int32} {ss ss' : rz_SS} {tk ro re : Int32} {hp h1 : rz_Hp} {R : Option Value → rz_Hp → Prop}
set_option maxHeartbeats 4000000 in
set_option maxRecDepth 100000 in
theorem c_C_recorded {r : Int32} (h : rz_RP o nw bf sn hist tx os pl ss tk ro re hp) (kk : ∀ hp', rz_RP o nw bf sn (rz_hs r bf hist) tx os pl ss tk ro re hp' → rz_sm o (o + 115) hp hp' → R (some (.int r)) hp') : rz_ev (d + 5) 112 0 [some (.ref o), some (.int r)] [] hp R := by
  obtain ⟨c0, c1, c2, c3, c4, c5, c6, c7⟩ := rz_RP_cos h
  obtain ⟨⟨p0, p1, p2, p3, p4, p5, p6, p7, p8, p9⟩, b, c, d1, e, f, g, i⟩ := id h
  unfold rz_hs at kk
  by_cases h0 : r < 0
  · rw [if_pos h0] at kk
    simp only [↓ri_112_0, ↓ri_112_1, ↓ri_112_4, ↓ri_112_5, ↓ri_112_8, ↓ri_112_9, ↓ri_112_12, ↓ri_112_15, ↓ri_112_16, Option.some.injEq, Prod.mk.injEq, exists_eq_left', exists_eq', exists_and_left, exists_and_right, true_and, and_true, true_or, or_true, and_self, and_assoc, Option.toList_some, Option.toList_none, List.cons_append, List.nil_append, ↓reduceIte, rz_x01, rz_x10, ↓if_pos h0]
    exact kk _ h rz_sm.rf
  · rw [if_neg h0] at kk
    simp only [↓ri_112_0, ↓ri_112_1, ↓ri_112_4, ↓ri_112_5, ↓ri_112_8, ↓ri_112_9, ↓ri_112_12, ↓ri_112_15, ↓ri_112_16, Option.some.injEq, Prod.mk.injEq, exists_eq_left', exists_eq', exists_and_left, exists_and_right, true_and, and_true, true_or, or_true, and_self, and_assoc, Option.toList_some, Option.toList_none, List.cons_append, List.nil_append, ↓reduceIte, rz_x01, rz_x10, ↓if_neg h0, p3, p1, c4]
    refine c_H_put (d := d) e c (by omega) (fun h1 k1 hs1 => ?_)
    simp only [↓ri_112_0, ↓ri_112_1, ↓ri_112_4, ↓ri_112_5, ↓ri_112_8, ↓ri_112_9, ↓ri_112_12, ↓ri_112_15, ↓ri_112_16, Option.some.injEq, Prod.mk.injEq, exists_eq_left', exists_eq', exists_and_left, exists_and_right, true_and, and_true, true_or, or_true, and_self, and_assoc, Option.toList_some, Option.toList_none, List.cons_append, List.nil_append, ↓reduceIte, rz_x01, rz_x10]
    exact kk _ (rz_RP_hi h k1 hs1) (hs1.wd (by omega) (by omega))
set_option maxHeartbeats 4000000 in
set_option maxRecDepth 100000 in
theorem c_C_bf (h : rz_RP o nw bf sn hist tx os pl ss tk ro re hp) (kk : ∀ hp', rz_RP o nw nw sn hist tx os pl ss tk ro re hp' → rz_sm o (o + 115) hp hp' → R none hp') : rz_ev (d + 3) 75 0 [some (.ref (o + 15)), some (.ref (o + 1))] [] hp R :=
  c_T_copyFrom (d := d) h.2.2.1 h.2.1 (by omega) (fun h1 k1 hs1 => kk h1 (rz_RP_bf h k1 hs1) (hs1.wd (by omega) (by omega)))
set_option maxHeartbeats 4000000 in
set_option maxRecDepth 100000 in
theorem c_C_comeIn {key val : Int32} (hI : rz_I0 nw) (h : rz_RP o nw bf sn hist tx os pl ss tk ro re hp) (kk : ∀ hp', rz_RP o (rz_in_ nw key val).2 nw sn (rz_hs (rz_in_ nw key val).1 nw hist) tx os pl ss tk ro re hp' → rz_sm o (o + 115) hp hp' → R (some (.int (rz_in_ nw key val).1)) hp') : rz_ev (d + 6) 88 0 [some (.ref o), some (.int key), some (.int val)] [] hp R := by
  obtain ⟨c0, c1, c2, c3, c4, c5, c6, c7⟩ := rz_RP_cos h
  obtain ⟨p0, p1, p2, p3, p4, p5, p6, p7, p8, p9⟩ := id h.1
  simp only [↓ri_88_0, ↓ri_88_1, ↓ri_88_4, ↓ri_88_5, ↓ri_88_8, ↓ri_88_11, ↓ri_88_12, ↓ri_88_13, ↓ri_88_16, ↓ri_88_17, ↓ri_88_18, ↓ri_88_21, ↓ri_88_24, Option.some.injEq, Prod.mk.injEq, exists_eq_left', exists_eq', exists_and_left, exists_and_right, true_and, and_true, true_or, or_true, and_self, and_assoc, Option.toList_some, Option.toList_none, List.cons_append, List.nil_append, ↓reduceIte, rz_x01, rz_x10, p0, p1, c2]
  refine c_C_bf (d := d + 2) h (fun h1 k1 hs1 => ?_)
  obtain ⟨e0, e1, e2, e3, e4, e5, e6, e7⟩ := rz_RP_cos k1
  obtain ⟨q0, q1, q2, q3, q4, q5, q6, q7, q8, q9⟩ := id k1.1
  simp only [↓ri_88_0, ↓ri_88_1, ↓ri_88_4, ↓ri_88_5, ↓ri_88_8, ↓ri_88_11, ↓ri_88_12, ↓ri_88_13, ↓ri_88_16, ↓ri_88_17, ↓ri_88_18, ↓ri_88_21, ↓ri_88_24, Option.some.injEq, Prod.mk.injEq, exists_eq_left', exists_eq', exists_and_left, exists_and_right, true_and, and_true, true_or, or_true, and_self, and_assoc, Option.toList_some, Option.toList_none, List.cons_append, List.nil_append, ↓reduceIte, rz_x01, rz_x10, q0, e1]
  refine c_T_bringIn (d := d + 3) k1.2.1 hI (fun h2 k2 hs2 => ?_)
  have k3 := rz_RP_nw k1 k2 hs2
  obtain ⟨f0, f1, f2, f3, f4, f5, f6, f7⟩ := rz_RP_cos k3
  simp only [↓ri_88_0, ↓ri_88_1, ↓ri_88_4, ↓ri_88_5, ↓ri_88_8, ↓ri_88_11, ↓ri_88_12, ↓ri_88_13, ↓ri_88_16, ↓ri_88_17, ↓ri_88_18, ↓ri_88_21, ↓ri_88_24, Option.some.injEq, Prod.mk.injEq, exists_eq_left', exists_eq', exists_and_left, exists_and_right, true_and, and_true, true_or, or_true, and_self, and_assoc, Option.toList_some, Option.toList_none, List.cons_append, List.nil_append, ↓reduceIte, rz_x01, rz_x10, f0]
  refine c_C_recorded (d := d) k3 (fun h3 k4 hs3 => ?_)
  simp only [↓ri_88_0, ↓ri_88_1, ↓ri_88_4, ↓ri_88_5, ↓ri_88_8, ↓ri_88_11, ↓ri_88_12, ↓ri_88_13, ↓ri_88_16, ↓ri_88_17, ↓ri_88_18, ↓ri_88_21, ↓ri_88_24, Option.some.injEq, Prod.mk.injEq, exists_eq_left', exists_eq', exists_and_left, exists_and_right, true_and, and_true, true_or, or_true, and_self, and_assoc, Option.toList_some, Option.toList_none, List.cons_append, List.nil_append, ↓reduceIte, rz_x01, rz_x10]
  exact kk _ k4 ((hs1.tr (hs2.wd (by omega) (by omega))).tr hs3)
set_option maxHeartbeats 4000000 in
set_option maxRecDepth 100000 in
theorem c_C_comeOut (hI : rz_I0 nw) (h : rz_RP o nw bf sn hist tx os pl ss tk ro re hp) (kk : ∀ hp', rz_RP o (rz_out_ nw).2 nw sn (rz_hs (rz_out_ nw).1 nw hist) tx os pl ss tk ro re hp' → rz_sm o (o + 115) hp hp' → R (some (.int (rz_out_ nw).1)) hp') : rz_ev (d + 6) 89 0 [some (.ref o)] [] hp R := by
  obtain ⟨c0, c1, c2, c3, c4, c5, c6, c7⟩ := rz_RP_cos h
  obtain ⟨p0, p1, p2, p3, p4, p5, p6, p7, p8, p9⟩ := id h.1
  simp only [↓ri_89_0, ↓ri_89_1, ↓ri_89_4, ↓ri_89_5, ↓ri_89_8, ↓ri_89_11, ↓ri_89_12, ↓ri_89_13, ↓ri_89_16, ↓ri_89_19, ↓ri_89_22, Option.some.injEq, Prod.mk.injEq, exists_eq_left', exists_eq', exists_and_left, exists_and_right, true_and, and_true, true_or, or_true, and_self, and_assoc, Option.toList_some, Option.toList_none, List.cons_append, List.nil_append, ↓reduceIte, rz_x01, rz_x10, p0, p1, c2]
  refine c_C_bf (d := d + 2) h (fun h1 k1 hs1 => ?_)
  obtain ⟨e0, e1, e2, e3, e4, e5, e6, e7⟩ := rz_RP_cos k1
  obtain ⟨q0, q1, q2, q3, q4, q5, q6, q7, q8, q9⟩ := id k1.1
  simp only [↓ri_89_0, ↓ri_89_1, ↓ri_89_4, ↓ri_89_5, ↓ri_89_8, ↓ri_89_11, ↓ri_89_12, ↓ri_89_13, ↓ri_89_16, ↓ri_89_19, ↓ri_89_22, Option.some.injEq, Prod.mk.injEq, exists_eq_left', exists_eq', exists_and_left, exists_and_right, true_and, and_true, true_or, or_true, and_self, and_assoc, Option.toList_some, Option.toList_none, List.cons_append, List.nil_append, ↓reduceIte, rz_x01, rz_x10, q0, e1]
  refine c_T_letOut (d := d + 2) k1.2.1 hI (fun h2 k2 hs2 => ?_)
  have k3 := rz_RP_nw k1 k2 hs2
  obtain ⟨f0, f1, f2, f3, f4, f5, f6, f7⟩ := rz_RP_cos k3
  simp only [↓ri_89_0, ↓ri_89_1, ↓ri_89_4, ↓ri_89_5, ↓ri_89_8, ↓ri_89_11, ↓ri_89_12, ↓ri_89_13, ↓ri_89_16, ↓ri_89_19, ↓ri_89_22, Option.some.injEq, Prod.mk.injEq, exists_eq_left', exists_eq', exists_and_left, exists_and_right, true_and, and_true, true_or, or_true, and_self, and_assoc, Option.toList_some, Option.toList_none, List.cons_append, List.nil_append, ↓reduceIte, rz_x01, rz_x10, f0]
  refine c_C_recorded (d := d) k3 (fun h3 k4 hs3 => ?_)
  simp only [↓ri_89_0, ↓ri_89_1, ↓ri_89_4, ↓ri_89_5, ↓ri_89_8, ↓ri_89_11, ↓ri_89_12, ↓ri_89_13, ↓ri_89_16, ↓ri_89_19, ↓ri_89_22, Option.some.injEq, Prod.mk.injEq, exists_eq_left', exists_eq', exists_and_left, exists_and_right, true_and, and_true, true_or, or_true, and_self, and_assoc, Option.toList_some, Option.toList_none, List.cons_append, List.nil_append, ↓reduceIte, rz_x01, rz_x10]
  exact kk _ k4 ((hs1.tr (hs2.wd (by omega) (by omega))).tr hs3)
set_option maxHeartbeats 4000000 in
set_option maxRecDepth 100000 in
theorem c_C_comeOutUpTo {key : Int32} (hI : rz_I0 nw) (h : rz_RP o nw bf sn hist tx os pl ss tk ro re hp) (kk : ∀ hp', rz_RP o (rz_upto_ nw key).2 nw sn (rz_hs (rz_upto_ nw key).1 nw hist) tx os pl ss tk ro re hp' → rz_sm o (o + 115) hp hp' → R (some (.int (rz_upto_ nw key).1)) hp') : rz_ev (d + 6) 90 0 [some (.ref o), some (.int key)] [] hp R := by
  obtain ⟨c0, c1, c2, c3, c4, c5, c6, c7⟩ := rz_RP_cos h
  obtain ⟨p0, p1, p2, p3, p4, p5, p6, p7, p8, p9⟩ := id h.1
  simp only [↓ri_90_0, ↓ri_90_1, ↓ri_90_4, ↓ri_90_5, ↓ri_90_8, ↓ri_90_11, ↓ri_90_12, ↓ri_90_13, ↓ri_90_16, ↓ri_90_17, ↓ri_90_20, ↓ri_90_23, Option.some.injEq, Prod.mk.injEq, exists_eq_left', exists_eq', exists_and_left, exists_and_right, true_and, and_true, true_or, or_true, and_self, and_assoc, Option.toList_some, Option.toList_none, List.cons_append, List.nil_append, ↓reduceIte, rz_x01, rz_x10, p0, p1, c2]
  refine c_C_bf (d := d + 2) h (fun h1 k1 hs1 => ?_)
  obtain ⟨e0, e1, e2, e3, e4, e5, e6, e7⟩ := rz_RP_cos k1
  obtain ⟨q0, q1, q2, q3, q4, q5, q6, q7, q8, q9⟩ := id k1.1
  simp only [↓ri_90_0, ↓ri_90_1, ↓ri_90_4, ↓ri_90_5, ↓ri_90_8, ↓ri_90_11, ↓ri_90_12, ↓ri_90_13, ↓ri_90_16, ↓ri_90_17, ↓ri_90_20, ↓ri_90_23, Option.some.injEq, Prod.mk.injEq, exists_eq_left', exists_eq', exists_and_left, exists_and_right, true_and, and_true, true_or, or_true, and_self, and_assoc, Option.toList_some, Option.toList_none, List.cons_append, List.nil_append, ↓reduceIte, rz_x01, rz_x10, q0, e1]
  refine c_T_letOutUpTo (d := d + 1) k1.2.1 hI (fun h2 k2 hs2 => ?_)
  have k3 := rz_RP_nw k1 k2 hs2
  obtain ⟨f0, f1, f2, f3, f4, f5, f6, f7⟩ := rz_RP_cos k3
  simp only [↓ri_90_0, ↓ri_90_1, ↓ri_90_4, ↓ri_90_5, ↓ri_90_8, ↓ri_90_11, ↓ri_90_12, ↓ri_90_13, ↓ri_90_16, ↓ri_90_17, ↓ri_90_20, ↓ri_90_23, Option.some.injEq, Prod.mk.injEq, exists_eq_left', exists_eq', exists_and_left, exists_and_right, true_and, and_true, true_or, or_true, and_self, and_assoc, Option.toList_some, Option.toList_none, List.cons_append, List.nil_append, ↓reduceIte, rz_x01, rz_x10, f0]
  refine c_C_recorded (d := d) k3 (fun h3 k4 hs3 => ?_)
  simp only [↓ri_90_0, ↓ri_90_1, ↓ri_90_4, ↓ri_90_5, ↓ri_90_8, ↓ri_90_11, ↓ri_90_12, ↓ri_90_13, ↓ri_90_16, ↓ri_90_17, ↓ri_90_20, ↓ri_90_23, Option.some.injEq, Prod.mk.injEq, exists_eq_left', exists_eq', exists_and_left, exists_and_right, true_and, and_true, true_or, or_true, and_self, and_assoc, Option.toList_some, Option.toList_none, List.cons_append, List.nil_append, ↓reduceIte, rz_x01, rz_x10]
  exact kk _ k4 ((hs1.tr (hs2.wd (by omega) (by omega))).tr hs3)
set_option maxHeartbeats 4000000 in
set_option maxRecDepth 100000 in
theorem c_C_less {n key : Int32} (hI : rz_I0 nw) (h : rz_RP o nw bf sn hist tx os pl ss tk ro re hp) (kk : ∀ hp', rz_RP o (rz_less_ nw n key).2 nw sn (rz_hs (rz_less_ nw n key).1 nw hist) tx os pl ss tk ro re hp' → rz_sm o (o + 115) hp hp' → R (some (.int (rz_less_ nw n key).1)) hp') : rz_ev (d + 6) 91 0 [some (.ref o), some (.int n), some (.int key)] [] hp R := by
  obtain ⟨c0, c1, c2, c3, c4, c5, c6, c7⟩ := rz_RP_cos h
  obtain ⟨p0, p1, p2, p3, p4, p5, p6, p7, p8, p9⟩ := id h.1
  simp only [↓ri_91_0, ↓ri_91_1, ↓ri_91_4, ↓ri_91_5, ↓ri_91_8, ↓ri_91_11, ↓ri_91_12, ↓ri_91_13, ↓ri_91_16, ↓ri_91_17, ↓ri_91_18, ↓ri_91_21, ↓ri_91_24, Option.some.injEq, Prod.mk.injEq, exists_eq_left', exists_eq', exists_and_left, exists_and_right, true_and, and_true, true_or, or_true, and_self, and_assoc, Option.toList_some, Option.toList_none, List.cons_append, List.nil_append, ↓reduceIte, rz_x01, rz_x10, p0, p1, c2]
  refine c_C_bf (d := d + 2) h (fun h1 k1 hs1 => ?_)
  obtain ⟨e0, e1, e2, e3, e4, e5, e6, e7⟩ := rz_RP_cos k1
  obtain ⟨q0, q1, q2, q3, q4, q5, q6, q7, q8, q9⟩ := id k1.1
  simp only [↓ri_91_0, ↓ri_91_1, ↓ri_91_4, ↓ri_91_5, ↓ri_91_8, ↓ri_91_11, ↓ri_91_12, ↓ri_91_13, ↓ri_91_16, ↓ri_91_17, ↓ri_91_18, ↓ri_91_21, ↓ri_91_24, Option.some.injEq, Prod.mk.injEq, exists_eq_left', exists_eq', exists_and_left, exists_and_right, true_and, and_true, true_or, or_true, and_self, and_assoc, Option.toList_some, Option.toList_none, List.cons_append, List.nil_append, ↓reduceIte, rz_x01, rz_x10, q0, e1]
  refine c_T_makeLess (d := d + 2) k1.2.1 hI (fun h2 k2 hs2 => ?_)
  have k3 := rz_RP_nw k1 k2 hs2
  obtain ⟨f0, f1, f2, f3, f4, f5, f6, f7⟩ := rz_RP_cos k3
  simp only [↓ri_91_0, ↓ri_91_1, ↓ri_91_4, ↓ri_91_5, ↓ri_91_8, ↓ri_91_11, ↓ri_91_12, ↓ri_91_13, ↓ri_91_16, ↓ri_91_17, ↓ri_91_18, ↓ri_91_21, ↓ri_91_24, Option.some.injEq, Prod.mk.injEq, exists_eq_left', exists_eq', exists_and_left, exists_and_right, true_and, and_true, true_or, or_true, and_self, and_assoc, Option.toList_some, Option.toList_none, List.cons_append, List.nil_append, ↓reduceIte, rz_x01, rz_x10, f0]
  refine c_C_recorded (d := d) k3 (fun h3 k4 hs3 => ?_)
  simp only [↓ri_91_0, ↓ri_91_1, ↓ri_91_4, ↓ri_91_5, ↓ri_91_8, ↓ri_91_11, ↓ri_91_12, ↓ri_91_13, ↓ri_91_16, ↓ri_91_17, ↓ri_91_18, ↓ri_91_21, ↓ri_91_24, Option.some.injEq, Prod.mk.injEq, exists_eq_left', exists_eq', exists_and_left, exists_and_right, true_and, and_true, true_or, or_true, and_self, and_assoc, Option.toList_some, Option.toList_none, List.cons_append, List.nil_append, ↓reduceIte, rz_x01, rz_x10]
  exact kk _ k4 ((hs1.tr (hs2.wd (by omega) (by omega))).tr hs3)
set_option maxHeartbeats 4000000 in
set_option maxRecDepth 100000 in
theorem c_C_takeBack {n : Int32} (hI : rz_I0 nw) (h : rz_RP o nw bf sn hist tx os pl ss tk ro re hp) (kk : ∀ hp', rz_RP o (rz_back_ nw n).2 nw sn (rz_hs (rz_back_ nw n).1 nw hist) tx os pl ss tk ro re hp' → rz_sm o (o + 115) hp hp' → R (some (.int (rz_back_ nw n).1)) hp') : rz_ev (d + 6) 92 0 [some (.ref o), some (.int n)] [] hp R := by
  obtain ⟨c0, c1, c2, c3, c4, c5, c6, c7⟩ := rz_RP_cos h
  obtain ⟨p0, p1, p2, p3, p4, p5, p6, p7, p8, p9⟩ := id h.1
  simp only [↓ri_92_0, ↓ri_92_1, ↓ri_92_4, ↓ri_92_5, ↓ri_92_8, ↓ri_92_11, ↓ri_92_12, ↓ri_92_13, ↓ri_92_16, ↓ri_92_17, ↓ri_92_20, ↓ri_92_23, Option.some.injEq, Prod.mk.injEq, exists_eq_left', exists_eq', exists_and_left, exists_and_right, true_and, and_true, true_or, or_true, and_self, and_assoc, Option.toList_some, Option.toList_none, List.cons_append, List.nil_append, ↓reduceIte, rz_x01, rz_x10, p0, p1, c2]
  refine c_C_bf (d := d + 2) h (fun h1 k1 hs1 => ?_)
  obtain ⟨e0, e1, e2, e3, e4, e5, e6, e7⟩ := rz_RP_cos k1
  obtain ⟨q0, q1, q2, q3, q4, q5, q6, q7, q8, q9⟩ := id k1.1
  simp only [↓ri_92_0, ↓ri_92_1, ↓ri_92_4, ↓ri_92_5, ↓ri_92_8, ↓ri_92_11, ↓ri_92_12, ↓ri_92_13, ↓ri_92_16, ↓ri_92_17, ↓ri_92_20, ↓ri_92_23, Option.some.injEq, Prod.mk.injEq, exists_eq_left', exists_eq', exists_and_left, exists_and_right, true_and, and_true, true_or, or_true, and_self, and_assoc, Option.toList_some, Option.toList_none, List.cons_append, List.nil_append, ↓reduceIte, rz_x01, rz_x10, q0, e1]
  refine c_T_giveBack (d := d + 2) k1.2.1 (fun h2 k2 hs2 => ?_)
  have k3 := rz_RP_nw k1 k2 hs2
  obtain ⟨f0, f1, f2, f3, f4, f5, f6, f7⟩ := rz_RP_cos k3
  simp only [↓ri_92_0, ↓ri_92_1, ↓ri_92_4, ↓ri_92_5, ↓ri_92_8, ↓ri_92_11, ↓ri_92_12, ↓ri_92_13, ↓ri_92_16, ↓ri_92_17, ↓ri_92_20, ↓ri_92_23, Option.some.injEq, Prod.mk.injEq, exists_eq_left', exists_eq', exists_and_left, exists_and_right, true_and, and_true, true_or, or_true, and_self, and_assoc, Option.toList_some, Option.toList_none, List.cons_append, List.nil_append, ↓reduceIte, rz_x01, rz_x10, f0]
  refine c_C_recorded (d := d) k3 (fun h3 k4 hs3 => ?_)
  simp only [↓ri_92_0, ↓ri_92_1, ↓ri_92_4, ↓ri_92_5, ↓ri_92_8, ↓ri_92_11, ↓ri_92_12, ↓ri_92_13, ↓ri_92_16, ↓ri_92_17, ↓ri_92_20, ↓ri_92_23, Option.some.injEq, Prod.mk.injEq, exists_eq_left', exists_eq', exists_and_left, exists_and_right, true_and, and_true, true_or, or_true, and_self, and_assoc, Option.toList_some, Option.toList_none, List.cons_append, List.nil_append, ↓reduceIte, rz_x01, rz_x10]
  exact kk _ k4 ((hs1.tr (hs2.wd (by omega) (by omega))).tr hs3)
end RZRQ
