/-! types() and faultOf(), for any word -/
def ty_sg (w : Int64) (K : Int32) : Int32 := ((w >>> (K.toInt64 &&& 63)) &&& 255).toInt32
def ty_c (x : Int32) : Int32 := (x.toUInt32 % 65536).toInt32
def ty_nx (tx : List Int32) (x : Int32) : List Int32 := if x = 0 then tx else tx ++ [ty_c x]
def ty_tx (w : Int64) : Nat → Int32 → List Int32 → List Int32
  | 0, _, tx => tx
  | n + 1, K, tx => ty_tx w n (K + -8) (ty_nx tx (ty_sg w K))
def ty_ok (w : Int64) : Nat → Int32 → List Int32 → Bool
  | 0, K, _ => decide (K < 0)
  | n + 1, K, tx => decide (¬ K < 0) && (decide (tx.length < 60) && (decide (vp_nar .char (ty_c (ty_sg w K)) = ty_c (ty_sg w K)) && ty_ok w n (K + -8) (ty_nx tx (ty_sg w K))))
section TY
variable {d o : Nat} {nw sn : rz_AS} {hist : List rz_AS} {tk ro re : Int32} {hp : rz_Hp} {R : Option Value → rz_Hp → Prop} {w : Int64}
set_option maxHeartbeats 4000000 in
set_option maxRecDepth 100000 in
theorem ty_loop {txE : List Int32} (kk : ∀ hp', rz_OJ o nw sn hist txE tk ro re hp' → rz_sm o (o + 115) hp hp' → R (some (.int 1)) hp') : ∀ (n : Nat) (K : Int32) (tx : List Int32) (hp1 : rz_Hp) (l5 : Option Value), ty_ok w n K tx = true → ty_tx w n K tx = txE → rz_OJ o nw sn hist tx tk ro re hp1 → rz_sm o (o + 115) hp hp1 → rz_ev (d + 2) 124 6 [some (.ref o), some (.long w), none, some (.int 1), some (.int K), l5] [] hp1 R := by
  intro n
  induction n with
  | zero =>
    intro K tx hp1 l5 ho he h s
    have c1 : K < 0 := of_decide_eq_true ho
    have he : tx = txE := he
    subst he
    rw [ri_124_6]
    simp only [↓ri_124_8, ↓ri_124_53, ↓ri_124_54, Option.some.injEq, Prod.mk.injEq, exists_eq_left', exists_eq', exists_and_left, exists_and_right, true_and, and_true, true_or, or_true, and_self, and_assoc, Option.toList_some, Option.toList_none, List.cons_append, List.nil_append, ↓reduceIte, rz_x01, rz_x10, ↓if_pos c1]
    exact kk hp1 h s
  | succ n ih =>
    intro K tx hp1 l5 ho he h s
    unfold ty_ok at ho
    simp only [Bool.and_eq_true, decide_eq_true_eq] at ho
    obtain ⟨c1, hl, hv, ho⟩ := ho
    have he : ty_tx w n (K + -8) (ty_nx tx (ty_sg w K)) = txE := he
    have hc := h.co
    have e1 : (1 : Int32) = 0 ↔ False := by decide
    rw [ri_124_6]
    by_cases h0 : ty_sg w K = 0
    · have hn : ty_nx tx (ty_sg w K) = tx := if_pos h0
      rw [hn] at ho he
      have h0' : ((w >>> (K.toInt64 &&& 63)) &&& 255).toInt32 = 0 := h0
      simp only [↓ri_124_8, ↓ri_124_11, ↓ri_124_12, ↓ri_124_14, ↓ri_124_15, ↓ri_124_18, ↓ri_124_19, ↓ri_124_20, ↓ri_124_22, ↓ri_124_23, ↓ri_124_26, ↓ri_124_28, ↓ri_124_41, ↓ri_124_42, ↓ri_124_45, ↓ri_124_46, ↓ri_124_47, ↓ri_124_50, Option.some.injEq, Prod.mk.injEq, exists_eq_left', exists_eq', exists_and_left, exists_and_right, true_and, and_true, true_or, or_true, and_self, and_assoc, Option.toList_some, Option.toList_none, List.cons_append, List.nil_append, ↓reduceIte, rz_x01, rz_x10, ↓if_neg c1, h0', e1]
      exact ih _ tx hp1 _ ho he h s
    · have hn : ty_nx tx (ty_sg w K) = tx ++ [ty_c (ty_sg w K)] := if_neg h0
      rw [hn] at ho he
      have h0' : ¬ ((w >>> (K.toInt64 &&& 63)) &&& 255).toInt32 = 0 := h0
      simp only [↓ri_124_8, ↓ri_124_11, ↓ri_124_12, ↓ri_124_14, ↓ri_124_15, ↓ri_124_18, ↓ri_124_19, ↓ri_124_20, ↓ri_124_22, ↓ri_124_23, ↓ri_124_26, ↓ri_124_28, ↓ri_124_31, ↓ri_124_32, ↓ri_124_34, ↓ri_124_35, Option.some.injEq, Prod.mk.injEq, exists_eq_left', exists_eq', exists_and_left, exists_and_right, true_and, and_true, true_or, or_true, and_self, and_assoc, Option.toList_some, Option.toList_none, List.cons_append, List.nil_append, ↓reduceIte, rz_x01, rz_x10, ↓if_neg c1, ↓if_neg h0', e1, hc]
      refine q_type (d := d) (c := ty_c (ty_sg w K)) hv h (fun hp2 h2 s2 => ?_)
      have et : rz_type_ tx (ty_c (ty_sg w K)) = (nI (tx.length + 1), tx ++ [ty_c (ty_sg w K)]) := if_pos hl
      rw [et] at h2 ⊢
      have c2 : ¬ nI (tx.length + 1) ≤ 0 := Int32.not_le.mpr (nI_lt (a := 0) (by omega) (by omega))
      simp only [↓ri_124_38, ↓ri_124_41, ↓ri_124_42, ↓ri_124_45, ↓ri_124_46, ↓ri_124_47, ↓ri_124_50, Option.some.injEq, Prod.mk.injEq, exists_eq_left', exists_eq', exists_and_left, exists_and_right, true_and, and_true, true_or, or_true, and_self, and_assoc, Option.toList_some, Option.toList_none, List.cons_append, List.nil_append, ↓reduceIte, rz_x01, rz_x10, ↓if_neg c2]
      exact ih _ _ hp2 _ ho he h2 (s.tr s2)
set_option maxHeartbeats 4000000 in
set_option maxRecDepth 100000 in
theorem q_types {tx txE : List Int32} (h : rz_OJ o nw sn hist tx tk ro re hp) (ho : ty_ok w 8 56 tx = true) (he : ty_tx w 8 56 tx = txE) (kk : ∀ hp', rz_OJ o nw sn hist txE tk ro re hp' → rz_sm o (o + 115) hp hp' → R (some (.int 1)) hp') : rz_ev (d + 2) 124 0 [some (.ref o), some (.long w), none, none, none, none] [] hp R := by
  simp only [↓ri_124_0, ↓ri_124_1, ↓ri_124_2, ↓ri_124_4, Option.some.injEq, Prod.mk.injEq, exists_eq_left', exists_eq', exists_and_left, exists_and_right, true_and, and_true, true_or, or_true, and_self, and_assoc, Option.toList_some, Option.toList_none, List.cons_append, List.nil_append, ↓reduceIte, rz_x01, rz_x10]
  exact ty_loop kk 8 56 tx hp _ ho he h rz_sm.rf
end TY
section TF
variable {d : Nat} {hp : rz_Hp} {R : Option Value → rz_Hp → Prop} {w v : Int64}
set_option maxHeartbeats 4000000 in
set_option maxRecDepth 100000 in
theorem q_faultOf {tx : List Int32} {r : Int32} (h1 : ty_ok w 8 56 [] = true) (h2 : ty_ok v 8 56 (ty_tx w 8 56 []) = true) (h3 : ty_tx v 8 56 (ty_tx w 8 56 []) = tx) (hl : (rz_rt tx 30 0 []).2.length ≤ 30) (hr : (match (rz_rt tx 30 0 []).1 with | some j => -100 - (-100 - nI j) | none => -1) = r) (h4 : (match (rz_rt tx 30 0 []).1 with | some j => (-100 - nI j < 0 ∧ ¬ -100 - nI j = -4 : Bool) | none => true) = true) (kk : ∀ hp', rz_ex hp.2.1 hp hp' → hp'.2 = (hp.2.1 + 115, hp.2.2 + 3177) → R (some (.int r)) hp') : rz_ev (d + 7) 125 0 [some (.long w), none, some (.long v), none, none, none] [] hp R := by
  simp only [↓ri_125_0, ↓ri_125_3, ↓ri_125_4, Option.some.injEq, Prod.mk.injEq, exists_eq_left', exists_eq', exists_and_left, exists_and_right, true_and, and_true, true_or, or_true, and_self, and_assoc, Option.toList_some, Option.toList_none, List.cons_append, List.nil_append, ↓reduceIte, rz_x01, rz_x10]
  refine q_init (d := d + 2) (b := hp.2.1) (rz_nw_push rfl) (fun hp1 g1 e1 x1 => ?_)
  simp only [↓ri_125_7, ↓ri_125_9, ↓ri_125_11, ↓ri_125_12, Option.some.injEq, Prod.mk.injEq, exists_eq_left', exists_eq', exists_and_left, exists_and_right, true_and, and_true, true_or, or_true, and_self, and_assoc, Option.toList_some, Option.toList_none, List.cons_append, List.nil_append, ↓reduceIte, rz_x01, rz_x10]
  refine q_types (d := d + 4) g1 h1 rfl (fun hp2 g2 s2 => ?_)
  simp only [↓ri_125_15, ↓ri_125_18, ↓ri_125_20, ↓ri_125_21, Option.some.injEq, Prod.mk.injEq, exists_eq_left', exists_eq', exists_and_left, exists_and_right, true_and, and_true, true_or, or_true, and_self, and_assoc, Option.toList_some, Option.toList_none, List.cons_append, List.nil_append, ↓reduceIte, rz_x01, rz_x10]
  refine q_types (d := d + 4) g2 h2 h3 (fun hp3 g3 s3 => ?_)
  have hc := g3.co
  have fin : ∀ hp4, rz_sm hp.2.1 (hp.2.1 + 115) hp3 hp4 → rz_ex hp.2.1 hp hp4 ∧ hp4.2 = (hp.2.1 + 115, hp.2.2 + 3177) := fun hp4 s4 => by
    refine ⟨?_, ?_⟩
    · have a1 := rz_ex_new x1
      have a2 := a1.tr (rz_ex_sm s2 (Nat.le_refl _))
      have a3 := a2.tr (rz_ex_sm s3 (Nat.le_refl _))
      exact a3.tr (rz_ex_sm s4 (Nat.le_refl _))
    · rw [s4.1, s3.1, s2.1, e1]
      rfl
  simp only [↓ri_125_24, ↓ri_125_30, ↓ri_125_32, Option.some.injEq, Prod.mk.injEq, exists_eq_left', exists_eq', exists_and_left, exists_and_right, true_and, and_true, true_or, or_true, and_self, and_assoc, Option.toList_some, Option.toList_none, List.cons_append, List.nil_append, ↓reduceIte, rz_x01, rz_x10, hc]
  refine q_perform (d := d) g3 (fun hp4 j q g4 s4 => ?_) (fun hp4 nw' q1 q2 g4 s4 => ?_) (fun hp4 i er nw' q1 q2 g4 s4 => ?_)
  · rw [q] at hr h4
    have h4 : ((-100 - nI j < 0 ∧ ¬ -100 - nI j = -4 : Bool)) = true := h4
    simp only [Bool.decide_and, Bool.and_eq_true, decide_eq_true_eq] at h4
    have hr : -100 - (-100 - nI j) = r := hr
    have c1 : ¬ 0 ≤ -100 - nI j := Int32.not_le.mpr h4.1
    simp only [↓ri_125_35, ↓ri_125_37, ↓ri_125_39, ↓ri_125_42, ↓ri_125_44, ↓ri_125_46, ↓ri_125_49, ↓ri_125_50, ↓ri_125_53, ↓ri_125_55, ↓ri_125_57, ↓ri_125_58, Option.some.injEq, Prod.mk.injEq, exists_eq_left', exists_eq', exists_and_left, exists_and_right, true_and, and_true, true_or, or_true, and_self, and_assoc, Option.toList_some, Option.toList_none, List.cons_append, List.nil_append, ↓reduceIte, rz_x01, rz_x10, ↓if_neg c1, ↓if_neg h4.2, hr]
    exact kk hp4 (fin hp4 s4).1 (fin hp4 s4).2
  · rw [q1] at hr
    have hr : (-1 : Int32) = r := hr
    have c1 : 0 ≤ nI (rz_rt tx 30 0 []).2.length := nI_pos' (by omega)
    simp only [↓ri_125_35, ↓ri_125_37, ↓ri_125_39, ↓ri_125_42, ↓ri_125_44, ↓ri_125_46, ↓ri_125_49, ↓ri_125_50, ↓ri_125_53, ↓ri_125_55, ↓ri_125_57, ↓ri_125_58, Option.some.injEq, Prod.mk.injEq, exists_eq_left', exists_eq', exists_and_left, exists_and_right, true_and, and_true, true_or, or_true, and_self, and_assoc, Option.toList_some, Option.toList_none, List.cons_append, List.nil_append, ↓reduceIte, rz_x01, rz_x10, ↓if_pos c1, hr]
    exact kk hp4 (fin hp4 s4).1 (fin hp4 s4).2
  · rw [q1] at hr
    have hr : (-1 : Int32) = r := hr
    have c1 : ¬ (0 : Int32) ≤ -4 := by decide
    simp only [↓ri_125_35, ↓ri_125_37, ↓ri_125_39, ↓ri_125_42, ↓ri_125_44, ↓ri_125_46, ↓ri_125_49, ↓ri_125_50, ↓ri_125_53, ↓ri_125_55, ↓ri_125_57, ↓ri_125_58, Option.some.injEq, Prod.mk.injEq, exists_eq_left', exists_eq', exists_and_left, exists_and_right, true_and, and_true, true_or, or_true, and_self, and_assoc, Option.toList_some, Option.toList_none, List.cons_append, List.nil_append, ↓reduceIte, rz_x01, rz_x10, ↓if_neg c1, hr]
    exact kk hp4 (fin hp4 s4).1 (fin hp4 s4).2
end TF
theorem cz_snd {x y : rz_E8} (h : ((0 : Int32), x) = ((0 : Int32), y)) : x = y := congrArg (fun q : Int32 × rz_E8 => q.2) h
section TP
variable {d o : Nat} {sn : rz_AS} {hist : List rz_AS} {tx : List Int32} {tk ro re : Int32} {hp : rz_Hp} {R : Option Value → rz_Hp → Prop} {S S' : rz_E8} {rd : Nat → Int32} {os : List rz_Or}
theorem q_perform_y {n : Int32} (h : rz_OJ o (cz S rd) sn hist tx tk ro re hp) (e1 : rz_rt tx 30 0 [] = (none, os)) (e2 : (cz_pw os 0 S).1 = none) (e3 : (cz_pw os 0 S).2 = S') (hn : nI os.length = n) (kk : ∀ hp', rz_OJ o (cz S' rd) sn (rz_rec hist (cz S rd)) tx tk ro re hp' → rz_sm o (o + 115) hp hp' → R (some (.int n)) hp') : rz_ev (d + 6) 97 0 [some (.ref o), none, none, none] [] hp R := by
  have ep := cz_pw_eq (rd := rd) os 0 S
  rw [e2, e3] at ep
  refine q_perform h (fun hp4 j q g4 s4 => ?_) (fun hp4 nw' q1 q2 g4 s4 => ?_) (fun hp4 i er nw' q1 q2 g4 s4 => ?_)
  · rw [e1] at q; cases q
  · rw [e1, ep] at q2
    cases q2
    rw [e1, hn]
    exact kk hp4 g4 s4
  · rw [e1, ep] at q2; cases q2
theorem q_perform_n {i : Nat} {er : Int32} (h : rz_OJ o (cz S rd) sn hist tx tk ro re hp) (e1 : rz_rt tx 30 0 [] = (none, os)) (e2 : (cz_pw os 0 S).1 = some (i, er)) (kk : ∀ hp', rz_OJ o (cz S rd) sn hist tx tk (nI i) er hp' → rz_sm o (o + 115) hp hp' → R (some (.int (-4))) hp') : rz_ev (d + 6) 97 0 [some (.ref o), none, none, none] [] hp R := by
  have ep := cz_pw_eq (rd := rd) os 0 S
  rw [e2] at ep
  refine q_perform h (fun hp4 j q g4 s4 => ?_) (fun hp4 nw' q1 q2 g4 s4 => ?_) (fun hp4 i er nw' q1 q2 g4 s4 => ?_)
  · rw [e1] at q; cases q
  · rw [e1, ep] at q2; cases q2
  · rw [e1, ep] at q2
    cases q2
    exact kk hp4 g4 s4
theorem q_perform_f {j : Nat} {r : Int32} {nw : rz_AS} (h : rz_OJ o nw sn hist tx tk ro re hp) (e1 : (rz_rt tx 30 0 []).1 = some j) (hr : -100 - nI j = r) (kk : ∀ hp', rz_OJ o nw sn hist tx tk ro re hp' → rz_sm o (o + 115) hp hp' → R (some (.int r)) hp') : rz_ev (d + 6) 97 0 [some (.ref o), none, none, none] [] hp R := by
  refine q_perform h (fun hp4 j q g4 s4 => ?_) (fun hp4 nw' q1 q2 g4 s4 => ?_) (fun hp4 i er nw' q1 q2 g4 s4 => ?_)
  · rw [e1] at q
    cases q
    rw [hr]
    exact kk hp4 g4 s4
  · rw [e1] at q1; cases q1
  · rw [e1] at q1; cases q1
theorem q_undo2 {n : Nat} {nw t : rz_AS} (h : rz_OJ o nw sn (rz_rec hist t) tx tk ro re hp) (hl : hist.length < 4) (hn : hist.length = n) (kk : ∀ hp', rz_OJ o t sn hist tx tk ro re hp' → rz_sm o (o + 115) hp hp' → R (some (.int (nI n))) hp') : rz_ev (d + 5) 99 0 [some (.ref o)] [] hp R := by
  have e : rz_rec hist t = hist ++ [t] := by unfold rz_rec; rw [if_pos hl]
  refine q_undo1 (n := n) h (by rw [e, List.length_append, hn]; rfl) (fun hp' k s => kk hp' ?_ s)
  rw [e, List.dropLast_concat] at k
  exact k
end TP
