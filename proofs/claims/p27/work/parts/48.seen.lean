/-! The law's own small methods: part, drawn, seen -/
def rz_prt (v n : Int32) : Int32 := (v &&& 2147483647) - (v &&& 2147483647) / n * n
theorem q_part {d : Nat} {v n : Int32} {hp : rz_Hp} {R : Option Value → rz_Hp → Prop} : rz_ev d 117 0 [some (.int v), some (.int n)] [] hp R ↔ ¬ n = 0 ∧ R (some (.int (rz_prt v n))) hp := by
  simp only [↓ri_117_0, ↓ri_117_1, ↓ri_117_3, ↓ri_117_4, ↓ri_117_5, ↓ri_117_6, Option.some.injEq, Prod.mk.injEq, exists_eq_left', exists_eq', exists_and_left, exists_and_right, true_and, and_true, true_or, or_true, and_self, and_assoc, Option.toList_some, Option.toList_none, List.cons_append, List.nil_append, ↓reduceIte, rz_x01, rz_x10]
  rfl
def rz_dw (L : Nat) (xs : Nat → Int32) (k : Nat) : Int32 := if L = 0 then 7919 * nI k + 3 else (xs (k % L)) >>> (nI (k % 7) &&& 31) ^^^ nI (k / L) * 31 ^^^ nI k * 2654435
theorem q_drawn {d k L : Nat} {xs : Nat → Int32} {t : UInt32} {hp : rz_Hp} {R : Option Value → rz_Hp → Prop} (hs : rz_scr hp = some (L, xs)) (hL : L ≤ 260) (hk : k < 1000) : rz_ev d 118 0 [some (.float t), some (.int (nI k))] [] hp R ↔ R (some (.int (rz_dw L xs k))) hp := by
  have c7 : ¬ (7 : Int32) = 0 := by decide
  have e7 : nI k - nI k / 7 * 7 = nI (k % 7) := pk_rem (d := 7) (by omega) (by decide) (by decide)
  by_cases h0 : L = 0
  · subst h0
    simp only [↓ri_118_0, ↓ri_118_1, ↓ri_118_2, ↓ri_118_5, ↓ri_118_8, ↓ri_118_9, ↓ri_118_10, ↓ri_118_11, ↓ri_118_12, ↓ri_118_15, ↓ri_118_16, ↓ri_118_17, ↓ri_118_18, ↓ri_118_19, ↓ri_118_20, ↓ri_118_21, ↓ri_118_22, ↓ri_118_24, ↓ri_118_25, ↓ri_118_26, ↓ri_118_27, ↓ri_118_28, ↓ri_118_29, ↓ri_118_30, ↓ri_118_32, ↓ri_118_33, ↓ri_118_34, ↓ri_118_35, ↓ri_118_37, ↓ri_118_38, ↓ri_118_39, Option.some.injEq, Prod.mk.injEq, exists_eq_left', exists_eq', exists_and_left, exists_and_right, true_and, and_true, true_or, or_true, and_self, and_assoc, Option.toList_some, Option.toList_none, List.cons_append, List.nil_append, ↓reduceIte, rz_x01, rz_x10, hs, nI_0]
    rfl
  · have h0' := h0
    have cL : ¬ nI L = 0 := nI_ne0 (by omega) (by omega)
    have eD : nI k / nI L = nI (k / L) := pk_div (by omega) (by omega) (by omega)
    have eR : nI k - nI k / nI L * nI L = nI (k % L) := pk_rem (by omega) (by omega) (by omega)
    rw [eD] at eR
    have hm : k % L < L := Nat.mod_lt _ (by omega)
    have hv : vp_in (nI (k % L)) L := vp_in_nI hm (by omega)
    have hc : (nI (k % L)).toNatClampNeg = k % L := nI_clamp (by omega)
    simp only [↓ri_118_0, ↓ri_118_1, ↓ri_118_2, ↓ri_118_5, ↓ri_118_8, ↓ri_118_9, ↓ri_118_10, ↓ri_118_11, ↓ri_118_12, ↓ri_118_15, ↓ri_118_16, ↓ri_118_17, ↓ri_118_18, ↓ri_118_19, ↓ri_118_20, ↓ri_118_21, ↓ri_118_22, ↓ri_118_24, ↓ri_118_25, ↓ri_118_26, ↓ri_118_27, ↓ri_118_28, ↓ri_118_29, ↓ri_118_30, ↓ri_118_32, ↓ri_118_33, ↓ri_118_34, ↓ri_118_35, ↓ri_118_37, ↓ri_118_38, ↓ri_118_39, Option.some.injEq, Prod.mk.injEq, exists_eq_left', exists_eq', exists_and_left, exists_and_right, true_and, and_true, true_or, or_true, and_self, and_assoc, Option.toList_some, Option.toList_none, List.cons_append, List.nil_append, ↓reduceIte, rz_x01, rz_x10, hs, ↓if_neg cL, cL, not_false_eq_true, eD, eR, hv, hc, c7, e7]
    unfold rz_dw
    rw [if_neg h0]
def rz_hh (x : Int64) (f : Nat → Int32) : Nat → Int64
  | 0 => x
  | n + 1 => 31 * rz_hh x f n + (f n).toInt64
theorem rz_hh_s (x : Int64) (f : Nat → Int32) (n : Nat) : rz_hh x f (n + 1) = 31 * rz_hh x f n + (f n).toInt64 := rfl
theorem rz_count_lt {s : rz_AS} {hn tn w : Nat} (hw : w < 8) : rz_count_ s hn tn (nI w) = rz_count_ s 0 0 (nI w) := by
  obtain ⟨L, fl, am, lat, rd, laid, ci, co, tb⟩ := s
  have h8 : ¬ nI w = 8 := fun q => by have := (nI_eq (b := 8) (by omega) (by decide)).mp q; omega
  have h9 : ¬ nI w = 9 := fun q => by have := (nI_eq (b := 9) (by omega) (by decide)).mp q; omega
  unfold rz_count_
  simp only [if_neg h8, ↓if_neg h9]
/-- what the law keeps of an object: how many entries came in so far is c -/
noncomputable def rz_seen (s : rz_AS) (c : Nat) : Int64 := rz_hh (rz_hh (rz_hh (rz_hh (rz_smp s.1).toInt64 (fun k => rz_count_ s 0 0 (nI k)) 8) (fun k => rz_entry_ s.1 (nI (k / 5)) (nI (k % 5))) (5 * c)) (fun k => rz_tell s.2.2.2.1 (nI (k / 4)) (nI (k % 4))) 32) (fun k => rz_roadOf_ s.2.2.2.2.1 (nI (k / 12)) (nI (k % 12))) 144
section RZSN
variable {d o : Nat} {nw sn : rz_AS} {hist : List rz_AS} {tx : List Int32} {tk ro re : Int32} {hp : rz_Hp} {R : Option Value → rz_Hp → Prop}
set_option maxHeartbeats 4000000 in
set_option maxRecDepth 100000 in
theorem q_seen1 (h : rz_OJ o nw sn hist tx tk ro re hp) (x : Int64) : ∀ w, w ≤ 8 → (rz_ev (d + 5) 119 8 [some (.ref o), some (.long (rz_hh x (fun k => rz_count_ nw 0 0 (nI k)) w)), none, some (.int (nI w))] [] hp R ↔ rz_ev (d + 5) 119 33 [some (.ref o), some (.long (rz_hh x (fun k => rz_count_ nw 0 0 (nI k)) 8)), none, some (.int (nI 8))] [] hp R) := by
  refine rz_down 8 ?_ ?_
  · have c1 : (8 : Int32) ≤ nI 8 := by decide
    rw [ri_119_8]
    simp only [↓ri_119_9, ↓ri_119_11, Option.some.injEq, Prod.mk.injEq, exists_eq_left', exists_eq', exists_and_left, exists_and_right, true_and, and_true, true_or, or_true, and_self, and_assoc, Option.toList_some, Option.toList_none, List.cons_append, List.nil_append, ↓reduceIte, rz_x01, rz_x10, ↓if_pos c1]
  · intro w hw ih
    have c1 : ¬ (8 : Int32) ≤ nI w := nI_ge (b := 8) hw (by decide)
    have hc := h.co
    have hq := fun R => q_count (d := d) (what := nI w) h (R := R)
    rw [rz_count_lt hw] at hq
    rw [← ih, rz_hh_s, ri_119_8]
    simp only [↓ri_119_9, ↓ri_119_11, ↓ri_119_14, ↓ri_119_17, ↓ri_119_18, ↓ri_119_19, ↓ri_119_20, ↓ri_119_21, ↓ri_119_24, ↓ri_119_25, ↓ri_119_26, ↓ri_119_27, ↓ri_119_30, Option.some.injEq, Prod.mk.injEq, exists_eq_left', exists_eq', exists_and_left, exists_and_right, true_and, and_true, true_or, or_true, and_self, and_assoc, Option.toList_some, Option.toList_none, List.cons_append, List.nil_append, ↓reduceIte, rz_x01, rz_x10, ↓if_neg c1, hc, hq, nI_1]
set_option maxHeartbeats 4000000 in
set_option maxRecDepth 100000 in
theorem q_seen2 (h : rz_OJ o nw sn hist tx tk ro re hp) {c : Nat} (hc1 : c ≤ 1000) (hci : nw.2.2.2.2.2.2.1 = nI c) (x : Int64) : ∀ w, w ≤ 5 * c → (rz_ev (d + 5) 119 35 [some (.ref o), some (.long (rz_hh x (fun k => rz_entry_ nw.1 (nI (k / 5)) (nI (k % 5))) w)), none, some (.int (nI w))] [] hp R ↔ rz_ev (d + 5) 119 70 [some (.ref o), some (.long (rz_hh x (fun k => rz_entry_ nw.1 (nI (k / 5)) (nI (k % 5))) (5 * c))), none, some (.int (nI (5 * c)))] [] hp R) := by
  have hq1 : ∀ R, rz_ev (d + 4) 111 0 [some (.ref o), some (.int 1)] [] hp R ↔ R (some (.int (nI c))) hp := fun R => by
    rw [q_count (d := d) h]
    have : rz_count_ nw hist.length tx.length 1 = nI c := by
      obtain ⟨L, fl, am, lat, rd, laid, ci, co, tb⟩ := nw
      exact hci
    rw [this]
  have e5 : (5 : Int32) * nI c = nI (5 * c) := pk_mul (a := 5) (b := c)
  have hc := h.co
  refine rz_down (5 * c) ?_ ?_
  · have c1 : nI (5 * c) ≤ nI (5 * c) := Int32.le_refl _
    rw [ri_119_35]
    simp only [↓ri_119_36, ↓ri_119_37, ↓ri_119_38, ↓ri_119_39, ↓ri_119_42, ↓ri_119_43, Option.some.injEq, Prod.mk.injEq, exists_eq_left', exists_eq', exists_and_left, exists_and_right, true_and, and_true, true_or, or_true, and_self, and_assoc, Option.toList_some, Option.toList_none, List.cons_append, List.nil_append, ↓reduceIte, rz_x01, rz_x10, hc, hq1, e5, ↓if_pos c1]
  · intro w hw ih
    have c1 : ¬ nI (5 * c) ≤ nI w := Int32.not_le.mpr (nI_lt hw (by omega))
    have eD : nI w / 5 = nI (w / 5) := pk_div (d := 5) (by omega) (by decide) (by decide)
    have eR : nI w - nI w / 5 * 5 = nI (w % 5) := pk_rem (d := 5) (by omega) (by decide) (by decide)
    rw [eD] at eR
    have c5 : ¬ (5 : Int32) = 0 := by decide
    have hq := fun R => q_entry (d := d) (n := nI (w / 5)) (what := nI (w % 5)) h (R := R)
    rw [← ih, rz_hh_s, ri_119_35]
    simp only [↓ri_119_36, ↓ri_119_37, ↓ri_119_38, ↓ri_119_39, ↓ri_119_42, ↓ri_119_43, ↓ri_119_46, ↓ri_119_49, ↓ri_119_50, ↓ri_119_51, ↓ri_119_52, ↓ri_119_53, ↓ri_119_54, ↓ri_119_55, ↓ri_119_56, ↓ri_119_57, ↓ri_119_58, ↓ri_119_61, ↓ri_119_62, ↓ri_119_63, ↓ri_119_64, ↓ri_119_67, Option.some.injEq, Prod.mk.injEq, exists_eq_left', exists_eq', exists_and_left, exists_and_right, true_and, and_true, true_or, or_true, and_self, and_assoc, Option.toList_some, Option.toList_none, List.cons_append, List.nil_append, ↓reduceIte, rz_x01, rz_x10, hc, hq1, e5, ↓if_neg c1, eD, eR, c5, not_false_eq_true, hq, nI_1]
set_option maxHeartbeats 4000000 in
set_option maxRecDepth 100000 in
theorem q_seen3 (h : rz_OJ o nw sn hist tx tk ro re hp) (x : Int64) : ∀ w, w ≤ 32 → (rz_ev (d + 5) 119 72 [some (.ref o), some (.long (rz_hh x (fun k => rz_tell nw.2.2.2.1 (nI (k / 4)) (nI (k % 4))) w)), none, some (.int (nI w))] [] hp R ↔ rz_ev (d + 5) 119 102 [some (.ref o), some (.long (rz_hh x (fun k => rz_tell nw.2.2.2.1 (nI (k / 4)) (nI (k % 4))) 32)), none, some (.int (nI 32))] [] hp R) := by
  have hc := h.co
  refine rz_down 32 ?_ ?_
  · have c1 : (32 : Int32) ≤ nI 32 := by decide
    rw [ri_119_72]
    simp only [↓ri_119_73, ↓ri_119_75, Option.some.injEq, Prod.mk.injEq, exists_eq_left', exists_eq', exists_and_left, exists_and_right, true_and, and_true, true_or, or_true, and_self, and_assoc, Option.toList_some, Option.toList_none, List.cons_append, List.nil_append, ↓reduceIte, rz_x01, rz_x10, ↓if_pos c1]
  · intro w hw ih
    have c1 : ¬ (32 : Int32) ≤ nI w := nI_ge (b := 32) hw (by decide)
    have eD : nI w / 4 = nI (w / 4) := pk_div (d := 4) (by omega) (by decide) (by decide)
    have eR : nI w - nI w / 4 * 4 = nI (w % 4) := pk_rem (d := 4) (by omega) (by decide) (by decide)
    rw [eD] at eR
    have c5 : ¬ (4 : Int32) = 0 := by decide
    have hq := fun R => q_out (d := d + 3) (back := nI (w / 4)) (what := nI (w % 4)) h (R := R)
    rw [← ih, rz_hh_s, ri_119_72]
    simp only [↓ri_119_73, ↓ri_119_75, ↓ri_119_78, ↓ri_119_81, ↓ri_119_82, ↓ri_119_83, ↓ri_119_84, ↓ri_119_85, ↓ri_119_86, ↓ri_119_87, ↓ri_119_88, ↓ri_119_89, ↓ri_119_90, ↓ri_119_93, ↓ri_119_94, ↓ri_119_95, ↓ri_119_96, ↓ri_119_99, Option.some.injEq, Prod.mk.injEq, exists_eq_left', exists_eq', exists_and_left, exists_and_right, true_and, and_true, true_or, or_true, and_self, and_assoc, Option.toList_some, Option.toList_none, List.cons_append, List.nil_append, ↓reduceIte, rz_x01, rz_x10, hc, ↓if_neg c1, eD, eR, c5, not_false_eq_true, hq, nI_1]
set_option maxHeartbeats 4000000 in
set_option maxRecDepth 100000 in
theorem q_seen4 (h : rz_OJ o nw sn hist tx tk ro re hp) (x : Int64) : ∀ w, w ≤ 144 → (rz_ev (d + 5) 119 104 [some (.ref o), some (.long (rz_hh x (fun k => rz_roadOf_ nw.2.2.2.2.1 (nI (k / 12)) (nI (k % 12))) w)), none, some (.int (nI w))] [] hp R ↔ rz_ev (d + 5) 119 137 [some (.ref o), some (.long (rz_hh x (fun k => rz_roadOf_ nw.2.2.2.2.1 (nI (k / 12)) (nI (k % 12))) 144)), none, some (.int (nI 144))] [] hp R) := by
  have hc := h.co
  refine rz_down 144 ?_ ?_
  · have c1 : (144 : Int32) ≤ nI 144 := by decide
    rw [ri_119_104]
    simp only [↓ri_119_105, ↓ri_119_108, Option.some.injEq, Prod.mk.injEq, exists_eq_left', exists_eq', exists_and_left, exists_and_right, true_and, and_true, true_or, or_true, and_self, and_assoc, Option.toList_some, Option.toList_none, List.cons_append, List.nil_append, ↓reduceIte, rz_x01, rz_x10, ↓if_pos c1]
  · intro w hw ih
    have c1 : ¬ (144 : Int32) ≤ nI w := nI_ge (b := 144) hw (by decide)
    have eD : nI w / 12 = nI (w / 12) := pk_div (d := 12) (by omega) (by decide) (by decide)
    have eR : nI w - nI w / 12 * 12 = nI (w % 12) := pk_rem (d := 12) (by omega) (by decide) (by decide)
    rw [eD] at eR
    have c5 : ¬ (12 : Int32) = 0 := by decide
    have hq := fun R => q_roadOf (d := d + 2) (x := nI (w / 12)) (y := nI (w % 12)) h (R := R)
    rw [← ih, rz_hh_s, ri_119_104]
    simp only [↓ri_119_105, ↓ri_119_108, ↓ri_119_111, ↓ri_119_114, ↓ri_119_115, ↓ri_119_116, ↓ri_119_117, ↓ri_119_118, ↓ri_119_120, ↓ri_119_121, ↓ri_119_122, ↓ri_119_124, ↓ri_119_125, ↓ri_119_128, ↓ri_119_129, ↓ri_119_130, ↓ri_119_131, ↓ri_119_134, Option.some.injEq, Prod.mk.injEq, exists_eq_left', exists_eq', exists_and_left, exists_and_right, true_and, and_true, true_or, or_true, and_self, and_assoc, Option.toList_some, Option.toList_none, List.cons_append, List.nil_append, ↓reduceIte, rz_x01, rz_x10, hc, ↓if_neg c1, eD, eR, c5, not_false_eq_true, hq, nI_1]
set_option maxHeartbeats 4000000 in
set_option maxRecDepth 100000 in
theorem q_seen (h : rz_OJ o nw sn hist tx tk ro re hp) {c : Nat} (hc1 : c ≤ 1000) (hci : nw.2.2.2.2.2.2.1 = nI c) : rz_ev (d + 5) 119 0 [some (.ref o), none, none, none] [] hp R ↔ R (some (.long (rz_seen nw c))) hp := by
  have hc := h.co
  have hm := fun R => q_movesLeft (d := d + 1) h (R := R)
  have h1 := q_seen1 (d := d) (R := R) h (rz_smp nw.1).toInt64 0 (Nat.zero_le _)
  have h2 := q_seen2 (d := d) (R := R) h hc1 hci (rz_hh (rz_smp nw.1).toInt64 (fun k => rz_count_ nw 0 0 (nI k)) 8) 0 (Nat.zero_le _)
  have h3 := q_seen3 (d := d) (R := R) h (rz_hh (rz_hh (rz_smp nw.1).toInt64 (fun k => rz_count_ nw 0 0 (nI k)) 8) (fun k => rz_entry_ nw.1 (nI (k / 5)) (nI (k % 5))) (5 * c)) 0 (Nat.zero_le _)
  have h4 := q_seen4 (d := d) (R := R) h (rz_hh (rz_hh (rz_hh (rz_smp nw.1).toInt64 (fun k => rz_count_ nw 0 0 (nI k)) 8) (fun k => rz_entry_ nw.1 (nI (k / 5)) (nI (k % 5))) (5 * c)) (fun k => rz_tell nw.2.2.2.1 (nI (k / 4)) (nI (k % 4))) 32) 0 (Nat.zero_le _)
  have e0 : ∀ (x : Int64) (f : Nat → Int32), rz_hh x f 0 = x := fun _ _ => rfl
  rw [e0, nI_0] at h1 h2 h3 h4
  simp only [↓ri_119_0, ↓ri_119_1, ↓ri_119_4, ↓ri_119_5, ↓ri_119_6, ↓ri_119_7, Option.some.injEq, Prod.mk.injEq, exists_eq_left', exists_eq', exists_and_left, exists_and_right, true_and, and_true, true_or, or_true, and_self, and_assoc, Option.toList_some, Option.toList_none, List.cons_append, List.nil_append, ↓reduceIte, rz_x01, rz_x10, hc, hm]
  rw [h1]
  simp only [↓ri_119_33, ↓ri_119_34, Option.some.injEq, Prod.mk.injEq, exists_eq_left', exists_eq', exists_and_left, exists_and_right, true_and, and_true, true_or, or_true, and_self, and_assoc, Option.toList_some, Option.toList_none, List.cons_append, List.nil_append, ↓reduceIte, rz_x01, rz_x10]
  rw [h2]
  simp only [↓ri_119_70, ↓ri_119_71, Option.some.injEq, Prod.mk.injEq, exists_eq_left', exists_eq', exists_and_left, exists_and_right, true_and, and_true, true_or, or_true, and_self, and_assoc, Option.toList_some, Option.toList_none, List.cons_append, List.nil_append, ↓reduceIte, rz_x01, rz_x10]
  rw [h3]
  simp only [↓ri_119_102, ↓ri_119_103, Option.some.injEq, Prod.mk.injEq, exists_eq_left', exists_eq', exists_and_left, exists_and_right, true_and, and_true, true_or, or_true, and_self, and_assoc, Option.toList_some, Option.toList_none, List.cons_append, List.nil_append, ↓reduceIte, rz_x01, rz_x10]
  rw [h4]
  simp only [↓ri_119_137, ↓ri_119_138, Option.some.injEq, Prod.mk.injEq, exists_eq_left', exists_eq', exists_and_left, exists_and_right, true_and, and_true, true_or, or_true, and_self, and_assoc, Option.toList_some, Option.toList_none, List.cons_append, List.nil_append, ↓reduceIte, rz_x01, rz_x10]
  rfl
end RZSN
