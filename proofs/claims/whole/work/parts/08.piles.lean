/-! RisingPiles$Piles -/
abbrev rz_En : Type := Int32 × Int32 × Int32 × Int32 × Int32
/-- the fields of a Piles object at the place b, its five rows behind it -/
def rz_PF (b : Nat) (held fl am : Int32) (hp : rz_Hp) : Prop := rz_fv hp b 3 0 = some (.ref (b + 1)) ∧ rz_fv hp b 3 1 = some (.ref (b + 2)) ∧ rz_fv hp b 3 2 = some (.ref (b + 3)) ∧ rz_fv hp b 3 3 = some (.ref (b + 4)) ∧ rz_fv hp b 3 4 = some (.ref (b + 5)) ∧ rz_fv hp b 3 5 = some (.int held) ∧ rz_fv hp b 3 6 = some (.int fl) ∧ rz_fv hp b 3 7 = some (.int am)
def rz_PA (b : Nat) (f0 f1 f2 f3 f4 : Nat → Int32) (hp : rz_Hp) : Prop := rz_av hp (b + 1) = some (0, 40, f0) ∧ rz_av hp (b + 2) = some (0, 40, f1) ∧ rz_av hp (b + 3) = some (0, 40, f2) ∧ rz_av hp (b + 4) = some (0, 40, f3) ∧ rz_av hp (b + 5) = some (0, 40, f4)
def rz_PH (L : List rz_En) (f0 f1 f2 f3 f4 : Nat → Int32) : Prop := ∀ (i : Nat) (e : rz_En), L[i]? = some e → f0 i = e.1 ∧ f1 i = e.2.1 ∧ f2 i = e.2.2.1 ∧ f3 i = e.2.2.2.1 ∧ f4 i = e.2.2.2.2
/-- a Piles object holds the entries L -/
def rz_PL (b : Nat) (L : List rz_En) (fl am : Int32) (hp : rz_Hp) : Prop := L.length ≤ 40 ∧ rz_PF b (nI L.length) fl am hp ∧ ∃ f0 f1 f2 f3 f4, rz_PA b f0 f1 f2 f3 f4 hp ∧ rz_PH L f0 f1 f2 f3 f4
theorem rz_PL_sm {lo hi b : Nat} {L : List rz_En} {fl am : Int32} {hp h1 : rz_Hp} (h : rz_PL b L fl am hp) (s : rz_sm lo hi hp h1) (hd : b + 6 ≤ lo ∨ hi ≤ b) : rz_PL b L fl am h1 := by
  obtain ⟨hL, ⟨p0, p1, p2, p3, p4, p5, p6, p7⟩, f0, f1, f2, f3, f4, ⟨a0, a1, a2, a3, a4⟩, hf⟩ := h
  refine ⟨hL, ⟨?_, ?_, ?_, ?_, ?_, ?_, ?_, ?_⟩, f0, f1, f2, f3, f4, ⟨?_, ?_, ?_, ?_, ?_⟩, hf⟩
  all_goals first | (rw [s.fv (by omega)]; assumption) | (rw [s.av (by omega)]; assumption)
theorem rz_x01 : ((0 : Int32) = 1) = False := by decide
theorem rz_x10 : ((1 : Int32) = 0) = False := by decide
theorem rz_lt {a n : Nat} (h : a < n) (hn : n < 2 ^ 31) : nI a < nI n := nI_lt h hn
theorem rz_in40 {j : Nat} {L : List rz_En} (hL : L.length ≤ 40) (hj : j < L.length) : vp_in (nI j) 40 := vp_in_nI (by omega) (by decide)
theorem c_P_has {d b j : Nat} {L : List rz_En} {fl am : Int32} {hp : rz_Hp} (h : rz_PL b L fl am hp) (hj : j < 2 ^ 31) {R : Option Value → rz_Hp → Prop} : rz_ev d 33 0 [some (.ref b), some (.int (nI j))] [] hp R ↔ R (some (.int (if j < L.length then 1 else 0))) hp := by
  obtain ⟨hL, ⟨p0, p1, p2, p3, p4, p5, p6, p7⟩, -⟩ := h
  have c0 : ¬ nI j < 0 := nI_pos hj
  by_cases hx : j < L.length
  · have c1 : ¬ nI L.length ≤ nI j := nI_ge hx (by omega)
    have c2 : ¬ 40 ≤ nI j := nI_ge (b := 40) (by omega) (by decide)
    simp only [↓ri_33_0, ↓ri_33_1, ↓ri_33_4, ↓ri_33_5, ↓ri_33_6, ↓ri_33_9, ↓ri_33_12, ↓ri_33_13, ↓ri_33_15, ↓ri_33_18, ↓ri_33_19, ↓ri_33_22, ↓ri_33_23, p5, Option.some.injEq, Prod.mk.injEq, exists_eq_left', exists_eq', exists_and_left, exists_and_right, true_and, and_true, true_or, or_true, and_self, and_assoc, Option.toList_some, Option.toList_none, List.cons_append, List.nil_append, reduceIte, rz_x01, rz_x10, if_neg c0, if_neg c1, if_neg c2, if_pos hx]
  · have c1 : nI L.length ≤ nI j := nI_le (by omega) hj
    simp only [↓ri_33_0, ↓ri_33_1, ↓ri_33_4, ↓ri_33_5, ↓ri_33_6, ↓ri_33_9, ↓ri_33_12, ↓ri_33_13, ↓ri_33_15, ↓ri_33_18, ↓ri_33_19, ↓ri_33_22, ↓ri_33_23, p5, Option.some.injEq, Prod.mk.injEq, exists_eq_left', exists_eq', exists_and_left, exists_and_right, true_and, and_true, true_or, or_true, and_self, and_assoc, Option.toList_some, Option.toList_none, List.cons_append, List.nil_append, reduceIte, rz_x01, rz_x10, if_neg c0, if_pos c1, if_neg hx]
theorem c_P_numberAt {d b j : Nat} {L : List rz_En} {fl am : Int32} {hp : rz_Hp} {e : rz_En} (h : rz_PL b L fl am hp) (he : L[j]? = some e) {R : Option Value → rz_Hp → Prop} : rz_ev (d + 1) 34 0 [some (.ref b), some (.int (nI j))] [] hp R ↔ R (some (.int e.1)) hp := by
  have hj := (List.getElem?_eq_some_iff.mp he).1
  have hL := h.1
  have hh := fun R => c_P_has (d := d) h (j := j) (by omega) (R := R)
  have hv := rz_in40 hL hj
  obtain ⟨-, ⟨p0, p1, p2, p3, p4, p5, p6, p7⟩, f0, f1, f2, f3, f4, ⟨a0, a1, a2, a3, a4⟩, hf⟩ := h
  obtain ⟨g0, g1, g2, g3, g4⟩ := hf j e he
  simp only [↓ri_34_0, ↓ri_34_1, ↓ri_34_2, ↓ri_34_5, ↓ri_34_8, ↓ri_34_9, ↓ri_34_12, ↓ri_34_13, ↓ri_34_14, ↓ri_34_17, ↓ri_34_19, rz_co_fv p5, hh, if_pos hj, Option.some.injEq, Prod.mk.injEq, exists_eq_left', exists_eq', exists_and_left, exists_and_right, true_and, and_true, true_or, or_true, and_self, and_assoc, Option.toList_some, Option.toList_none, List.cons_append, List.nil_append, reduceIte, rz_x01, rz_x10, p0, a0, hv, nI_clamp (show j < 2 ^ 31 by omega), g0]
theorem c_P_keyAt {d b j : Nat} {L : List rz_En} {fl am : Int32} {hp : rz_Hp} {e : rz_En} (h : rz_PL b L fl am hp) (he : L[j]? = some e) {R : Option Value → rz_Hp → Prop} : rz_ev (d + 1) 35 0 [some (.ref b), some (.int (nI j))] [] hp R ↔ R (some (.int e.2.1)) hp := by
  have hj := (List.getElem?_eq_some_iff.mp he).1
  have hL := h.1
  have hh := fun R => c_P_has (d := d) h (j := j) (by omega) (R := R)
  have hv := rz_in40 hL hj
  obtain ⟨-, ⟨p0, p1, p2, p3, p4, p5, p6, p7⟩, f0, f1, f2, f3, f4, ⟨a0, a1, a2, a3, a4⟩, hf⟩ := h
  obtain ⟨g0, g1, g2, g3, g4⟩ := hf j e he
  simp only [↓ri_35_0, ↓ri_35_1, ↓ri_35_2, ↓ri_35_5, ↓ri_35_8, ↓ri_35_9, ↓ri_35_12, ↓ri_35_13, ↓ri_35_14, ↓ri_35_17, ↓ri_35_19, rz_co_fv p5, hh, if_pos hj, Option.some.injEq, Prod.mk.injEq, exists_eq_left', exists_eq', exists_and_left, exists_and_right, true_and, and_true, true_or, or_true, and_self, and_assoc, Option.toList_some, Option.toList_none, List.cons_append, List.nil_append, reduceIte, rz_x01, rz_x10, p1, a1, hv, nI_clamp (show j < 2 ^ 31 by omega), g1]
theorem c_P_valueAt {d b j : Nat} {L : List rz_En} {fl am : Int32} {hp : rz_Hp} {e : rz_En} (h : rz_PL b L fl am hp) (he : L[j]? = some e) {R : Option Value → rz_Hp → Prop} : rz_ev (d + 1) 36 0 [some (.ref b), some (.int (nI j))] [] hp R ↔ R (some (.int e.2.2.1)) hp := by
  have hj := (List.getElem?_eq_some_iff.mp he).1
  have hL := h.1
  have hh := fun R => c_P_has (d := d) h (j := j) (by omega) (R := R)
  have hv := rz_in40 hL hj
  obtain ⟨-, ⟨p0, p1, p2, p3, p4, p5, p6, p7⟩, f0, f1, f2, f3, f4, ⟨a0, a1, a2, a3, a4⟩, hf⟩ := h
  obtain ⟨g0, g1, g2, g3, g4⟩ := hf j e he
  simp only [↓ri_36_0, ↓ri_36_1, ↓ri_36_2, ↓ri_36_5, ↓ri_36_8, ↓ri_36_9, ↓ri_36_12, ↓ri_36_13, ↓ri_36_14, ↓ri_36_17, ↓ri_36_19, rz_co_fv p5, hh, if_pos hj, Option.some.injEq, Prod.mk.injEq, exists_eq_left', exists_eq', exists_and_left, exists_and_right, true_and, and_true, true_or, or_true, and_self, and_assoc, Option.toList_some, Option.toList_none, List.cons_append, List.nil_append, reduceIte, rz_x01, rz_x10, p2, a2, hv, nI_clamp (show j < 2 ^ 31 by omega), g2]
theorem c_P_movesAt {d b j : Nat} {L : List rz_En} {fl am : Int32} {hp : rz_Hp} {e : rz_En} (h : rz_PL b L fl am hp) (he : L[j]? = some e) {R : Option Value → rz_Hp → Prop} : rz_ev (d + 1) 37 0 [some (.ref b), some (.int (nI j))] [] hp R ↔ R (some (.int e.2.2.2.1)) hp := by
  have hj := (List.getElem?_eq_some_iff.mp he).1
  have hL := h.1
  have hh := fun R => c_P_has (d := d) h (j := j) (by omega) (R := R)
  have hv := rz_in40 hL hj
  obtain ⟨-, ⟨p0, p1, p2, p3, p4, p5, p6, p7⟩, f0, f1, f2, f3, f4, ⟨a0, a1, a2, a3, a4⟩, hf⟩ := h
  obtain ⟨g0, g1, g2, g3, g4⟩ := hf j e he
  simp only [↓ri_37_0, ↓ri_37_1, ↓ri_37_2, ↓ri_37_5, ↓ri_37_8, ↓ri_37_9, ↓ri_37_12, ↓ri_37_13, ↓ri_37_14, ↓ri_37_17, ↓ri_37_19, rz_co_fv p5, hh, if_pos hj, Option.some.injEq, Prod.mk.injEq, exists_eq_left', exists_eq', exists_and_left, exists_and_right, true_and, and_true, true_or, or_true, and_self, and_assoc, Option.toList_some, Option.toList_none, List.cons_append, List.nil_append, reduceIte, rz_x01, rz_x10, p3, a3, hv, nI_clamp (show j < 2 ^ 31 by omega), g3]
theorem c_P_pileAt {d b j : Nat} {L : List rz_En} {fl am : Int32} {hp : rz_Hp} {e : rz_En} (h : rz_PL b L fl am hp) (he : L[j]? = some e) {R : Option Value → rz_Hp → Prop} : rz_ev (d + 1) 38 0 [some (.ref b), some (.int (nI j))] [] hp R ↔ R (some (.int e.2.2.2.2)) hp := by
  have hj := (List.getElem?_eq_some_iff.mp he).1
  have hL := h.1
  have hh := fun R => c_P_has (d := d) h (j := j) (by omega) (R := R)
  have hv := rz_in40 hL hj
  obtain ⟨-, ⟨p0, p1, p2, p3, p4, p5, p6, p7⟩, f0, f1, f2, f3, f4, ⟨a0, a1, a2, a3, a4⟩, hf⟩ := h
  obtain ⟨g0, g1, g2, g3, g4⟩ := hf j e he
  simp only [↓ri_38_0, ↓ri_38_1, ↓ri_38_2, ↓ri_38_5, ↓ri_38_8, ↓ri_38_9, ↓ri_38_12, ↓ri_38_13, ↓ri_38_14, ↓ri_38_17, ↓ri_38_19, rz_co_fv p5, hh, if_pos hj, Option.some.injEq, Prod.mk.injEq, exists_eq_left', exists_eq', exists_and_left, exists_and_right, true_and, and_true, true_or, or_true, and_self, and_assoc, Option.toList_some, Option.toList_none, List.cons_append, List.nil_append, reduceIte, rz_x01, rz_x10, p4, a4, hv, nI_clamp (show j < 2 ^ 31 by omega), g4]
theorem c_P_size {d b : Nat} {L : List rz_En} {fl am : Int32} {hp : rz_Hp} (h : rz_PL b L fl am hp) {R : Option Value → rz_Hp → Prop} : rz_ev d 29 0 [some (.ref b)] [] hp R ↔ R (some (.int (nI L.length))) hp := by
  obtain ⟨hL, ⟨p0, p1, p2, p3, p4, p5, p6, p7⟩, -⟩ := h
  simp only [↓ri_29_0, ↓ri_29_1, ↓ri_29_4, p5, Option.some.injEq, Prod.mk.injEq, exists_eq_left', exists_eq', exists_and_left, exists_and_right, true_and, and_true, true_or, or_true, and_self, and_assoc, Option.toList_some, Option.toList_none, List.cons_append, List.nil_append, reduceIte, rz_x01, rz_x10]
theorem c_P_floor {d b : Nat} {L : List rz_En} {fl am : Int32} {hp : rz_Hp} (h : rz_PL b L fl am hp) {R : Option Value → rz_Hp → Prop} : rz_ev d 30 0 [some (.ref b)] [] hp R ↔ R (some (.int fl)) hp := by
  obtain ⟨hL, ⟨p0, p1, p2, p3, p4, p5, p6, p7⟩, -⟩ := h
  simp only [↓ri_30_0, ↓ri_30_1, ↓ri_30_4, p6, Option.some.injEq, Prod.mk.injEq, exists_eq_left', exists_eq', exists_and_left, exists_and_right, true_and, and_true, true_or, or_true, and_self, and_assoc, Option.toList_some, Option.toList_none, List.cons_append, List.nil_append, reduceIte, rz_x01, rz_x10]
theorem c_P_allMoves {d b : Nat} {L : List rz_En} {fl am : Int32} {hp : rz_Hp} (h : rz_PL b L fl am hp) {R : Option Value → rz_Hp → Prop} : rz_ev d 31 0 [some (.ref b)] [] hp R ↔ R (some (.int am)) hp := by
  obtain ⟨hL, ⟨p0, p1, p2, p3, p4, p5, p6, p7⟩, -⟩ := h
  simp only [↓ri_31_0, ↓ri_31_1, ↓ri_31_4, p7, Option.some.injEq, Prod.mk.injEq, exists_eq_left', exists_eq', exists_and_left, exists_and_right, true_and, and_true, true_or, or_true, and_self, and_assoc, Option.toList_some, Option.toList_none, List.cons_append, List.nil_append, reduceIte, rz_x01, rz_x10]
theorem c_P_isFull {d b : Nat} {L : List rz_En} {fl am : Int32} {hp : rz_Hp} (h : rz_PL b L fl am hp) {R : Option Value → rz_Hp → Prop} : rz_ev d 32 0 [some (.ref b)] [] hp R ↔ R (some (.int (if L.length < 40 then 0 else 1))) hp := by
  obtain ⟨hL, ⟨p0, p1, p2, p3, p4, p5, p6, p7⟩, -⟩ := h
  by_cases hx : L.length < 40
  · have c1 : nI L.length < 40 := nI_lt (b := 40) hx (by decide)
    simp only [↓ri_32_0, ↓ri_32_1, ↓ri_32_4, ↓ri_32_6, ↓ri_32_9, ↓ri_32_10, ↓ri_32_13, ↓ri_32_14, p5, Option.some.injEq, Prod.mk.injEq, exists_eq_left', exists_eq', exists_and_left, exists_and_right, true_and, and_true, true_or, or_true, and_self, and_assoc, Option.toList_some, Option.toList_none, List.cons_append, List.nil_append, reduceIte, rz_x01, rz_x10, if_pos c1, if_pos hx]
  · have c1 : ¬ nI L.length < 40 := nI_nlt (b := 40) (by omega) (by omega)
    simp only [↓ri_32_0, ↓ri_32_1, ↓ri_32_4, ↓ri_32_6, ↓ri_32_9, ↓ri_32_10, ↓ri_32_13, ↓ri_32_14, p5, Option.some.injEq, Prod.mk.injEq, exists_eq_left', exists_eq', exists_and_left, exists_and_right, true_and, and_true, true_or, or_true, and_self, and_assoc, Option.toList_some, Option.toList_none, List.cons_append, List.nil_append, reduceIte, rz_x01, rz_x10, if_neg c1, if_neg hx]
def rz_oi : Option Nat → Int32
  | some j => nI j
  | none => -1
theorem c_P_indexOf_loop {d b : Nat} {L : List rz_En} {fl am n : Int32} {hp : rz_Hp} (h : rz_PL b L fl am hp) {R : Option Value → rz_Hp → Prop} : ∀ i, i ≤ L.length → (∀ j e, j < i → L[j]? = some e → e.1 ≠ n) → (rz_ev (d + 2) 40 2 [some (.ref b), some (.int n), some (.int (nI i))] [] hp R ↔ R (some (.int (rz_oi (L.findIdx? (fun e => decide (e.1 = n)))))) hp) := by
  have hL := h.1
  obtain ⟨-, ⟨p0, p1, p2, p3, p4, p5, p6, p7⟩, -⟩ := id h
  refine rz_down (P := fun i => (∀ j e, j < i → L[j]? = some e → e.1 ≠ n) → (rz_ev (d + 2) 40 2 [some (.ref b), some (.int n), some (.int (nI i))] [] hp R ↔ R (some (.int (rz_oi (L.findIdx? (fun e => decide (e.1 = n)))))) hp)) L.length ?_ ?_
  · intro hn
    have hnone : L.findIdx? (fun e => decide (e.1 = n)) = none := by
      rw [List.findIdx?_eq_none_iff]
      intro x hx
      obtain ⟨j, hj⟩ := List.getElem?_of_mem hx
      simpa using hn j x (List.getElem?_eq_some_iff.mp hj).1 hj
    have c1 : nI L.length ≤ nI L.length := nI_le (Nat.le_refl _) (by omega)
    simp only [↓ri_40_0, ↓ri_40_1, ↓ri_40_2, ↓ri_40_3, ↓ri_40_4, ↓ri_40_7, ↓ri_40_10, ↓ri_40_11, ↓ri_40_12, ↓ri_40_15, ↓ri_40_16, ↓ri_40_19, ↓ri_40_20, ↓ri_40_21, ↓ri_40_24, ↓ri_40_27, ↓ri_40_28, p5, Option.some.injEq, Prod.mk.injEq, exists_eq_left', exists_eq', exists_and_left, exists_and_right, true_and, and_true, true_or, or_true, and_self, and_assoc, Option.toList_some, Option.toList_none, List.cons_append, List.nil_append, reduceIte, rz_x01, rz_x10, if_pos c1, hnone, rz_oi]
  · intro i hi ih hn
    have c1 : ¬ nI L.length ≤ nI i := nI_ge hi (by omega)
    obtain ⟨e, he⟩ : ∃ e, L[i]? = some e := ⟨L[i], List.getElem?_eq_getElem hi⟩
    have hc := fun R => c_P_numberAt (d := d) h he (R := R)
    by_cases hx : e.1 = n
    · have hs : L.findIdx? (fun e => decide (e.1 = n)) = some i := by
        rw [List.findIdx?_eq_some_iff_getElem]
        refine ⟨hi, ?_, fun j hj => ?_⟩
        · have : L[i] = e := (List.getElem?_eq_some_iff.mp he).2
          simp [this, hx]
        · simpa using hn j L[j] hj (List.getElem?_eq_getElem (by omega))
      simp only [↓ri_40_0, ↓ri_40_1, ↓ri_40_2, ↓ri_40_3, ↓ri_40_4, ↓ri_40_7, ↓ri_40_10, ↓ri_40_11, ↓ri_40_12, ↓ri_40_15, ↓ri_40_16, ↓ri_40_19, ↓ri_40_20, ↓ri_40_21, ↓ri_40_24, ↓ri_40_27, ↓ri_40_28, p5, Option.some.injEq, Prod.mk.injEq, exists_eq_left', exists_eq', exists_and_left, exists_and_right, true_and, and_true, true_or, or_true, and_self, and_assoc, Option.toList_some, Option.toList_none, List.cons_append, List.nil_append, reduceIte, rz_x01, rz_x10, if_neg c1, rz_co_fv p5, hc, if_pos hx, hs, rz_oi]
    · rw [← ih (fun j e' hj hj2 => by
        rcases Nat.lt_succ_iff_lt_or_eq.mp hj with q | q
        · exact hn j e' q hj2
        · subst q; rw [he] at hj2; cases hj2; exact hx)]
      simp only [↓ri_40_2, ↓ri_40_3, ↓ri_40_4, ↓ri_40_7, ↓ri_40_10, ↓ri_40_11, ↓ri_40_12, ↓ri_40_15, ↓ri_40_16, ↓ri_40_19, ↓ri_40_20, ↓ri_40_21, ↓ri_40_24, p5, Option.some.injEq, Prod.mk.injEq, exists_eq_left', exists_eq', exists_and_left, exists_and_right, true_and, and_true, true_or, or_true, and_self, and_assoc, Option.toList_some, Option.toList_none, List.cons_append, List.nil_append, reduceIte, rz_x01, rz_x10, if_neg c1, rz_co_fv p5, hc, if_neg hx, nI_1]
      done
