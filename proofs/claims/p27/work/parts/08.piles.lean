/-! RisingPiles$Piles -/
abbrev rz_En : Type := Int32 × Int32 × Int32 × Int32 × Int32
/-- the fields of a Piles object at the place b, its five rows behind it -/
def rz_PF (b : Nat) (held fl am : Int32) (hp : rz_Hp) : Prop := rz_fv hp b 3 0 = some (.ref (b + 1)) ∧ rz_fv hp b 3 1 = some (.ref (b + 2)) ∧ rz_fv hp b 3 2 = some (.ref (b + 3)) ∧ rz_fv hp b 3 3 = some (.ref (b + 4)) ∧ rz_fv hp b 3 4 = some (.ref (b + 5)) ∧ rz_fv hp b 3 5 = some (.int held) ∧ rz_fv hp b 3 6 = some (.int fl) ∧ rz_fv hp b 3 7 = some (.int am)
def rz_PA (b : Nat) (f0 f1 f2 f3 f4 : Nat → Int32) (hp : rz_Hp) : Prop := rz_av hp (b + 1) = some (0, 40, f0) ∧ rz_av hp (b + 2) = some (0, 40, f1) ∧ rz_av hp (b + 3) = some (0, 40, f2) ∧ rz_av hp (b + 4) = some (0, 40, f3) ∧ rz_av hp (b + 5) = some (0, 40, f4)
def rz_PH (L : List rz_En) (f0 f1 f2 f3 f4 : Nat → Int32) : Prop := ∀ (i : Nat) (e : rz_En), L[i]? = some e → f0 i = e.1 ∧ f1 i = e.2.1 ∧ f2 i = e.2.2.1 ∧ f3 i = e.2.2.2.1 ∧ f4 i = e.2.2.2.2
/-- a Piles object holds the entries L -/
def rz_PL (b : Nat) (L : List rz_En) (fl am : Int32) (hp : rz_Hp) : Prop := L.length ≤ 40 ∧ rz_PF b (nI L.length) fl am hp ∧ ∃ f0 f1 f2 f3 f4, rz_PA b f0 f1 f2 f3 f4 hp ∧ rz_PH L f0 f1 f2 f3 f4
theorem rz_PL_sm {lo hi b : Nat} {L : List rz_En} {fl am : Int32} {hp h1 : rz_Hp} (h : rz_PL b L fl am hp) (s : rz_sm lo hi hp h1) (hd : b + 6 ≤ lo ∨ hi ≤ b) : rz_PL b L fl am h1 := by
  obtain ⟨hL, ⟨p0, p1, p2, p3, p4, p5, p6, p7⟩, f0, f1, f2, f3, f4, ⟨a0, a1, a2, a3, a4⟩, hf⟩ := h
  refine ⟨hL, ⟨?_, ?_, ?_, ?_, ?_, ?_, ?_, ?_⟩, f0, f1, f2, f3, f4, ⟨?_, ?_, ?_, ?_, ?_⟩, hf⟩
  all_goals first | (rw [s.fv (by omega)]; assumption) | (rw [s.av (by omega)]; assumption)
theorem rz_x01 : ((0 : Int32) = 1) = False := by decide
theorem rz_x10 : ((1 : Int32) = 0) = False := by decide
theorem rz_lt {a n : Nat} (h : a < n) (hn : n < 2 ^ 31) : nI a < nI n := nI_lt h hn
theorem rz_in40 {j : Nat} {L : List rz_En} (hL : L.length ≤ 40) (hj : j < L.length) : vp_in (nI j) 40 := vp_in_nI (by omega) (by decide)
set_option maxHeartbeats 4000000 in
set_option maxRecDepth 100000 in
theorem c_P_has {d b j : Nat} {L : List rz_En} {fl am : Int32} {hp : rz_Hp} (h : rz_PL b L fl am hp) (hj : j < 2 ^ 31) {R : Option Value → rz_Hp → Prop} : rz_ev d 33 0 [some (.ref b), some (.int (nI j))] [] hp R ↔ R (some (.int (if j < L.length then 1 else 0))) hp := by
  obtain ⟨hL, ⟨p0, p1, p2, p3, p4, p5, p6, p7⟩, -⟩ := h
  have c0 : ¬ nI j < 0 := nI_pos hj
  by_cases hx : j < L.length
  · have c1 : ¬ nI L.length ≤ nI j := nI_ge hx (by omega)
    have c2 : ¬ 40 ≤ nI j := nI_ge (b := 40) (by omega) (by decide)
    simp only [↓ri_33_0, ↓ri_33_1, ↓ri_33_4, ↓ri_33_5, ↓ri_33_6, ↓ri_33_9, ↓ri_33_12, ↓ri_33_13, ↓ri_33_15, ↓ri_33_18, ↓ri_33_19, ↓ri_33_22, ↓ri_33_23, p5, Option.some.injEq, Prod.mk.injEq, exists_eq_left', exists_eq', exists_and_left, exists_and_right, true_and, and_true, true_or, or_true, and_self, and_assoc, Option.toList_some, Option.toList_none, List.cons_append, List.nil_append, ↓reduceIte, rz_x01, rz_x10, ↓if_neg c0, ↓if_neg c1, ↓if_neg c2, ↓if_pos hx]
  · have c1 : nI L.length ≤ nI j := nI_le (by omega) hj
    simp only [↓ri_33_0, ↓ri_33_1, ↓ri_33_4, ↓ri_33_5, ↓ri_33_6, ↓ri_33_9, ↓ri_33_12, ↓ri_33_13, ↓ri_33_15, ↓ri_33_18, ↓ri_33_19, ↓ri_33_22, ↓ri_33_23, p5, Option.some.injEq, Prod.mk.injEq, exists_eq_left', exists_eq', exists_and_left, exists_and_right, true_and, and_true, true_or, or_true, and_self, and_assoc, Option.toList_some, Option.toList_none, List.cons_append, List.nil_append, ↓reduceIte, rz_x01, rz_x10, ↓if_neg c0, ↓if_pos c1, ↓if_neg hx]
set_option maxHeartbeats 4000000 in
set_option maxRecDepth 100000 in
theorem c_P_numberAt {d b j : Nat} {L : List rz_En} {fl am : Int32} {hp : rz_Hp} {e : rz_En} (h : rz_PL b L fl am hp) (he : L[j]? = some e) {R : Option Value → rz_Hp → Prop} : rz_ev (d + 1) 34 0 [some (.ref b), some (.int (nI j))] [] hp R ↔ R (some (.int e.1)) hp := by
  have hj := (List.getElem?_eq_some_iff.mp he).1
  have hL := h.1
  have hh := fun R => c_P_has (d := d) h (j := j) (by omega) (R := R)
  have hv := rz_in40 hL hj
  obtain ⟨-, ⟨p0, p1, p2, p3, p4, p5, p6, p7⟩, f0, f1, f2, f3, f4, ⟨a0, a1, a2, a3, a4⟩, hf⟩ := h
  obtain ⟨g0, g1, g2, g3, g4⟩ := hf j e he
  simp only [↓ri_34_0, ↓ri_34_1, ↓ri_34_2, ↓ri_34_5, ↓ri_34_8, ↓ri_34_9, ↓ri_34_12, ↓ri_34_13, ↓ri_34_14, ↓ri_34_17, ↓ri_34_19, rz_co_fv p5, hh, ↓if_pos hj, Option.some.injEq, Prod.mk.injEq, exists_eq_left', exists_eq', exists_and_left, exists_and_right, true_and, and_true, true_or, or_true, and_self, and_assoc, Option.toList_some, Option.toList_none, List.cons_append, List.nil_append, ↓reduceIte, rz_x01, rz_x10, p0, a0, hv, nI_clamp (show j < 2 ^ 31 by omega), g0]
set_option maxHeartbeats 4000000 in
set_option maxRecDepth 100000 in
theorem c_P_keyAt {d b j : Nat} {L : List rz_En} {fl am : Int32} {hp : rz_Hp} {e : rz_En} (h : rz_PL b L fl am hp) (he : L[j]? = some e) {R : Option Value → rz_Hp → Prop} : rz_ev (d + 1) 35 0 [some (.ref b), some (.int (nI j))] [] hp R ↔ R (some (.int e.2.1)) hp := by
  have hj := (List.getElem?_eq_some_iff.mp he).1
  have hL := h.1
  have hh := fun R => c_P_has (d := d) h (j := j) (by omega) (R := R)
  have hv := rz_in40 hL hj
  obtain ⟨-, ⟨p0, p1, p2, p3, p4, p5, p6, p7⟩, f0, f1, f2, f3, f4, ⟨a0, a1, a2, a3, a4⟩, hf⟩ := h
  obtain ⟨g0, g1, g2, g3, g4⟩ := hf j e he
  simp only [↓ri_35_0, ↓ri_35_1, ↓ri_35_2, ↓ri_35_5, ↓ri_35_8, ↓ri_35_9, ↓ri_35_12, ↓ri_35_13, ↓ri_35_14, ↓ri_35_17, ↓ri_35_19, rz_co_fv p5, hh, ↓if_pos hj, Option.some.injEq, Prod.mk.injEq, exists_eq_left', exists_eq', exists_and_left, exists_and_right, true_and, and_true, true_or, or_true, and_self, and_assoc, Option.toList_some, Option.toList_none, List.cons_append, List.nil_append, ↓reduceIte, rz_x01, rz_x10, p1, a1, hv, nI_clamp (show j < 2 ^ 31 by omega), g1]
set_option maxHeartbeats 4000000 in
set_option maxRecDepth 100000 in
theorem c_P_valueAt {d b j : Nat} {L : List rz_En} {fl am : Int32} {hp : rz_Hp} {e : rz_En} (h : rz_PL b L fl am hp) (he : L[j]? = some e) {R : Option Value → rz_Hp → Prop} : rz_ev (d + 1) 36 0 [some (.ref b), some (.int (nI j))] [] hp R ↔ R (some (.int e.2.2.1)) hp := by
  have hj := (List.getElem?_eq_some_iff.mp he).1
  have hL := h.1
  have hh := fun R => c_P_has (d := d) h (j := j) (by omega) (R := R)
  have hv := rz_in40 hL hj
  obtain ⟨-, ⟨p0, p1, p2, p3, p4, p5, p6, p7⟩, f0, f1, f2, f3, f4, ⟨a0, a1, a2, a3, a4⟩, hf⟩ := h
  obtain ⟨g0, g1, g2, g3, g4⟩ := hf j e he
  simp only [↓ri_36_0, ↓ri_36_1, ↓ri_36_2, ↓ri_36_5, ↓ri_36_8, ↓ri_36_9, ↓ri_36_12, ↓ri_36_13, ↓ri_36_14, ↓ri_36_17, ↓ri_36_19, rz_co_fv p5, hh, ↓if_pos hj, Option.some.injEq, Prod.mk.injEq, exists_eq_left', exists_eq', exists_and_left, exists_and_right, true_and, and_true, true_or, or_true, and_self, and_assoc, Option.toList_some, Option.toList_none, List.cons_append, List.nil_append, ↓reduceIte, rz_x01, rz_x10, p2, a2, hv, nI_clamp (show j < 2 ^ 31 by omega), g2]
set_option maxHeartbeats 4000000 in
set_option maxRecDepth 100000 in
theorem c_P_movesAt {d b j : Nat} {L : List rz_En} {fl am : Int32} {hp : rz_Hp} {e : rz_En} (h : rz_PL b L fl am hp) (he : L[j]? = some e) {R : Option Value → rz_Hp → Prop} : rz_ev (d + 1) 37 0 [some (.ref b), some (.int (nI j))] [] hp R ↔ R (some (.int e.2.2.2.1)) hp := by
  have hj := (List.getElem?_eq_some_iff.mp he).1
  have hL := h.1
  have hh := fun R => c_P_has (d := d) h (j := j) (by omega) (R := R)
  have hv := rz_in40 hL hj
  obtain ⟨-, ⟨p0, p1, p2, p3, p4, p5, p6, p7⟩, f0, f1, f2, f3, f4, ⟨a0, a1, a2, a3, a4⟩, hf⟩ := h
  obtain ⟨g0, g1, g2, g3, g4⟩ := hf j e he
  simp only [↓ri_37_0, ↓ri_37_1, ↓ri_37_2, ↓ri_37_5, ↓ri_37_8, ↓ri_37_9, ↓ri_37_12, ↓ri_37_13, ↓ri_37_14, ↓ri_37_17, ↓ri_37_19, rz_co_fv p5, hh, ↓if_pos hj, Option.some.injEq, Prod.mk.injEq, exists_eq_left', exists_eq', exists_and_left, exists_and_right, true_and, and_true, true_or, or_true, and_self, and_assoc, Option.toList_some, Option.toList_none, List.cons_append, List.nil_append, ↓reduceIte, rz_x01, rz_x10, p3, a3, hv, nI_clamp (show j < 2 ^ 31 by omega), g3]
set_option maxHeartbeats 4000000 in
set_option maxRecDepth 100000 in
theorem c_P_pileAt {d b j : Nat} {L : List rz_En} {fl am : Int32} {hp : rz_Hp} {e : rz_En} (h : rz_PL b L fl am hp) (he : L[j]? = some e) {R : Option Value → rz_Hp → Prop} : rz_ev (d + 1) 38 0 [some (.ref b), some (.int (nI j))] [] hp R ↔ R (some (.int e.2.2.2.2)) hp := by
  have hj := (List.getElem?_eq_some_iff.mp he).1
  have hL := h.1
  have hh := fun R => c_P_has (d := d) h (j := j) (by omega) (R := R)
  have hv := rz_in40 hL hj
  obtain ⟨-, ⟨p0, p1, p2, p3, p4, p5, p6, p7⟩, f0, f1, f2, f3, f4, ⟨a0, a1, a2, a3, a4⟩, hf⟩ := h
  obtain ⟨g0, g1, g2, g3, g4⟩ := hf j e he
  simp only [↓ri_38_0, ↓ri_38_1, ↓ri_38_2, ↓ri_38_5, ↓ri_38_8, ↓ri_38_9, ↓ri_38_12, ↓ri_38_13, ↓ri_38_14, ↓ri_38_17, ↓ri_38_19, rz_co_fv p5, hh, ↓if_pos hj, Option.some.injEq, Prod.mk.injEq, exists_eq_left', exists_eq', exists_and_left, exists_and_right, true_and, and_true, true_or, or_true, and_self, and_assoc, Option.toList_some, Option.toList_none, List.cons_append, List.nil_append, ↓reduceIte, rz_x01, rz_x10, p4, a4, hv, nI_clamp (show j < 2 ^ 31 by omega), g4]
set_option maxHeartbeats 4000000 in
set_option maxRecDepth 100000 in
theorem c_P_size {d b : Nat} {L : List rz_En} {fl am : Int32} {hp : rz_Hp} (h : rz_PL b L fl am hp) {R : Option Value → rz_Hp → Prop} : rz_ev d 29 0 [some (.ref b)] [] hp R ↔ R (some (.int (nI L.length))) hp := by
  obtain ⟨hL, ⟨p0, p1, p2, p3, p4, p5, p6, p7⟩, -⟩ := h
  simp only [↓ri_29_0, ↓ri_29_1, ↓ri_29_4, p5, Option.some.injEq, Prod.mk.injEq, exists_eq_left', exists_eq', exists_and_left, exists_and_right, true_and, and_true, true_or, or_true, and_self, and_assoc, Option.toList_some, Option.toList_none, List.cons_append, List.nil_append, ↓reduceIte, rz_x01, rz_x10]
set_option maxHeartbeats 4000000 in
set_option maxRecDepth 100000 in
theorem c_P_floor {d b : Nat} {L : List rz_En} {fl am : Int32} {hp : rz_Hp} (h : rz_PL b L fl am hp) {R : Option Value → rz_Hp → Prop} : rz_ev d 30 0 [some (.ref b)] [] hp R ↔ R (some (.int fl)) hp := by
  obtain ⟨hL, ⟨p0, p1, p2, p3, p4, p5, p6, p7⟩, -⟩ := h
  simp only [↓ri_30_0, ↓ri_30_1, ↓ri_30_4, p6, Option.some.injEq, Prod.mk.injEq, exists_eq_left', exists_eq', exists_and_left, exists_and_right, true_and, and_true, true_or, or_true, and_self, and_assoc, Option.toList_some, Option.toList_none, List.cons_append, List.nil_append, ↓reduceIte, rz_x01, rz_x10]
set_option maxHeartbeats 4000000 in
set_option maxRecDepth 100000 in
theorem c_P_allMoves {d b : Nat} {L : List rz_En} {fl am : Int32} {hp : rz_Hp} (h : rz_PL b L fl am hp) {R : Option Value → rz_Hp → Prop} : rz_ev d 31 0 [some (.ref b)] [] hp R ↔ R (some (.int am)) hp := by
  obtain ⟨hL, ⟨p0, p1, p2, p3, p4, p5, p6, p7⟩, -⟩ := h
  simp only [↓ri_31_0, ↓ri_31_1, ↓ri_31_4, p7, Option.some.injEq, Prod.mk.injEq, exists_eq_left', exists_eq', exists_and_left, exists_and_right, true_and, and_true, true_or, or_true, and_self, and_assoc, Option.toList_some, Option.toList_none, List.cons_append, List.nil_append, ↓reduceIte, rz_x01, rz_x10]
set_option maxHeartbeats 4000000 in
set_option maxRecDepth 100000 in
theorem c_P_isFull {d b : Nat} {L : List rz_En} {fl am : Int32} {hp : rz_Hp} (h : rz_PL b L fl am hp) {R : Option Value → rz_Hp → Prop} : rz_ev d 32 0 [some (.ref b)] [] hp R ↔ R (some (.int (if L.length < 40 then 0 else 1))) hp := by
  obtain ⟨hL, ⟨p0, p1, p2, p3, p4, p5, p6, p7⟩, -⟩ := h
  by_cases hx : L.length < 40
  · have c1 : nI L.length < 40 := nI_lt (b := 40) hx (by decide)
    simp only [↓ri_32_0, ↓ri_32_1, ↓ri_32_4, ↓ri_32_6, ↓ri_32_9, ↓ri_32_10, ↓ri_32_13, ↓ri_32_14, p5, Option.some.injEq, Prod.mk.injEq, exists_eq_left', exists_eq', exists_and_left, exists_and_right, true_and, and_true, true_or, or_true, and_self, and_assoc, Option.toList_some, Option.toList_none, List.cons_append, List.nil_append, ↓reduceIte, rz_x01, rz_x10, ↓if_pos c1, ↓if_pos hx]
  · have c1 : ¬ nI L.length < 40 := nI_nlt (b := 40) (by omega) (by omega)
    simp only [↓ri_32_0, ↓ri_32_1, ↓ri_32_4, ↓ri_32_6, ↓ri_32_9, ↓ri_32_10, ↓ri_32_13, ↓ri_32_14, p5, Option.some.injEq, Prod.mk.injEq, exists_eq_left', exists_eq', exists_and_left, exists_and_right, true_and, and_true, true_or, or_true, and_self, and_assoc, Option.toList_some, Option.toList_none, List.cons_append, List.nil_append, ↓reduceIte, rz_x01, rz_x10, ↓if_neg c1, ↓if_neg hx]
def rz_oi : Option Nat → Int32
  | some j => nI j
  | none => -1
set_option maxHeartbeats 4000000 in
set_option maxRecDepth 100000 in
theorem c_P_indexOf_loop {d b : Nat} {L : List rz_En} {fl am n : Int32} {hp : rz_Hp} (h : rz_PL b L fl am hp) {R : Option Value → rz_Hp → Prop} : ∀ i, i ≤ L.length → (∀ j e, j < i → L[j]? = some e → e.1 ≠ n) → (rz_ev (d + 2) 40 2 [some (.ref b), some (.int n), some (.int (nI i))] [] hp R ↔ R (some (.int (rz_oi (L.findIdx? (fun e => decide (e.1 = n)))))) hp) := by
  have hL := h.1
  obtain ⟨-, ⟨p0, p1, p2, p3, p4, p5, p6, p7⟩, -⟩ := id h
  refine rz_down (P := fun i => (∀ j e, j < i → L[j]? = some e → e.1 ≠ n) → (rz_ev (d + 2) 40 2 [some (.ref b), some (.int n), some (.int (nI i))] [] hp R ↔ R (some (.int (rz_oi (L.findIdx? (fun e => decide (e.1 = n)))))) hp)) L.length ?_ ?_
  · intro hn
    have hnone : L.findIdx? (fun e => decide (e.1 = n)) = none := by
      rw [List.findIdx?_eq_none_iff]
      intro x hx
      obtain ⟨j, hj⟩ := List.getElem?_of_mem hx
      simpa using hn j x (List.getElem?_eq_some_iff.mp hj).1 hj
    have c1 : nI L.length ≤ nI L.length := nI_le (Nat.le_refl _) (by omega)
    simp only [↓ri_40_0, ↓ri_40_1, ↓ri_40_2, ↓ri_40_3, ↓ri_40_4, ↓ri_40_7, ↓ri_40_10, ↓ri_40_11, ↓ri_40_12, ↓ri_40_15, ↓ri_40_16, ↓ri_40_19, ↓ri_40_20, ↓ri_40_21, ↓ri_40_24, ↓ri_40_27, ↓ri_40_28, p5, Option.some.injEq, Prod.mk.injEq, exists_eq_left', exists_eq', exists_and_left, exists_and_right, true_and, and_true, true_or, or_true, and_self, and_assoc, Option.toList_some, Option.toList_none, List.cons_append, List.nil_append, ↓reduceIte, rz_x01, rz_x10, ↓if_pos c1, hnone, rz_oi]
  · intro i hi ih hn
    have c1 : ¬ nI L.length ≤ nI i := nI_ge hi (by omega)
    obtain ⟨e, he⟩ : ∃ e, L[i]? = some e := ⟨L[i], List.getElem?_eq_getElem hi⟩
    have hc := fun R => c_P_numberAt (d := d) h he (R := R)
    by_cases hx : e.1 = n
    · have hs : L.findIdx? (fun e => decide (e.1 = n)) = some i := by
        rw [List.findIdx?_eq_some_iff_getElem]
        refine ⟨hi, ?_, fun j hj => ?_⟩
        · have : L[i] = e := (List.getElem?_eq_some_iff.mp he).2
          simp [this, hx]
        · simpa using hn j L[j] hj (List.getElem?_eq_getElem (by omega))
      simp only [↓ri_40_0, ↓ri_40_1, ↓ri_40_2, ↓ri_40_3, ↓ri_40_4, ↓ri_40_7, ↓ri_40_10, ↓ri_40_11, ↓ri_40_12, ↓ri_40_15, ↓ri_40_16, ↓ri_40_19, ↓ri_40_20, ↓ri_40_21, ↓ri_40_24, ↓ri_40_27, ↓ri_40_28, p5, Option.some.injEq, Prod.mk.injEq, exists_eq_left', exists_eq', exists_and_left, exists_and_right, true_and, and_true, true_or, or_true, and_self, and_assoc, Option.toList_some, Option.toList_none, List.cons_append, List.nil_append, ↓reduceIte, rz_x01, rz_x10, ↓if_neg c1, rz_co_fv p5, hc, ↓if_pos hx, hs, rz_oi]
    · rw [← ih (fun j e' hj hj2 => by
        rcases Nat.lt_succ_iff_lt_or_eq.mp hj with q | q
        · exact hn j e' q hj2
        · subst q; rw [he] at hj2; cases hj2; exact hx)]
      rw [ri_40_2]
      simp only [↓ri_40_3, ↓ri_40_4, ↓ri_40_7, ↓ri_40_10, ↓ri_40_11, ↓ri_40_12, ↓ri_40_15, ↓ri_40_16, ↓ri_40_19, ↓ri_40_20, ↓ri_40_21, ↓ri_40_24, p5, Option.some.injEq, Prod.mk.injEq, exists_eq_left', exists_eq', exists_and_left, exists_and_right, true_and, and_true, true_or, or_true, and_self, and_assoc, Option.toList_some, Option.toList_none, List.cons_append, List.nil_append, ↓reduceIte, rz_x01, rz_x10, ↓if_neg c1, rz_co_fv p5, hc, ↓if_neg hx, nI_1]
set_option maxHeartbeats 4000000 in
set_option maxRecDepth 100000 in
theorem c_P_indexOf {d b : Nat} {L : List rz_En} {fl am n : Int32} {hp : rz_Hp} (h : rz_PL b L fl am hp) {R : Option Value → rz_Hp → Prop} : rz_ev (d + 2) 40 0 [some (.ref b), some (.int n), none] [] hp R ↔ R (some (.int (rz_oi (L.findIdx? (fun e => decide (e.1 = n)))))) hp := by
  have hh := c_P_indexOf_loop (d := d) (n := n) h (R := R) 0 (Nat.zero_le _) (fun j e hj => absurd hj (Nat.not_lt_zero _))
  rw [nI_0] at hh
  simp only [↓ri_40_0, ↓ri_40_1, hh]
/-- i goes on: what a prefix gives, and one entry more -/
theorem rz_tk {α : Type} {L : List α} {i : Nat} {e : α} (he : L[i]? = some e) : L.take (i + 1) = L.take i ++ [e] := by
  rw [List.take_succ, he]; rfl
theorem rz_ge {α : Type} {L : List α} {i : Nat} (hi : i < L.length) : ∃ e, L[i]? = some e := ⟨L[i], List.getElem?_eq_getElem hi⟩
/-- how many entries a pile has -/
def rz_cnt (L : List rz_En) (p : Int32) : Nat := L.countP (fun e => decide (e.2.2.2.2 = p))
theorem rz_cnt_le (L : List rz_En) (p : Int32) : rz_cnt L p ≤ L.length := List.countP_le_length
theorem rz_cnt_tk {L : List rz_En} {i : Nat} {e : rz_En} {p : Int32} (he : L[i]? = some e) : rz_cnt (L.take (i + 1)) p = rz_cnt (L.take i) p + (if e.2.2.2.2 = p then 1 else 0) := by
  unfold rz_cnt
  rw [rz_tk he, List.countP_append]
  by_cases h : e.2.2.2.2 = p <;> simp [h]
set_option maxHeartbeats 4000000 in
set_option maxRecDepth 100000 in
theorem c_P_placeAt {d b j : Nat} {L : List rz_En} {fl am : Int32} {hp : rz_Hp} {e : rz_En} (h : rz_PL b L fl am hp) (he : L[j]? = some e) {R : Option Value → rz_Hp → Prop} : rz_ev (d + 2) 39 0 [some (.ref b), some (.int (nI j)), none, none] [] hp R ↔ R (some (.int (nI (rz_cnt (L.take j) e.2.2.2.2)))) hp := by
  have hL := h.1
  have hj := (List.getElem?_eq_some_iff.mp he).1
  obtain ⟨-, ⟨p0, p1, p2, p3, p4, p5, p6, p7⟩, -⟩ := id h
  have hl : ∀ i, i ≤ j → (rz_ev (d + 2) 39 4 [some (.ref b), some (.int (nI j)), some (.int (nI (rz_cnt (L.take i) e.2.2.2.2))), some (.int (nI i))] [] hp R ↔ R (some (.int (nI (rz_cnt (L.take j) e.2.2.2.2)))) hp) := by
    refine rz_down j ?_ ?_
    · have c1 : nI j ≤ nI j := nI_le (Nat.le_refl _) (by omega)
      simp only [↓ri_39_0, ↓ri_39_1, ↓ri_39_2, ↓ri_39_3, ↓ri_39_4, ↓ri_39_5, ↓ri_39_6, ↓ri_39_9, ↓ri_39_10, ↓ri_39_11, ↓ri_39_14, ↓ri_39_17, ↓ri_39_18, ↓ri_39_19, ↓ri_39_22, ↓ri_39_23, ↓ri_39_24, ↓ri_39_27, ↓ri_39_30, ↓ri_39_33, ↓ri_39_36, ↓ri_39_39, ↓ri_39_40, ↓if_pos c1]
    · intro i hi ih
      have c1 : ¬ nI j ≤ nI i := nI_ge hi (by omega)
      have c2 : ¬ nI L.length ≤ nI i := nI_ge (by omega) (by omega)
      obtain ⟨e2, he2⟩ := rz_ge (L := L) (i := i) (by omega)
      have hc := fun R => c_P_pileAt (d := d) h he2 (R := R)
      have hc2 := fun R => c_P_pileAt (d := d) h he (R := R)
      rw [← ih, rz_cnt_tk he2]
      by_cases hx : e2.2.2.2.2 = e.2.2.2.2
      · simp only [↓ri_39_4, ↓ri_39_5, ↓ri_39_6, ↓ri_39_9, ↓ri_39_10, ↓ri_39_11, ↓ri_39_14, ↓ri_39_17, ↓ri_39_18, ↓ri_39_19, ↓ri_39_22, ↓ri_39_23, ↓ri_39_24, ↓ri_39_27, ↓ri_39_30, ↓ri_39_33, ↓ri_39_36, p5, Option.some.injEq, Prod.mk.injEq, exists_eq_left', exists_eq', exists_and_left, exists_and_right, true_and, and_true, true_or, or_true, and_self, and_assoc, Option.toList_some, Option.toList_none, List.cons_append, List.nil_append, ↓reduceIte, rz_x01, rz_x10, ↓if_neg c1, ↓if_neg c2, rz_co_fv p5, hc, hc2, ↓if_pos hx, nI_1]
      · simp only [↓ri_39_4, ↓ri_39_5, ↓ri_39_6, ↓ri_39_9, ↓ri_39_10, ↓ri_39_11, ↓ri_39_14, ↓ri_39_17, ↓ri_39_18, ↓ri_39_19, ↓ri_39_22, ↓ri_39_23, ↓ri_39_24, ↓ri_39_27, ↓ri_39_30, ↓ri_39_33, ↓ri_39_36, p5, Option.some.injEq, Prod.mk.injEq, exists_eq_left', exists_eq', exists_and_left, exists_and_right, true_and, and_true, true_or, or_true, and_self, and_assoc, Option.toList_some, Option.toList_none, List.cons_append, List.nil_append, ↓reduceIte, rz_x01, rz_x10, ↓if_neg c1, ↓if_neg c2, rz_co_fv p5, hc, hc2, ↓if_neg hx, nI_1, Nat.add_zero]
  have h0 := hl 0 (Nat.zero_le _)
  rw [nI_0, show rz_cnt (L.take 0) e.2.2.2.2 = 0 from rfl, nI_0] at h0
  simp only [↓ri_39_0, ↓ri_39_1, ↓ri_39_2, ↓ri_39_3, h0]
set_option maxHeartbeats 4000000 in
set_option maxRecDepth 100000 in
theorem c_P_sizeOf {d b : Nat} {L : List rz_En} {fl am p : Int32} {hp : rz_Hp} (h : rz_PL b L fl am hp) {R : Option Value → rz_Hp → Prop} : rz_ev (d + 2) 50 0 [some (.ref b), some (.int p), none, none] [] hp R ↔ R (some (.int (nI (rz_cnt L p)))) hp := by
  have hL := h.1
  obtain ⟨-, ⟨p0, p1, p2, p3, p4, p5, p6, p7⟩, -⟩ := id h
  have hl : ∀ i, i ≤ L.length → (rz_ev (d + 2) 50 4 [some (.ref b), some (.int p), some (.int (nI (rz_cnt (L.take i) p))), some (.int (nI i))] [] hp R ↔ R (some (.int (nI (rz_cnt L p)))) hp) := by
    refine rz_down L.length ?_ ?_
    · have c1 : nI L.length ≤ nI L.length := nI_le (Nat.le_refl _) (by omega)
      simp only [↓ri_50_0, ↓ri_50_1, ↓ri_50_2, ↓ri_50_3, ↓ri_50_4, ↓ri_50_5, ↓ri_50_6, ↓ri_50_9, ↓ri_50_12, ↓ri_50_13, ↓ri_50_14, ↓ri_50_17, ↓ri_50_18, ↓ri_50_21, ↓ri_50_24, ↓ri_50_27, ↓ri_50_30, ↓ri_50_31, p5, Option.some.injEq, Prod.mk.injEq, exists_eq_left', exists_eq', exists_and_left, exists_and_right, true_and, and_true, true_or, or_true, and_self, and_assoc, Option.toList_some, Option.toList_none, List.cons_append, List.nil_append, ↓reduceIte, rz_x01, rz_x10, ↓if_pos c1, List.take_length]
    · intro i hi ih
      have c1 : ¬ nI L.length ≤ nI i := nI_ge hi (by omega)
      obtain ⟨e2, he2⟩ := rz_ge (L := L) (i := i) (by omega)
      have hc := fun R => c_P_pileAt (d := d) h he2 (R := R)
      rw [← ih, rz_cnt_tk he2]
      by_cases hx : e2.2.2.2.2 = p
      · rw [ri_50_4]
        simp only [↓ri_50_5, ↓ri_50_6, ↓ri_50_9, ↓ri_50_12, ↓ri_50_13, ↓ri_50_14, ↓ri_50_17, ↓ri_50_18, ↓ri_50_21, ↓ri_50_24, ↓ri_50_27, p5, Option.some.injEq, Prod.mk.injEq, exists_eq_left', exists_eq', exists_and_left, exists_and_right, true_and, and_true, true_or, or_true, and_self, and_assoc, Option.toList_some, Option.toList_none, List.cons_append, List.nil_append, ↓reduceIte, rz_x01, rz_x10, ↓if_neg c1, rz_co_fv p5, hc, ↓if_pos hx, nI_1]
      · rw [ri_50_4]
        simp only [↓ri_50_5, ↓ri_50_6, ↓ri_50_9, ↓ri_50_12, ↓ri_50_13, ↓ri_50_14, ↓ri_50_17, ↓ri_50_18, ↓ri_50_21, ↓ri_50_24, ↓ri_50_27, p5, Option.some.injEq, Prod.mk.injEq, exists_eq_left', exists_eq', exists_and_left, exists_and_right, true_and, and_true, true_or, or_true, and_self, and_assoc, Option.toList_some, Option.toList_none, List.cons_append, List.nil_append, ↓reduceIte, rz_x01, rz_x10, ↓if_neg c1, rz_co_fv p5, hc, ↓if_neg hx, nI_1, Nat.add_zero]
  have h0 := hl 0 (Nat.zero_le _)
  rw [nI_0, show rz_cnt (L.take 0) p = 0 from rfl, nI_0] at h0
  simp only [↓ri_50_0, ↓ri_50_1, ↓ri_50_2, ↓ri_50_3, h0]
/-- the place of the first one of the least keys -/
def rz_nx (L : List rz_En) (j : Nat) : Prop := ∃ e, L[j]? = some e ∧ (∀ (i : Nat) (x : rz_En), L[i]? = some x → e.2.1 ≤ x.2.1) ∧ ∀ (i : Nat) (x : rz_En), i < j → L[i]? = some x → e.2.1 < x.2.1
theorem rz_nx_one {L : List rz_En} {i j : Nat} (h : rz_nx L i) (h2 : rz_nx L j) : i = j := by
  obtain ⟨e, he, a1, a2⟩ := h
  obtain ⟨x, hx, b1, b2⟩ := h2
  rcases Nat.lt_trichotomy i j with q | q | q
  · exact absurd (b2 i e q he) (Int32.not_lt.mpr (a1 j x hx))
  · exact q
  · exact absurd (a2 j x q hx) (Int32.not_lt.mpr (b1 i e he))
theorem rz_nx_step {L : List rz_En} {i j : Nat} {e x : rz_En} (h : rz_nx (L.take i) j) (he : L[j]? = some e) (hx : L[i]? = some x) (hj : j < i) : if x.2.1 < e.2.1 then rz_nx (L.take (i + 1)) i else rz_nx (L.take (i + 1)) j := by
  obtain ⟨e', he', a1, a2⟩ := h
  rw [List.getElem?_take_of_lt hj, he] at he'
  cases he'
  split
  · next hlt =>
    refine ⟨x, by rw [List.getElem?_take_of_lt (by omega)]; exact hx, fun m y hm => ?_, fun m y hm hy => ?_⟩
    · by_cases hmi : m < i
      · rw [List.getElem?_take_of_lt (by omega)] at hm
        exact Int32.le_trans (Int32.le_of_lt hlt) (a1 m y (by rw [List.getElem?_take_of_lt hmi]; exact hm))
      · have hl := (List.getElem?_eq_some_iff.mp hm).1
        rw [List.length_take] at hl
        have hmi2 : m = i := by omega
        subst hmi2
        rw [List.getElem?_take_of_lt (by omega), hx] at hm
        cases hm
        exact Int32.le_refl _
    · rw [List.getElem?_take_of_lt (by omega)] at hy
      exact Int32.lt_of_lt_of_le hlt (a1 m y (by rw [List.getElem?_take_of_lt hm]; exact hy))
  · next hlt =>
    refine ⟨e, by rw [List.getElem?_take_of_lt (by omega)]; exact he, fun m y hm => ?_, fun m y hm hy => ?_⟩
    · by_cases hmi : m < i
      · rw [List.getElem?_take_of_lt (by omega)] at hm
        exact a1 m y (by rw [List.getElem?_take_of_lt hmi]; exact hm)
      · have hl := (List.getElem?_eq_some_iff.mp hm).1
        rw [List.length_take] at hl
        have hmi2 : m = i := by omega
        subst hmi2
        rw [List.getElem?_take_of_lt (by omega), hx] at hm
        cases hm
        exact Int32.not_lt.mp hlt
    · rw [List.getElem?_take_of_lt (by omega)] at hy
      exact a2 m y hm (by rw [List.getElem?_take_of_lt (by omega)]; exact hy)
theorem rz_nx_first {L : List rz_En} {x : rz_En} (hx : L[0]? = some x) : rz_nx (L.take 1) 0 := by
  refine ⟨x, by rw [List.getElem?_take_of_lt (by omega)]; exact hx, fun m y hm => ?_, fun m y hm hy => absurd hm (Nat.not_lt_zero _)⟩
  have hl := (List.getElem?_eq_some_iff.mp hm).1
  rw [List.length_take] at hl
  have hm0 : m = 0 := by omega
  subst hm0
  rw [List.getElem?_take_of_lt (by omega), hx] at hm
  cases hm
  exact Int32.le_refl _
theorem rz_nx_ex {L : List rz_En} (h : L ≠ []) : ∃ j, rz_nx L j := by
  have hpos : 0 < L.length := List.length_pos_iff.mpr h
  have hk : ∀ i, i ≤ L.length → 0 < i → ∃ j, j < i ∧ rz_nx (L.take i) j := by
    intro i
    induction i with
    | zero => intro _ h0; exact absurd h0 (Nat.lt_irrefl _)
    | succ i ih =>
      intro hi _
      obtain ⟨x, hx⟩ := rz_ge (L := L) (i := i) (by omega)
      by_cases h0 : i = 0
      · subst h0; exact ⟨0, by omega, rz_nx_first hx⟩
      · obtain ⟨j, hj, hn⟩ := ih (by omega) (by omega)
        obtain ⟨e, he⟩ := rz_ge (L := L) (i := j) (by omega)
        have := rz_nx_step hn he hx hj
        split at this
        · exact ⟨i, by omega, this⟩
        · exact ⟨j, by omega, this⟩
  obtain ⟨j, -, hj⟩ := hk L.length (Nat.le_refl _) hpos
  rw [List.take_length] at hj
  exact ⟨j, hj⟩
set_option maxHeartbeats 4000000 in
set_option maxRecDepth 100000 in
theorem c_P_indexOfNext {d b j : Nat} {L : List rz_En} {fl am : Int32} {hp : rz_Hp} (h : rz_PL b L fl am hp) (hn : rz_nx L j) {R : Option Value → rz_Hp → Prop} : rz_ev (d + 2) 45 0 [some (.ref b), none, none] [] hp R ↔ R (some (.int (nI j))) hp := by
  have hL := h.1
  obtain ⟨-, ⟨p0, p1, p2, p3, p4, p5, p6, p7⟩, -⟩ := id h
  have hpos : 0 < L.length := by obtain ⟨e, he, -⟩ := hn; have := (List.getElem?_eq_some_iff.mp he).1; omega
  have hl : ∀ i, i ≤ L.length → 0 < i → ∀ m, m < i → rz_nx (L.take i) m → (rz_ev (d + 2) 45 4 [some (.ref b), some (.int (nI m)), some (.int (nI i))] [] hp R ↔ R (some (.int (nI j))) hp) := by
    refine rz_down L.length ?_ ?_
    · intro _ m hm hnm
      rw [List.take_length] at hnm
      rw [rz_nx_one hnm hn]
      have c1 : nI L.length ≤ nI L.length := nI_le (Nat.le_refl _) (by omega)
      simp only [↓ri_45_0, ↓ri_45_1, ↓ri_45_2, ↓ri_45_3, ↓ri_45_4, ↓ri_45_5, ↓ri_45_6, ↓ri_45_9, ↓ri_45_12, ↓ri_45_13, ↓ri_45_14, ↓ri_45_17, ↓ri_45_18, ↓ri_45_19, ↓ri_45_22, ↓ri_45_23, ↓ri_45_24, ↓ri_45_27, ↓ri_45_30, ↓ri_45_31, ↓ri_45_32, ↓ri_45_35, ↓ri_45_38, ↓ri_45_39, p5, Option.some.injEq, Prod.mk.injEq, exists_eq_left', exists_eq', exists_and_left, exists_and_right, true_and, and_true, true_or, or_true, and_self, and_assoc, Option.toList_some, Option.toList_none, List.cons_append, List.nil_append, ↓reduceIte, rz_x01, rz_x10, ↓if_pos c1]
    · intro i hi ih h0 m hm hnm
      have c1 : ¬ nI L.length ≤ nI i := nI_ge hi (by omega)
      have c2 : ¬ nI m = -1 := fun q => nI_pos (show m < 2 ^ 31 by omega) (by rw [q]; decide)
      obtain ⟨x, hx⟩ := rz_ge (L := L) (i := i) (by omega)
      obtain ⟨e, he⟩ := rz_ge (L := L) (i := m) (by omega)
      have hc := fun R => c_P_keyAt (d := d) h hx (R := R)
      have hc2 := fun R => c_P_keyAt (d := d) h he (R := R)
      have hs := rz_nx_step hnm he hx hm
      by_cases hlt : x.2.1 < e.2.1
      · rw [if_pos hlt] at hs
        rw [← ih (by omega) i (by omega) hs]
        rw [ri_45_4]
        simp only [↓ri_45_5, ↓ri_45_6, ↓ri_45_9, ↓ri_45_12, ↓ri_45_13, ↓ri_45_14, ↓ri_45_17, ↓ri_45_18, ↓ri_45_19, ↓ri_45_22, ↓ri_45_23, ↓ri_45_24, ↓ri_45_27, ↓ri_45_30, ↓ri_45_31, ↓ri_45_32, ↓ri_45_35, p5, Option.some.injEq, Prod.mk.injEq, exists_eq_left', exists_eq', exists_and_left, exists_and_right, true_and, and_true, true_or, or_true, and_self, and_assoc, Option.toList_some, Option.toList_none, List.cons_append, List.nil_append, ↓reduceIte, rz_x01, rz_x10, ↓if_neg c1, ↓if_neg c2, rz_co_fv p5, hc, hc2, ↓if_neg (Int32.not_le.mpr hlt), nI_1]
      · rw [if_neg hlt] at hs
        rw [← ih (by omega) m (by omega) hs]
        rw [ri_45_4]
        simp only [↓ri_45_5, ↓ri_45_6, ↓ri_45_9, ↓ri_45_12, ↓ri_45_13, ↓ri_45_14, ↓ri_45_17, ↓ri_45_18, ↓ri_45_19, ↓ri_45_22, ↓ri_45_23, ↓ri_45_24, ↓ri_45_27, ↓ri_45_30, ↓ri_45_31, ↓ri_45_32, ↓ri_45_35, p5, Option.some.injEq, Prod.mk.injEq, exists_eq_left', exists_eq', exists_and_left, exists_and_right, true_and, and_true, true_or, or_true, and_self, and_assoc, Option.toList_some, Option.toList_none, List.cons_append, List.nil_append, ↓reduceIte, rz_x01, rz_x10, ↓if_neg c1, ↓if_neg c2, rz_co_fv p5, hc, hc2, ↓if_pos (Int32.not_lt.mp hlt), nI_1]
  obtain ⟨x, hx⟩ := rz_ge (L := L) (i := 0) hpos
  have h1 := hl 1 (by omega) (by omega) 0 (by omega) (rz_nx_first hx)
  have c1 : ¬ nI L.length ≤ 0 := nI_nle hpos (by omega)
  rw [← h1]
  rw [ri_45_0, ri_45_1, ri_45_2, ri_45_3, ri_45_4]
  simp only [↓ri_45_5, ↓ri_45_6, ↓ri_45_9, ↓ri_45_12, ↓ri_45_13, ↓ri_45_14, ↓ri_45_17, ↓ri_45_18, ↓ri_45_19, ↓ri_45_22, ↓ri_45_23, ↓ri_45_24, ↓ri_45_27, ↓ri_45_30, ↓ri_45_31, ↓ri_45_32, ↓ri_45_35, p5, Option.some.injEq, Prod.mk.injEq, exists_eq_left', exists_eq', exists_and_left, exists_and_right, true_and, and_true, true_or, or_true, and_self, and_assoc, Option.toList_some, Option.toList_none, List.cons_append, List.nil_append, ↓reduceIte, rz_x01, rz_x10, ↓if_neg c1, nI_0, show nI 1 = (1 : Int32) from rfl, show (0 : Int32) + 1 = 1 from rfl]
set_option maxHeartbeats 4000000 in
set_option maxRecDepth 100000 in
theorem c_P_indexOfNext0 {d b : Nat} {fl am : Int32} {hp : rz_Hp} (h : rz_PL b [] fl am hp) {R : Option Value → rz_Hp → Prop} : rz_ev (d + 2) 45 0 [some (.ref b), none, none] [] hp R ↔ R (some (.int (-1))) hp := by
  obtain ⟨-, ⟨p0, p1, p2, p3, p4, p5, p6, p7⟩, -⟩ := id h
  have c1 : nI ([] : List rz_En).length ≤ 0 := by decide
  simp only [↓ri_45_0, ↓ri_45_1, ↓ri_45_2, ↓ri_45_3, ↓ri_45_4, ↓ri_45_5, ↓ri_45_6, ↓ri_45_9, ↓ri_45_12, ↓ri_45_13, ↓ri_45_14, ↓ri_45_17, ↓ri_45_18, ↓ri_45_19, ↓ri_45_22, ↓ri_45_23, ↓ri_45_24, ↓ri_45_27, ↓ri_45_30, ↓ri_45_31, ↓ri_45_32, ↓ri_45_35, ↓ri_45_38, ↓ri_45_39, p5, Option.some.injEq, Prod.mk.injEq, exists_eq_left', exists_eq', exists_and_left, exists_and_right, true_and, and_true, true_or, or_true, and_self, and_assoc, Option.toList_some, Option.toList_none, List.cons_append, List.nil_append, ↓reduceIte, rz_x01, rz_x10, ↓if_pos c1]
