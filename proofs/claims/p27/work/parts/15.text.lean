/-! Text; History -/
def rz_sg (tx : List Int32) (i : Nat) : Int32 := tx.getD i (-1)
/-- a Text object holds the characters tx -/
def rz_TX (t : Nat) (tx : List Int32) (hp : rz_Hp) : Prop := tx.length ≤ 60 ∧ rz_fv hp t 7 0 = some (.ref (t + 1)) ∧ rz_fv hp t 7 1 = some (.int (nI tx.length)) ∧ ∃ f, rz_av hp (t + 1) = some (1, 60, f) ∧ ∀ (i : Nat) (c : Int32), tx[i]? = some c → f i = c
theorem rz_TX_sm {lo hi t : Nat} {tx : List Int32} {hp h1 : rz_Hp} (h : rz_TX t tx hp) (s : rz_sm lo hi hp h1) (hd : t + 2 ≤ lo ∨ hi ≤ t) : rz_TX t tx h1 := by
  obtain ⟨hL, p0, p1, f, a0, hf⟩ := h
  exact ⟨hL, by rw [s.fv (by omega)]; exact p0, by rw [s.fv (by omega)]; exact p1, f, by rw [s.av (by omega)]; exact a0, hf⟩
set_option maxHeartbeats 4000000 in
set_option maxRecDepth 100000 in
theorem c_X_size {d t : Nat} {tx : List Int32} {hp : rz_Hp} (h : rz_TX t tx hp) {R : Option Value → rz_Hp → Prop} : rz_ev d 83 0 [some (.ref t)] [] hp R ↔ R (some (.int (nI tx.length))) hp := by
  obtain ⟨hL, p0, p1, f, a0, hf⟩ := h
  simp only [↓ri_83_0, ↓ri_83_1, ↓ri_83_4, Option.some.injEq, Prod.mk.injEq, exists_eq_left', exists_eq', exists_and_left, exists_and_right, true_and, and_true, true_or, or_true, and_self, and_assoc, Option.toList_some, Option.toList_none, List.cons_append, List.nil_append, ↓reduceIte, rz_x01, rz_x10, p1]
set_option maxHeartbeats 4000000 in
set_option maxRecDepth 100000 in
theorem c_X_signAt {d t i : Nat} {tx : List Int32} {hp : rz_Hp} (h : rz_TX t tx hp) (hi : i < 2 ^ 31) {R : Option Value → rz_Hp → Prop} : rz_ev d 86 0 [some (.ref t), some (.int (nI i))] [] hp R ↔ R (some (.int (rz_sg tx i))) hp := by
  obtain ⟨hL, p0, p1, f, a0, hf⟩ := h
  have c0 : ¬ nI i < 0 := nI_pos hi
  unfold rz_sg
  by_cases h1 : i < tx.length
  · have c1 : ¬ nI tx.length ≤ nI i := nI_ge h1 (by omega)
    have c2 : ¬ 60 ≤ nI i := nI_ge (b := 60) (by omega) (by decide)
    have hv : vp_in (nI i) 60 := vp_in_nI (by omega) (by decide)
    have e1 : f i = tx.getD i (-1) := by
      rw [List.getD_eq_getElem?_getD, List.getElem?_eq_getElem h1]
      exact hf i _ (List.getElem?_eq_getElem h1)
    simp only [↓ri_86_0, ↓ri_86_1, ↓ri_86_4, ↓ri_86_5, ↓ri_86_6, ↓ri_86_9, ↓ri_86_12, ↓ri_86_13, ↓ri_86_15, ↓ri_86_18, ↓ri_86_19, ↓ri_86_22, ↓ri_86_23, ↓ri_86_24, ↓ri_86_27, ↓ri_86_28, Option.some.injEq, Prod.mk.injEq, exists_eq_left', exists_eq', exists_and_left, exists_and_right, true_and, and_true, true_or, or_true, and_self, and_assoc, Option.toList_some, Option.toList_none, List.cons_append, List.nil_append, ↓reduceIte, rz_x01, rz_x10, p0, p1, a0, ↓if_neg c0, ↓if_neg c1, ↓if_neg c2, hv, nI_clamp hi, e1]
  · have c1 : nI tx.length ≤ nI i := nI_le (by omega) hi
    have e1 : tx.getD i (-1) = -1 := by rw [List.getD_eq_getElem?_getD, List.getElem?_eq_none (by omega)]; rfl
    simp only [↓ri_86_0, ↓ri_86_1, ↓ri_86_4, ↓ri_86_5, ↓ri_86_6, ↓ri_86_9, ↓ri_86_12, ↓ri_86_13, ↓ri_86_15, ↓ri_86_18, ↓ri_86_19, ↓ri_86_22, ↓ri_86_23, ↓ri_86_24, ↓ri_86_27, ↓ri_86_28, Option.some.injEq, Prod.mk.injEq, exists_eq_left', exists_eq', exists_and_left, exists_and_right, true_and, and_true, true_or, or_true, and_self, and_assoc, Option.toList_some, Option.toList_none, List.cons_append, List.nil_append, ↓reduceIte, rz_x01, rz_x10, p0, p1, ↓if_neg c0, ↓if_pos c1, e1]
def rz_type_ (tx : List Int32) (c : Int32) : Int32 × List Int32 := if tx.length < 60 then (nI (tx.length + 1), tx ++ [c]) else (-3, tx)
set_option maxHeartbeats 4000000 in
set_option maxRecDepth 100000 in
theorem c_X_append {d t : Nat} {tx : List Int32} {c : Int32} {hp : rz_Hp} (h : rz_TX t tx hp) (hc : vp_nar .char c = c) {R : Option Value → rz_Hp → Prop} (kk : ∀ hp', rz_TX t (rz_type_ tx c).2 hp' → rz_sm t (t + 2) hp hp' → R (some (.int (rz_type_ tx c).1)) hp') : rz_ev d 84 0 [some (.ref t), some (.int c)] [] hp R := by
  obtain ⟨hL, p0, p1, f, a0, hf⟩ := id h
  have c0 : ¬ nI tx.length < 0 := nI_pos (by omega)
  unfold rz_type_ at kk
  by_cases h1 : tx.length < 60
  · simp only [if_pos h1] at kk
    have c1 : nI tx.length < 60 := nI_lt (b := 60) h1 (by decide)
    have hv : vp_in (nI tx.length) 60 := vp_in_nI h1 (by decide)
    simp only [↓ri_84_0, ↓ri_84_1, ↓ri_84_4, ↓ri_84_7, ↓ri_84_8, ↓ri_84_11, ↓ri_84_13, ↓ri_84_16, ↓ri_84_18, ↓ri_84_19, ↓ri_84_20, ↓ri_84_23, ↓ri_84_24, ↓ri_84_27, ↓ri_84_28, ↓ri_84_29, ↓ri_84_30, ↓ri_84_31, ↓ri_84_34, ↓ri_84_35, ↓ri_84_36, ↓ri_84_39, ↓ri_84_40, ↓ri_84_43, Option.some.injEq, Prod.mk.injEq, exists_eq_left', exists_eq', exists_and_left, exists_and_right, true_and, and_true, true_or, or_true, and_self, and_assoc, Option.toList_some, Option.toList_none, List.cons_append, List.nil_append, ↓reduceIte, rz_x01, rz_x10, rz_fv_pf, rz_av_pf, rz_qv_pf, rz_ln_pf, rz_co_pf, rz_fv_pa, rz_av_pa, rz_qv_pa, rz_ln_pa, rz_co_pa, rz_fv_pq, rz_av_pq, rz_qv_pq, rz_ln_pq, rz_co_pq, Nat.reduceEqDiff, Nat.add_eq_left, Nat.left_eq_add, Nat.one_ne_zero, Option.map_some, exists_const, p0, p1, a0, ↓if_neg c0, ↓if_pos c1, hv, nI_clamp (show tx.length < 2 ^ 31 by omega), hc, nI_1]
    refine kk _ ⟨by rw [List.length_append, List.length_singleton]; omega, by simp only [rz_fv_pf, rz_av_pf, rz_qv_pf, rz_ln_pf, rz_co_pf, rz_fv_pa, rz_av_pa, rz_qv_pa, rz_ln_pa, rz_co_pa, rz_fv_pq, rz_av_pq, rz_qv_pq, rz_ln_pq, rz_co_pq, Nat.reduceEqDiff, Nat.add_eq_left, Nat.left_eq_add, Nat.one_ne_zero, Option.map_some, exists_const, Option.some.injEq, Prod.mk.injEq, exists_eq_left', exists_eq', exists_and_left, exists_and_right, true_and, and_true, true_or, or_true, and_self, and_assoc, Option.toList_some, Option.toList_none, List.cons_append, List.nil_append, ↓reduceIte, rz_x01, rz_x10, p0], by simp only [rz_fv_pf, rz_av_pf, rz_qv_pf, rz_ln_pf, rz_co_pf, rz_fv_pa, rz_av_pa, rz_qv_pa, rz_ln_pa, rz_co_pa, rz_fv_pq, rz_av_pq, rz_qv_pq, rz_ln_pq, rz_co_pq, Nat.reduceEqDiff, Nat.add_eq_left, Nat.left_eq_add, Nat.one_ne_zero, Option.map_some, exists_const, Option.some.injEq, Prod.mk.injEq, exists_eq_left', exists_eq', exists_and_left, exists_and_right, true_and, and_true, true_or, or_true, and_self, and_assoc, Option.toList_some, Option.toList_none, List.cons_append, List.nil_append, ↓reduceIte, rz_x01, rz_x10, p1, List.length_append, List.length_singleton], upd f tx.length c, by simp only [rz_fv_pf, rz_av_pf, rz_qv_pf, rz_ln_pf, rz_co_pf, rz_fv_pa, rz_av_pa, rz_qv_pa, rz_ln_pa, rz_co_pa, rz_fv_pq, rz_av_pq, rz_qv_pq, rz_ln_pq, rz_co_pq, Nat.reduceEqDiff, Nat.add_eq_left, Nat.left_eq_add, Nat.one_ne_zero, Option.map_some, exists_const, Option.some.injEq, Prod.mk.injEq, exists_eq_left', exists_eq', exists_and_left, exists_and_right, true_and, and_true, true_or, or_true, and_self, and_assoc, Option.toList_some, Option.toList_none, List.cons_append, List.nil_append, ↓reduceIte, rz_x01, rz_x10, a0], fun i x hx => ?_⟩ ((rz_sm_pa (by omega) (by omega)).tr (rz_sm_pf (by omega) (by omega)))
    by_cases hi : i < tx.length
    · rw [List.getElem?_append_left hi] at hx
      rw [pk_un (by omega)]
      exact hf i x hx
    · have hl := (List.getElem?_eq_some_iff.mp hx).1
      rw [List.length_append, List.length_singleton] at hl
      have hi2 : i = tx.length := by omega
      subst hi2
      rw [List.getElem?_append_right (Nat.le_refl _), Nat.sub_self] at hx
      cases hx
      exact pk_us
  · simp only [if_neg h1] at kk
    have c1 : ¬ nI tx.length < 60 := nI_nlt (b := tx.length) (a := 60) (by omega) (by decide) |> fun q => nI_nlt (b := 60) (a := tx.length) (by omega) (by omega)
    simp only [↓ri_84_0, ↓ri_84_1, ↓ri_84_4, ↓ri_84_7, ↓ri_84_8, ↓ri_84_11, ↓ri_84_13, ↓ri_84_16, ↓ri_84_18, ↓ri_84_19, ↓ri_84_20, ↓ri_84_23, ↓ri_84_24, ↓ri_84_27, ↓ri_84_28, ↓ri_84_29, ↓ri_84_30, ↓ri_84_31, ↓ri_84_34, ↓ri_84_35, ↓ri_84_36, ↓ri_84_39, ↓ri_84_40, ↓ri_84_43, Option.some.injEq, Prod.mk.injEq, exists_eq_left', exists_eq', exists_and_left, exists_and_right, true_and, and_true, true_or, or_true, and_self, and_assoc, Option.toList_some, Option.toList_none, List.cons_append, List.nil_append, ↓reduceIte, rz_x01, rz_x10, p0, p1, ↓if_neg c0, ↓if_neg c1]
    exact kk _ h rz_sm.rf
set_option maxHeartbeats 4000000 in
set_option maxRecDepth 100000 in
theorem c_X_clear {d t : Nat} {tx : List Int32} {hp : rz_Hp} (h : rz_TX t tx hp) {R : Option Value → rz_Hp → Prop} (kk : ∀ hp', rz_TX t [] hp' → rz_sm t (t + 2) hp hp' → R (some (.int (nI tx.length))) hp') : rz_ev d 85 0 [some (.ref t), none] [] hp R := by
  obtain ⟨hL, p0, p1, f, a0, hf⟩ := id h
  simp only [↓ri_85_0, ↓ri_85_1, ↓ri_85_4, ↓ri_85_5, ↓ri_85_6, ↓ri_85_7, ↓ri_85_10, ↓ri_85_11, Option.some.injEq, Prod.mk.injEq, exists_eq_left', exists_eq', exists_and_left, exists_and_right, true_and, and_true, true_or, or_true, and_self, and_assoc, Option.toList_some, Option.toList_none, List.cons_append, List.nil_append, ↓reduceIte, rz_x01, rz_x10, rz_fv_pf, rz_av_pf, rz_qv_pf, rz_ln_pf, rz_co_pf, rz_fv_pa, rz_av_pa, rz_qv_pa, rz_ln_pa, rz_co_pa, rz_fv_pq, rz_av_pq, rz_qv_pq, rz_ln_pq, rz_co_pq, Nat.reduceEqDiff, Nat.add_eq_left, Nat.left_eq_add, Nat.one_ne_zero, Option.map_some, exists_const, p1]
  exact kk _ ⟨by decide, by simp only [rz_fv_pf, rz_av_pf, rz_qv_pf, rz_ln_pf, rz_co_pf, rz_fv_pa, rz_av_pa, rz_qv_pa, rz_ln_pa, rz_co_pa, rz_fv_pq, rz_av_pq, rz_qv_pq, rz_ln_pq, rz_co_pq, Nat.reduceEqDiff, Nat.add_eq_left, Nat.left_eq_add, Nat.one_ne_zero, Option.map_some, exists_const, Option.some.injEq, Prod.mk.injEq, exists_eq_left', exists_eq', exists_and_left, exists_and_right, true_and, and_true, true_or, or_true, and_self, and_assoc, Option.toList_some, Option.toList_none, List.cons_append, List.nil_append, ↓reduceIte, rz_x01, rz_x10, p0], by simp only [rz_fv_pf, rz_av_pf, rz_qv_pf, rz_ln_pf, rz_co_pf, rz_fv_pa, rz_av_pa, rz_qv_pa, rz_ln_pa, rz_co_pa, rz_fv_pq, rz_av_pq, rz_qv_pq, rz_ln_pq, rz_co_pq, Nat.reduceEqDiff, Nat.add_eq_left, Nat.left_eq_add, Nat.one_ne_zero, Option.map_some, exists_const, Option.some.injEq, Prod.mk.injEq, exists_eq_left', exists_eq', exists_and_left, exists_and_right, true_and, and_true, true_or, or_true, and_self, and_assoc, Option.toList_some, Option.toList_none, List.cons_append, List.nil_append, ↓reduceIte, rz_x01, rz_x10, p1]; rfl, f, by simp only [rz_fv_pf, rz_av_pf, rz_qv_pf, rz_ln_pf, rz_co_pf, rz_fv_pa, rz_av_pa, rz_qv_pa, rz_ln_pa, rz_co_pa, rz_fv_pq, rz_av_pq, rz_qv_pq, rz_ln_pq, rz_co_pq, Nat.reduceEqDiff, Nat.add_eq_left, Nat.left_eq_add, Nat.one_ne_zero, Option.map_some, exists_const, Option.some.injEq, Prod.mk.injEq, exists_eq_left', exists_eq', exists_and_left, exists_and_right, true_and, and_true, true_or, or_true, and_self, and_assoc, Option.toList_some, Option.toList_none, List.cons_append, List.nil_append, ↓reduceIte, rz_x01, rz_x10, a0], fun i x hx => by simp at hx⟩ (rz_sm_pf (by omega) (by omega))
/-! History -/
theorem rz_rf (x : Nat) : va_rf (some x) = .ref x := rfl
/-- a History object: the states hist, the oldest one first; four State objects behind it, in any order -/
def rz_HI (h : Nat) (hist : List rz_AS) (hp : rz_Hp) : Prop := hist.length ≤ 4 ∧ rz_fv hp h 0 0 = some (.ref (h + 1)) ∧ rz_fv hp h 0 1 = some (.int (nI hist.length)) ∧
  ∃ (f : Nat → Option Nat) (σ : Nat → Nat) (A : Nat → rz_AS), rz_qv hp (h + 1) = some (4, f) ∧ (∀ i, i < 4 → f i = some (h + 2 + 14 * σ i) ∧ σ i < 4) ∧ (∀ i j, i < 4 → j < 4 → σ i = σ j → i = j) ∧ (∀ i, i < 4 → rz_ST (h + 2 + 14 * σ i) (A i) hp) ∧ ∀ (i : Nat) (s : rz_AS), hist[i]? = some s → A i = s
theorem rz_HI_sm {lo hi h : Nat} {hist : List rz_AS} {hp h1 : rz_Hp} (q : rz_HI h hist hp) (s : rz_sm lo hi hp h1) (hd : h + 58 ≤ lo ∨ hi ≤ h) : rz_HI h hist h1 := by
  obtain ⟨hL, p0, p1, f, σ, A, a0, g1, g2, g3, g4⟩ := q
  refine ⟨hL, by rw [s.fv (by omega)]; exact p0, by rw [s.fv (by omega)]; exact p1, f, σ, A, by rw [s.qv (by omega)]; exact a0, g1, g2, fun i hi => ?_, g4⟩
  have := (g1 i hi).2
  exact rz_ST_sm (g3 i hi) s (by omega)
set_option maxHeartbeats 4000000 in
set_option maxRecDepth 100000 in
theorem c_H_size {d h : Nat} {hist : List rz_AS} {hp : rz_Hp} (q : rz_HI h hist hp) {R : Option Value → rz_Hp → Prop} : rz_ev d 1 0 [some (.ref h)] [] hp R ↔ R (some (.int (nI hist.length))) hp := by
  obtain ⟨hL, p0, p1, -⟩ := q
  simp only [↓ri_1_0, ↓ri_1_1, ↓ri_1_4, Option.some.injEq, Prod.mk.injEq, exists_eq_left', exists_eq', exists_and_left, exists_and_right, true_and, and_true, true_or, or_true, and_self, and_assoc, Option.toList_some, Option.toList_none, List.cons_append, List.nil_append, ↓reduceIte, rz_x01, rz_x10, p1]
set_option maxHeartbeats 4000000 in
set_option maxRecDepth 100000 in
theorem c_H_stateAt {d h i a : Nat} {f : Nat → Option Nat} {hp : rz_Hp} (p0 : rz_fv hp h 0 0 = some (.ref (h + 1))) (a0 : rz_qv hp (h + 1) = some (4, f)) (hi : i < 4) (hf : f i = some a) {R : Option Value → rz_Hp → Prop} : rz_ev d 2 0 [some (.ref h), some (.int (nI i))] [] hp R ↔ R (some (.ref a)) hp := by
  have l0 := rz_ln_qv a0
  have c0 : ¬ nI i < 0 := nI_pos (by omega)
  have c1 : ¬ nI 4 ≤ nI i := nI_ge hi (by decide)
  have hv : vp_in (nI i) 4 := vp_in_nI hi (by decide)
  simp only [↓ri_2_0, ↓ri_2_1, ↓ri_2_4, ↓ri_2_5, ↓ri_2_6, ↓ri_2_9, ↓ri_2_10, ↓ri_2_13, ↓ri_2_14, ↓ri_2_17, ↓ri_2_18, ↓ri_2_19, ↓ri_2_22, ↓ri_2_23, ↓ri_2_23N, Option.some.injEq, Prod.mk.injEq, exists_eq_left', exists_eq', exists_and_left, exists_and_right, true_and, and_true, true_or, or_true, and_self, and_assoc, Option.toList_some, Option.toList_none, List.cons_append, List.nil_append, ↓reduceIte, rz_x01, rz_x10, p0, a0, l0, ↓if_neg c0, ↓if_neg c1, hv, nI_clamp (show i < 2 ^ 31 by omega), hf, rz_rf]
set_option maxHeartbeats 4000000 in
set_option maxRecDepth 100000 in
theorem c_H_stateAtN {d h : Nat} {hp : rz_Hp} {R : Option Value → rz_Hp → Prop} : rz_ev d 2 0 [some (.ref h), some (.int (-1))] [] hp R ↔ R (some .null) hp := by
  have c0 : (-1 : Int32) < 0 := by decide
  simp only [↓ri_2_0, ↓ri_2_1, ↓ri_2_4, ↓ri_2_5, ↓ri_2_6, ↓ri_2_9, ↓ri_2_10, ↓ri_2_13, ↓ri_2_14, ↓ri_2_17, ↓ri_2_18, ↓ri_2_19, ↓ri_2_22, ↓ri_2_23, ↓ri_2_23N, Option.some.injEq, Prod.mk.injEq, exists_eq_left', exists_eq', exists_and_left, exists_and_right, true_and, and_true, true_or, or_true, and_self, and_assoc, Option.toList_some, Option.toList_none, List.cons_append, List.nil_append, ↓reduceIte, rz_x01, rz_x10, ↓if_pos c0]
set_option maxHeartbeats 4000000 in
set_option maxRecDepth 100000 in
theorem c_H_dropOldest {d h : Nat} {hist : List rz_AS} {hp : rz_Hp} (q : rz_HI h hist hp) (h4 : hist.length = 4) {R : Option Value → rz_Hp → Prop} (kk : ∀ hp', rz_HI h hist.tail hp' → rz_sm h (h + 58) hp hp' → R none hp') : rz_ev (d + 1) 4 0 [some (.ref h), none, none] [] hp R := by
  obtain ⟨hL, p0, p1, f, σ, A, a0, g1, g2, g3, g4⟩ := id q
  have l0 := rz_ln_qv a0
  have hq := fun R => c_H_stateAt (d := d) p0 a0 (i := 0) (by decide) (g1 0 (by decide)).1 (R := R)
  rw [nI_0] at hq
  have co : ∀ i, i < 4 → rz_co hp (h + 2 + 14 * σ i) = some 6 := fun i hi => by
    have := g3 i hi
    obtain ⟨L, fl, am, lat, rd, laid, ci, co, tb⟩ := A i
    exact rz_co_fv this.1.1
  have e0 : (0 : Int32) + 1 = 1 := by decide
  have e1 : (1 : Int32) + 1 = 2 := by decide
  have e2 : (2 : Int32) + 1 = 3 := by decide
  have e3 : (3 : Int32) + 1 = 4 := by decide
  have k0 : (0 : Int32).toNatClampNeg = 0 := rfl
  have k1 : (1 : Int32).toNatClampNeg = 1 := rfl
  have k2 : (2 : Int32).toNatClampNeg = 2 := rfl
  have k3 : (3 : Int32).toNatClampNeg = 3 := rfl
  have v0 : vp_in 0 4 := vp_in_nI (n := 0) (by decide) (by decide)
  have v1 : vp_in 1 4 := vp_in_nI (n := 1) (by decide) (by decide)
  have v2 : vp_in 2 4 := vp_in_nI (n := 2) (by decide) (by decide)
  have v3 : vp_in 3 4 := vp_in_nI (n := 3) (by decide) (by decide)
  have t1 : ¬ nI 4 ≤ 1 := by decide
  have t2 : ¬ nI 4 ≤ 2 := by decide
  have t3 : ¬ nI 4 ≤ 3 := by decide
  have t4 : nI 4 ≤ 4 := by decide
  have t5 : ¬ nI 4 ≤ 0 := by decide
  have t6 : nI 4 - 1 = 3 := by decide
  have u : ∀ (f : Nat → Option Nat) (k : Nat) (v : Option Nat), va_up f k v k = v := va_up_self
  have f0 := (g1 0 (by decide)).1
  have f1 := (g1 1 (by decide)).1
  have f2 := (g1 2 (by decide)).1
  have f3 := (g1 3 (by decide)).1
  have c0 := co 0 (by decide)
  have c1 := co 1 (by decide)
  have c2 := co 2 (by decide)
  have c3 := co 3 (by decide)
  have w1 : ∀ (f : Nat → Option Nat) (v : Option Nat), va_up f 0 v 2 = f 2 := fun f v => va_up_ne f v (by decide)
  have w2 : ∀ (f : Nat → Option Nat) (v : Option Nat), va_up f 1 v 3 = f 3 := fun f v => va_up_ne f v (by decide)
  have w3 : ∀ (f : Nat → Option Nat) (v : Option Nat), va_up f 0 v 3 = f 3 := fun f v => va_up_ne f v (by decide)
  simp only [↓ri_4_0, ↓ri_4_1, ↓ri_4_2, ↓ri_4_5, ↓ri_4_6, ↓ri_4_7, ↓ri_4_8, ↓ri_4_9, ↓ri_4_10, ↓ri_4_11, ↓ri_4_12, ↓ri_4_15, ↓ri_4_16, ↓ri_4_19, ↓ri_4_20, ↓ri_4_23, ↓ri_4_24, ↓ri_4_25, ↓ri_4_28, ↓ri_4_29, ↓ri_4_30, ↓ri_4_31, ↓ri_4_32, ↓ri_4_33, ↓ri_4_36, ↓ri_4_39, ↓ri_4_40, ↓ri_4_43, ↓ri_4_44, ↓ri_4_47, ↓ri_4_48, ↓ri_4_51, ↓ri_4_52, ↓ri_4_55, ↓ri_4_56, ↓ri_4_57, ↓ri_4_58, ↓ri_4_59, ↓ri_4_60, ↓ri_4_61, ↓ri_4_62, ↓ri_4_65, ↓ri_4_66, ↓ri_4_67, ↓ri_4_70, Option.some.injEq, Prod.mk.injEq, exists_eq_left', exists_eq', exists_and_left, exists_and_right, true_and, and_true, true_or, or_true, and_self, and_assoc, Option.toList_some, Option.toList_none, List.cons_append, List.nil_append, ↓reduceIte, rz_x01, rz_x10, rz_fv_pf, rz_av_pf, rz_qv_pf, rz_ln_pf, rz_co_pf, rz_fv_pa, rz_av_pa, rz_qv_pa, rz_ln_pa, rz_co_pa, rz_fv_pq, rz_av_pq, rz_qv_pq, rz_ln_pq, rz_co_pq, Nat.reduceEqDiff, Nat.add_eq_left, Nat.left_eq_add, Nat.one_ne_zero, Option.map_some, exists_const, hq, p0, p1, l0, a0, e0, e1, e2, e3, k0, k1, k2, k3, v0, v1, v2, v3, ↓if_neg t1, ↓if_neg t2, ↓if_neg t3, ↓if_pos t4, ↓if_neg t5, t6, f0, f1, f2, f3, w1, w2, w3, rz_rf, c0, c1, c2, c3, rz_co_fv p0]
  have hs : rz_sm h (h + 2) hp (rz_pf (rz_pq (rz_pq (rz_pq (rz_pq hp (h + 1) (va_up f 0 (some (h + 2 + 14 * σ 1)))) (h + 1) (va_up (va_up f 0 (some (h + 2 + 14 * σ 1))) 1 (some (h + 2 + 14 * σ 2)))) (h + 1) (va_up (va_up (va_up f 0 (some (h + 2 + 14 * σ 1))) 1 (some (h + 2 + 14 * σ 2))) 2 (some (h + 2 + 14 * σ 3)))) (h + 1) (va_up (va_up (va_up (va_up f 0 (some (h + 2 + 14 * σ 1))) 1 (some (h + 2 + 14 * σ 2))) 2 (some (h + 2 + 14 * σ 3))) 3 (some (h + 2 + 14 * σ 0)))) h 1 (.int (nI hist.length - 1))) := by
    repeat' first | exact rz_sm.rf | refine rz_sm.tr ?_ (rz_sm_pf (by omega) (by omega)) | refine rz_sm.tr ?_ (rz_sm_pq (by omega) (by omega))
  have hlen : nI hist.length - 1 = nI hist.tail.length := by rw [List.length_tail, h4]; decide
  refine kk _ ⟨by rw [List.length_tail]; omega, by simp only [rz_fv_pf, rz_av_pf, rz_qv_pf, rz_ln_pf, rz_co_pf, rz_fv_pa, rz_av_pa, rz_qv_pa, rz_ln_pa, rz_co_pa, rz_fv_pq, rz_av_pq, rz_qv_pq, rz_ln_pq, rz_co_pq, Nat.reduceEqDiff, Nat.add_eq_left, Nat.left_eq_add, Nat.one_ne_zero, Option.map_some, exists_const, Option.some.injEq, Prod.mk.injEq, exists_eq_left', exists_eq', exists_and_left, exists_and_right, true_and, and_true, true_or, or_true, and_self, and_assoc, Option.toList_some, Option.toList_none, List.cons_append, List.nil_append, ↓reduceIte, rz_x01, rz_x10, p0], by simp only [rz_fv_pf, rz_av_pf, rz_qv_pf, rz_ln_pf, rz_co_pf, rz_fv_pa, rz_av_pa, rz_qv_pa, rz_ln_pa, rz_co_pa, rz_fv_pq, rz_av_pq, rz_qv_pq, rz_ln_pq, rz_co_pq, Nat.reduceEqDiff, Nat.add_eq_left, Nat.left_eq_add, Nat.one_ne_zero, Option.map_some, exists_const, Option.some.injEq, Prod.mk.injEq, exists_eq_left', exists_eq', exists_and_left, exists_and_right, true_and, and_true, true_or, or_true, and_self, and_assoc, Option.toList_some, Option.toList_none, List.cons_append, List.nil_append, ↓reduceIte, rz_x01, rz_x10, p1, hlen], _, fun i => σ ((i + 1) % 4), fun i => A ((i + 1) % 4), by simp only [rz_fv_pf, rz_av_pf, rz_qv_pf, rz_ln_pf, rz_co_pf, rz_fv_pa, rz_av_pa, rz_qv_pa, rz_ln_pa, rz_co_pa, rz_fv_pq, rz_av_pq, rz_qv_pq, rz_ln_pq, rz_co_pq, Nat.reduceEqDiff, Nat.add_eq_left, Nat.left_eq_add, Nat.one_ne_zero, Option.map_some, exists_const, Option.some.injEq, Prod.mk.injEq, exists_eq_left', exists_eq', exists_and_left, exists_and_right, true_and, and_true, true_or, or_true, and_self, and_assoc, Option.toList_some, Option.toList_none, List.cons_append, List.nil_append, ↓reduceIte, rz_x01, rz_x10, a0]; rfl, fun i hi => ?_, fun i j hi hj hij => ?_, fun i hi => ?_, fun i s hs => ?_⟩ (hs.wd (by omega) (by omega))
  · refine ⟨?_, (g1 _ (Nat.mod_lt _ (by decide))).2⟩
    match i, hi with
    | 0, _ => rfl
    | 1, _ => rfl
    | 2, _ => rfl
    | 3, _ => rfl
  · have := g2 _ _ (Nat.mod_lt (i + 1) (by decide)) (Nat.mod_lt (j + 1) (by decide)) hij
    omega
  · have h9 := (g1 _ (Nat.mod_lt (i + 1) (show 0 < 4 by decide))).2
    exact rz_ST_sm (g3 _ (Nat.mod_lt (i + 1) (by decide))) hs (by omega)
  · rw [List.getElem?_tail] at hs
    have hl := (List.getElem?_eq_some_iff.mp hs).1
    have e9 : (i + 1) % 4 = i + 1 := Nat.mod_eq_of_lt (by omega)
    show A ((i + 1) % 4) = s
    rw [e9]
    exact g4 _ s hs
/-- a state is recorded -/
def rz_rec (hist : List rz_AS) (s : rz_AS) : List rz_AS := (if hist.length < 4 then hist else hist.tail) ++ [s]
set_option maxHeartbeats 4000000 in
set_option maxRecDepth 100000 in
theorem c_H_put_room {d h q : Nat} {hist : List rz_AS} {s : rz_AS} {hp : rz_Hp} {R : Option Value → rz_Hp → Prop} {l2 : Option Value} (k : rz_HI h hist hp) (hs : rz_ST q s hp) (hq : q + 14 ≤ h ∨ h + 58 ≤ q) (h4 : hist.length < 4) (kk : ∀ hp', rz_HI h (hist ++ [s]) hp' → rz_sm h (h + 58) hp hp' → R none hp') : rz_ev (d + 4) 3 12 [some (.ref h), some (.ref q), l2] [] hp R := by
  obtain ⟨hL, p0, p1, f, σ, A, a0, g1, g2, g3, g4⟩ := id k
  obtain ⟨fi, si⟩ := g1 _ h4
  have hh := fun R => c_H_stateAt (d := d + 3) p0 a0 h4 fi (R := R)
  have hco : rz_co hp (h + 2 + 14 * σ hist.length) = some 6 := by
    have := g3 _ h4
    obtain ⟨L, fl, am, lat, rd, laid, ci, co, tb⟩ := A hist.length
    exact rz_co_fv this.1.1
  have hco2 : rz_co hp h = some 0 := rz_co_fv p0
  simp only [↓ri_3_12, ↓ri_3_13, ↓ri_3_14, ↓ri_3_17, ↓ri_3_20, ↓ri_3_21, ↓ri_3_22, ↓ri_3_22N, ↓ri_3_25, ↓ri_3_26, ↓ri_3_27, Option.some.injEq, Prod.mk.injEq, exists_eq_left', exists_eq', exists_and_left, exists_and_right, true_and, and_true, true_or, or_true, and_self, and_assoc, Option.toList_some, Option.toList_none, List.cons_append, List.nil_append, ↓reduceIte, rz_x01, rz_x10, p1, hco2, hh, hco]
  refine c_T_copyFrom (d := d) (g3 _ h4) hs (by omega) (fun h1 g5 hs1 => ?_)
  have r1 := hs1.fv (a := h) (ci := 0) (j := 1) (by omega)
  rw [p1] at r1
  have r0 := hs1.fv (a := h) (ci := 0) (j := 0) (by omega)
  rw [p0] at r0
  have ra := hs1.qv (a := h + 1) (by omega)
  rw [a0] at ra
  simp only [↓ri_3_30, ↓ri_3_31, ↓ri_3_32, ↓ri_3_35, ↓ri_3_36, ↓ri_3_37, ↓ri_3_40, Option.some.injEq, Prod.mk.injEq, exists_eq_left', exists_eq', exists_and_left, exists_and_right, true_and, and_true, true_or, or_true, and_self, and_assoc, Option.toList_some, Option.toList_none, List.cons_append, List.nil_append, ↓reduceIte, rz_x01, rz_x10, r1, nI_1]
  have hs2 : rz_sm h (h + 1) h1 (rz_pf h1 h 1 (.int (nI (hist.length + 1)))) := rz_sm_pf (by omega) (by omega)
  refine kk _ ⟨by rw [List.length_append, List.length_singleton]; omega, by simp only [rz_fv_pf, rz_av_pf, rz_qv_pf, rz_ln_pf, rz_co_pf, rz_fv_pa, rz_av_pa, rz_qv_pa, rz_ln_pa, rz_co_pa, rz_fv_pq, rz_av_pq, rz_qv_pq, rz_ln_pq, rz_co_pq, Nat.reduceEqDiff, Nat.add_eq_left, Nat.left_eq_add, Nat.one_ne_zero, Option.map_some, exists_const, Option.some.injEq, Prod.mk.injEq, exists_eq_left', exists_eq', exists_and_left, exists_and_right, true_and, and_true, true_or, or_true, and_self, and_assoc, Option.toList_some, Option.toList_none, List.cons_append, List.nil_append, ↓reduceIte, rz_x01, rz_x10, r0], by simp only [rz_fv_pf, rz_av_pf, rz_qv_pf, rz_ln_pf, rz_co_pf, rz_fv_pa, rz_av_pa, rz_qv_pa, rz_ln_pa, rz_co_pa, rz_fv_pq, rz_av_pq, rz_qv_pq, rz_ln_pq, rz_co_pq, Nat.reduceEqDiff, Nat.add_eq_left, Nat.left_eq_add, Nat.one_ne_zero, Option.map_some, exists_const, Option.some.injEq, Prod.mk.injEq, exists_eq_left', exists_eq', exists_and_left, exists_and_right, true_and, and_true, true_or, or_true, and_self, and_assoc, Option.toList_some, Option.toList_none, List.cons_append, List.nil_append, ↓reduceIte, rz_x01, rz_x10, r1, List.length_append, List.length_singleton], f, σ, fun i => if i = hist.length then s else A i, by simp only [rz_fv_pf, rz_av_pf, rz_qv_pf, rz_ln_pf, rz_co_pf, rz_fv_pa, rz_av_pa, rz_qv_pa, rz_ln_pa, rz_co_pa, rz_fv_pq, rz_av_pq, rz_qv_pq, rz_ln_pq, rz_co_pq, Nat.reduceEqDiff, Nat.add_eq_left, Nat.left_eq_add, Nat.one_ne_zero, Option.map_some, exists_const, Option.some.injEq, Prod.mk.injEq, exists_eq_left', exists_eq', exists_and_left, exists_and_right, true_and, and_true, true_or, or_true, and_self, and_assoc, Option.toList_some, Option.toList_none, List.cons_append, List.nil_append, ↓reduceIte, rz_x01, rz_x10, ra], g1, g2, fun i hi => ?_, fun i x hx => ?_⟩ ((hs1.wd (by omega) (by omega)).tr (hs2.wd (by omega) (by omega)))
  · by_cases hi2 : i = hist.length
    · subst hi2
      show rz_ST _ (if hist.length = hist.length then s else A hist.length) _
      rw [if_pos rfl]
      exact rz_ST_sm g5 hs2 (by omega)
    · show rz_ST _ (if i = hist.length then s else A i) _
      rw [if_neg hi2]
      have s1 := (g1 i hi).2
      have s2 : σ i ≠ σ hist.length := fun e => hi2 (g2 _ _ hi h4 e)
      exact rz_ST_sm (rz_ST_sm (g3 i hi) hs1 (by omega)) hs2 (by omega)
  · show (if i = hist.length then s else A i) = x
    by_cases hi2 : i < hist.length
    · rw [List.getElem?_append_left hi2] at hx
      rw [if_neg (by omega)]
      exact g4 i x hx
    · have hl := (List.getElem?_eq_some_iff.mp hx).1
      rw [List.length_append, List.length_singleton] at hl
      have hi3 : i = hist.length := by omega
      subst hi3
      rw [List.getElem?_append_right (Nat.le_refl _), Nat.sub_self] at hx
      cases hx
      rw [if_pos rfl]
set_option maxHeartbeats 4000000 in
set_option maxRecDepth 100000 in
theorem c_H_put {d h q : Nat} {hist : List rz_AS} {s : rz_AS} {hp : rz_Hp} {R : Option Value → rz_Hp → Prop} (k : rz_HI h hist hp) (hs : rz_ST q s hp) (hq : q + 14 ≤ h ∨ h + 58 ≤ q) (kk : ∀ hp', rz_HI h (rz_rec hist s) hp' → rz_sm h (h + 58) hp hp' → R none hp') : rz_ev (d + 4) 3 0 [some (.ref h), some (.ref q), none] [] hp R := by
  obtain ⟨hL, p0, p1, -⟩ := id k
  unfold rz_rec at kk
  have hco2 : rz_co hp h = some 0 := rz_co_fv p0
  by_cases h4 : hist.length < 4
  · rw [if_pos h4] at kk
    have c1 : nI hist.length < 4 := nI_lt (b := 4) h4 (by decide)
    simp only [↓ri_3_0, ↓ri_3_1, ↓ri_3_4, ↓ri_3_5, ↓ri_3_8, ↓ri_3_9, Option.some.injEq, Prod.mk.injEq, exists_eq_left', exists_eq', exists_and_left, exists_and_right, true_and, and_true, true_or, or_true, and_self, and_assoc, Option.toList_some, Option.toList_none, List.cons_append, List.nil_append, ↓reduceIte, rz_x01, rz_x10, p1, ↓if_pos c1]
    exact c_H_put_room k hs hq h4 kk
  · rw [if_neg h4] at kk
    have c1 : ¬ nI hist.length < 4 := nI_nlt (b := 4) (by omega) (by omega)
    simp only [↓ri_3_0, ↓ri_3_1, ↓ri_3_4, ↓ri_3_5, ↓ri_3_8, ↓ri_3_9, Option.some.injEq, Prod.mk.injEq, exists_eq_left', exists_eq', exists_and_left, exists_and_right, true_and, and_true, true_or, or_true, and_self, and_assoc, Option.toList_some, Option.toList_none, List.cons_append, List.nil_append, ↓reduceIte, rz_x01, rz_x10, p1, ↓if_neg c1, hco2]
    refine c_H_dropOldest (d := d + 2) k (by omega) (fun h1 k1 hs1 => ?_)
    simp only [Option.some.injEq, Prod.mk.injEq, exists_eq_left', exists_eq', exists_and_left, exists_and_right, true_and, and_true, true_or, or_true, and_self, and_assoc, Option.toList_some, Option.toList_none, List.cons_append, List.nil_append, ↓reduceIte, rz_x01, rz_x10]
    exact c_H_put_room k1 (rz_ST_sm hs hs1 (by omega)) hq (by rw [List.length_tail]; omega) (fun h2 k2 hs2 => kk h2 k2 (hs1.tr hs2))
set_option maxHeartbeats 4000000 in
set_option maxRecDepth 100000 in
theorem c_H_giveLatestTo {d h p : Nat} {hist : List rz_AS} {s : rz_AS} {hp : rz_Hp} {R : Option Value → rz_Hp → Prop} (k : rz_HI h hist hp) (hs : rz_ST p s hp) (hp9 : p + 14 ≤ h) (kk : ∀ hm hp' t, ((hist = [] ∧ t = s) ∨ hist.getLast? = some t) → rz_ST p t hm → rz_HI h hist.dropLast hp' → rz_sm p (p + 14) hp hm → rz_sm h (h + 58) hm hp' → R (some (.int (if hist.length = 0 then -5 else nI (hist.length - 1)))) hp') : rz_ev (d + 4) 5 0 [some (.ref h), some (.ref p), none] [] hp R := by
  obtain ⟨hL, p0, p1, f, σ, A, a0, g1, g2, g3, g4⟩ := id k
  have hco2 : rz_co hp h = some 0 := rz_co_fv p0
  by_cases h0 : hist.length = 0
  · rw [if_pos h0] at kk
    have e1 : nI hist.length - 1 = -1 := by rw [h0]; decide
    have hh := fun R => c_H_stateAtN (d := d + 3) (h := h) (hp := hp) (R := R)
    have hnil : hist = [] := List.length_eq_zero_iff.mp h0
    simp only [↓ri_5_0, ↓ri_5_1, ↓ri_5_2, ↓ri_5_5, ↓ri_5_6, ↓ri_5_7, Option.some.injEq, Prod.mk.injEq, exists_eq_left', exists_eq', exists_and_left, exists_and_right, true_and, and_true, true_or, or_true, and_self, and_assoc, Option.toList_some, Option.toList_none, List.cons_append, List.nil_append, ↓reduceIte, rz_x01, rz_x10, p1, hco2, e1, hh]
    rw [rz_e_astore_nN (lv := [some (.ref h), some (.ref p), none]) (show decode (rz_B 5) 10 = .ok (.astore_n 2, 1) by decide +kernel) (show 2 < 3 by decide) (Or.inl (by decide))]
    rw [rz_e_aload_nN (show decode (rz_B 5) 11 = .ok (.aload_n 2, 1) by decide +kernel) rfl]
    show rz_ev (d + 4) 5 12 [some (.ref h), some (.ref p), some .null] [.null] hp R
    simp only [↓ri_5_12, ↓ri_5_12N, ↓ri_5_15, ↓ri_5_16, ↓ri_5_16N, ↓ri_5_19, ↓ri_5_21, ↓ri_5_22, ↓ri_5_23, ↓ri_5_24, ↓ri_5_27, ↓ri_5_28, ↓ri_5_29, ↓ri_5_32, ↓ri_5_33, ↓ri_5_34, ↓ri_5_37, ↓ri_5_38, ↓ri_5_41, Option.some.injEq, Prod.mk.injEq, exists_eq_left', exists_eq', exists_and_left, exists_and_right, true_and, and_true, true_or, or_true, and_self, and_assoc, Option.toList_some, Option.toList_none, List.cons_append, List.nil_append, ↓reduceIte, rz_x01, rz_x10]
    refine kk hp hp s (Or.inl ⟨hnil, rfl⟩) hs ?_ rz_sm.rf rz_sm.rf
    rw [hnil] at k ⊢
    exact k
  · rw [if_neg h0] at kk
    have hl : hist.length - 1 < 4 := by omega
    have e1 : nI hist.length - 1 = nI (hist.length - 1) := by rw [show (1 : Int32) = nI 1 from rfl, pk_sub (by omega)]
    obtain ⟨fi, si⟩ := g1 _ hl
    have hh := fun R => c_H_stateAt (d := d + 3) p0 a0 hl fi (R := R)
    have hco : rz_co hp p = some 6 := by
      obtain ⟨L, fl, am, lat, rd, laid, ci, co, tb⟩ := s
      exact rz_co_fv hs.1.1
    simp only [↓ri_5_0, ↓ri_5_1, ↓ri_5_2, ↓ri_5_5, ↓ri_5_6, ↓ri_5_7, ↓ri_5_10, ↓ri_5_11, ↓ri_5_12, ↓ri_5_12N, ↓ri_5_15, ↓ri_5_16, ↓ri_5_16N, ↓ri_5_19, ↓ri_5_21, ↓ri_5_22, ↓ri_5_23, ↓ri_5_24, Option.some.injEq, Prod.mk.injEq, exists_eq_left', exists_eq', exists_and_left, exists_and_right, true_and, and_true, true_or, or_true, and_self, and_assoc, Option.toList_some, Option.toList_none, List.cons_append, List.nil_append, ↓reduceIte, rz_x01, rz_x10, p1, hco2, e1, hh, hco]
    refine c_T_copyFrom (d := d) hs (g3 _ hl) (by omega) (fun h1 g5 hs1 => ?_)
    have k1 := rz_HI_sm k hs1 (by omega)
    obtain ⟨-, r0, r1, f1, σ1, A1, ra, q1, q2, q3, q4⟩ := k1
    have hs2 : rz_sm h (h + 1) h1 (rz_pf h1 h 1 (.int (nI (hist.length - 1)))) := rz_sm_pf (by omega) (by omega)
    simp only [↓ri_5_27, ↓ri_5_28, ↓ri_5_29, ↓ri_5_32, ↓ri_5_33, ↓ri_5_34, ↓ri_5_37, ↓ri_5_38, ↓ri_5_41, Option.some.injEq, Prod.mk.injEq, exists_eq_left', exists_eq', exists_and_left, exists_and_right, true_and, and_true, true_or, or_true, and_self, and_assoc, Option.toList_some, Option.toList_none, List.cons_append, List.nil_append, ↓reduceIte, rz_x01, rz_x10, rz_fv_pf, rz_av_pf, rz_qv_pf, rz_ln_pf, rz_co_pf, rz_fv_pa, rz_av_pa, rz_qv_pa, rz_ln_pa, rz_co_pa, rz_fv_pq, rz_av_pq, rz_qv_pq, rz_ln_pq, rz_co_pq, Nat.reduceEqDiff, Nat.add_eq_left, Nat.left_eq_add, Nat.one_ne_zero, Option.map_some, exists_const, r1, e1]
    refine kk h1 _ (A (hist.length - 1)) (Or.inr ?_) g5 ⟨by rw [List.length_dropLast]; omega, by simp only [rz_fv_pf, rz_av_pf, rz_qv_pf, rz_ln_pf, rz_co_pf, rz_fv_pa, rz_av_pa, rz_qv_pa, rz_ln_pa, rz_co_pa, rz_fv_pq, rz_av_pq, rz_qv_pq, rz_ln_pq, rz_co_pq, Nat.reduceEqDiff, Nat.add_eq_left, Nat.left_eq_add, Nat.one_ne_zero, Option.map_some, exists_const, Option.some.injEq, Prod.mk.injEq, exists_eq_left', exists_eq', exists_and_left, exists_and_right, true_and, and_true, true_or, or_true, and_self, and_assoc, Option.toList_some, Option.toList_none, List.cons_append, List.nil_append, ↓reduceIte, rz_x01, rz_x10, r0], by simp only [rz_fv_pf, rz_av_pf, rz_qv_pf, rz_ln_pf, rz_co_pf, rz_fv_pa, rz_av_pa, rz_qv_pa, rz_ln_pa, rz_co_pa, rz_fv_pq, rz_av_pq, rz_qv_pq, rz_ln_pq, rz_co_pq, Nat.reduceEqDiff, Nat.add_eq_left, Nat.left_eq_add, Nat.one_ne_zero, Option.map_some, exists_const, Option.some.injEq, Prod.mk.injEq, exists_eq_left', exists_eq', exists_and_left, exists_and_right, true_and, and_true, true_or, or_true, and_self, and_assoc, Option.toList_some, Option.toList_none, List.cons_append, List.nil_append, ↓reduceIte, rz_x01, rz_x10, r1, List.length_dropLast], f1, σ1, A1, by simp only [rz_fv_pf, rz_av_pf, rz_qv_pf, rz_ln_pf, rz_co_pf, rz_fv_pa, rz_av_pa, rz_qv_pa, rz_ln_pa, rz_co_pa, rz_fv_pq, rz_av_pq, rz_qv_pq, rz_ln_pq, rz_co_pq, Nat.reduceEqDiff, Nat.add_eq_left, Nat.left_eq_add, Nat.one_ne_zero, Option.map_some, exists_const, Option.some.injEq, Prod.mk.injEq, exists_eq_left', exists_eq', exists_and_left, exists_and_right, true_and, and_true, true_or, or_true, and_self, and_assoc, Option.toList_some, Option.toList_none, List.cons_append, List.nil_append, ↓reduceIte, rz_x01, rz_x10, ra], q1, q2, fun i hi => ?_, fun i x hx => ?_⟩ hs1 (hs2.wd (by omega) (by omega))
    · rw [List.getLast?_eq_getElem?]
      obtain ⟨x, hx⟩ := rz_ge (L := hist) (i := hist.length - 1) (by omega)
      rw [hx, g4 _ x hx]
    · have := (q1 i hi).2
      exact rz_ST_sm (q3 i hi) hs2 (by omega)
    · rw [List.getElem?_dropLast] at hx
      split at hx
      · exact q4 i x hx
      · cases hx
