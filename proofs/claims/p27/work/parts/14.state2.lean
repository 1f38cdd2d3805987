/-! State goes on -/
theorem rz_mo_key (p fl : Int32) (x : rz_En) : (rz_mo p fl x).2.1 = x.2.1 ∧ (rz_mo p fl x).1 = x.1 ∧ (rz_mo p fl x).2.2.1 = x.2.2.1 := by
  unfold rz_mo
  split <;> exact ⟨rfl, rfl, rfl⟩
theorem rz_kr_re {L : List rz_En} {e : rz_En} (h : rz_kr L) : rz_kr (rz_re L e) := by
  unfold rz_re
  split
  · exact h
  · intro x hx
    obtain ⟨y, hy, rfl⟩ := List.mem_map.mp hx
    rw [(rz_mo_key _ _ y).1]
    exact h y hy
theorem rz_kr_er {L : List rz_En} {j : Nat} (h : rz_kr L) : rz_kr (L.eraseIdx j) := fun x hx => h x (List.mem_of_mem_eraseIdx hx)
theorem rz_I0_out {s : rz_AS} (h : rz_I0 s) : rz_I0 (rz_out_ s).2 := by
  obtain ⟨L, fl, am, lat, rd, laid, ci, co, tb⟩ := s
  cases hn : rz_nxf L with
  | none => rw [rz_nxf_none hn] at h ⊢; exact h
  | some j =>
    obtain ⟨e, he, -, -⟩ := rz_nxf_some hn
    obtain ⟨e1, he1, -⟩ := rz_re_at he
    rw [rz_out_eq hn he he1]
    refine ⟨rz_kr_er (rz_kr_re h.1), ?_⟩
    unfold rz_reF
    split
    · exact h.2
    · exact h.1 e (List.mem_of_getElem? he)
theorem rz_out_len {L : List rz_En} {r : Int32 × Int32 × List rz_La × (Nat → Int32) × Int32 × Int32 × Int32 × Int32} {j : Nat} (hn : rz_nxf L = some j) : (rz_out_ (L, r)).2.1.length = L.length - 1 := by
  obtain ⟨fl, am, lat, rd, laid, ci, co, tb⟩ := r
  obtain ⟨e, he, -, -⟩ := rz_nxf_some hn
  obtain ⟨e1, he1, -⟩ := rz_re_at he
  rw [rz_out_eq hn he he1]
  show ((rz_re L e).eraseIdx j).length = _
  rw [List.length_eraseIdx_of_lt (by rw [rz_re_len]; exact (List.getElem?_eq_some_iff.mp he).1), rz_re_len]
/-- entries come out as long as the next key isn't greater: how many, and what is then -/
def rz_ut : Nat → rz_AS → Int32 → Nat × rz_AS
  | 0, s, _ => (0, s)
  | n + 1, s, key => match rz_nxf s.1 with
    | none => (0, s)
    | some j => if key < (s.1.getD j (0, 0, 0, 0, 0)).2.1 then (0, s) else ((rz_ut n (rz_out_ s).2 key).1 + 1, (rz_ut n (rz_out_ s).2 key).2)
theorem rz_ut_le (n : Nat) (s : rz_AS) (key : Int32) : (rz_ut n s key).1 ≤ n := by
  induction n generalizing s with
  | zero => exact Nat.le_refl _
  | succ n ih =>
    unfold rz_ut
    split
    · exact Nat.zero_le _
    · split
      · exact Nat.zero_le _
      · exact Nat.succ_le_succ (ih _)
theorem rz_I0_ut (n : Nat) (s : rz_AS) (key : Int32) (h : rz_I0 s) : rz_I0 (rz_ut n s key).2 := by
  induction n generalizing s with
  | zero => exact h
  | succ n ih =>
    unfold rz_ut
    split
    · exact h
    · split
      · exact h
      · exact ih _ (rz_I0_out h)
def rz_uA (n : Nat) : Int32 := if n = 0 then -5 else nI n
noncomputable def rz_upto_ : rz_AS → Int32 → Int32 × rz_AS := haveI : (p : Prop) → Decidable p := Classical.propDecidable; fun s key => if ¬ rz_key key then (-2, s) else (rz_uA (rz_ut 40 s key).1, (rz_ut 40 s key).2)
set_option maxHeartbeats 4000000 in
set_option maxRecDepth 100000 in
theorem c_T_letOutUpTo_loop {d p : Nat} {key : Int32} {R : Option Value → rz_Hp → Prop} {hp : rz_Hp} : ∀ n, n ≤ 40 → ∀ (m : Nat) (s : rz_AS) (hp1 : rz_Hp) (l4 : Option Value), m + n ≤ 40 → rz_ST p s hp1 → rz_I0 s → rz_sm p (p + 14) hp hp1 → (∀ hp', rz_ST p (rz_ut n s key).2 hp' → rz_sm p (p + 14) hp hp' → R (some (.int (rz_uA (m + (rz_ut n s key).1)))) hp') → rz_ev (d + 4) 78 14 [some (.ref p), some (.int key), some (.int (nI m)), some (.int (nI (40 - n))), l4] [] hp1 R := by
  have fin : ∀ (m : Nat) (hp1 : rz_Hp) (l3 l4 : Option Value), m ≤ 40 → R (some (.int (rz_uA m))) hp1 → rz_ev (d + 4) 78 65 [some (.ref p), some (.int key), some (.int (nI m)), l3, l4] [] hp1 R := by
    intro m hp1 l3 l4 hm h
    unfold rz_uA at h
    by_cases h0 : m = 0
    · rw [if_pos h0] at h
      have c1 : nI m = 0 := by rw [h0]; rfl
      simp only [↓ri_78_65, ↓ri_78_66, ↓ri_78_69, ↓ri_78_71, ↓ri_78_74, ↓ri_78_75, Option.some.injEq, Prod.mk.injEq, exists_eq_left', exists_eq', exists_and_left, exists_and_right, true_and, and_true, true_or, or_true, and_self, and_assoc, Option.toList_some, Option.toList_none, List.cons_append, List.nil_append, ↓reduceIte, rz_x01, rz_x10, ↓if_pos c1]
      exact h
    · rw [if_neg h0] at h
      have c1 : ¬ nI m = 0 := nI_ne0 (by omega) (by omega)
      simp only [↓ri_78_65, ↓ri_78_66, ↓ri_78_69, ↓ri_78_71, ↓ri_78_74, ↓ri_78_75, Option.some.injEq, Prod.mk.injEq, exists_eq_left', exists_eq', exists_and_left, exists_and_right, true_and, and_true, true_or, or_true, and_self, and_assoc, Option.toList_some, Option.toList_none, List.cons_append, List.nil_append, ↓reduceIte, rz_x01, rz_x10, ↓if_neg c1]
      exact h
  intro n
  induction n with
  | zero =>
    intro _ m s hp1 l4 hm h hI hs kk
    have c1 : (40 : Int32) ≤ nI (40 - 0) := by decide
    rw [ri_78_14]
    simp only [↓ri_78_15, ↓ri_78_17, Option.some.injEq, Prod.mk.injEq, exists_eq_left', exists_eq', exists_and_left, exists_and_right, true_and, and_true, true_or, or_true, and_self, and_assoc, Option.toList_some, Option.toList_none, List.cons_append, List.nil_append, ↓reduceIte, rz_x01, rz_x10, ↓if_pos c1]
    exact fin m hp1 _ _ (by omega) (kk hp1 h hs)
  | succ n ih =>
    intro hn m s hp1 l4 hm h hI hs kk
    have c1 : ¬ (40 : Int32) ≤ nI (40 - (n + 1)) := nI_ge (b := 40) (by omega) (by decide)
    obtain ⟨L, fl, am, lat, rd, laid, ci, co, tb⟩ := s
    obtain ⟨⟨p0, p1, p2, p3, p4, p5⟩, hP, hT, hR⟩ := id h
    have hco : rz_co hp1 (p + 1) = some 3 := rz_co_fv hP.2.1.1
    rw [ri_78_14]
    unfold rz_ut at kk
    cases hx : rz_nxf L with
    | none =>
      have h0 := rz_nxf_none hx
      subst h0
      simp only [hx] at kk
      have hq := fun R => c_P_indexOfNext0 (d := d + 1) hP (R := R)
      simp only [↓ri_78_15, ↓ri_78_17, ↓ri_78_20, ↓ri_78_21, ↓ri_78_24, ↓ri_78_27, ↓ri_78_29, ↓ri_78_31, ↓ri_78_32, ↓ri_78_35, ↓ri_78_36, ↓ri_78_39, ↓ri_78_41, ↓ri_78_44, ↓ri_78_45, ↓ri_78_48, ↓ri_78_51, ↓ri_78_52, ↓ri_78_55, ↓ri_78_56, ↓ri_78_59, ↓ri_78_62, Option.some.injEq, Prod.mk.injEq, exists_eq_left', exists_eq', exists_and_left, exists_and_right, true_and, and_true, true_or, or_true, and_self, and_assoc, Option.toList_some, Option.toList_none, List.cons_append, List.nil_append, ↓reduceIte, rz_x01, rz_x10, ↓if_neg c1, p0, hco, hq]
      exact fin m hp1 _ _ (by omega) (kk hp1 h hs)
    | some j =>
      have hnx := rz_nxf_some hx
      obtain ⟨e, he, -, -⟩ := id hnx
      have hj := (List.getElem?_eq_some_iff.mp he).1
      have hL := hP.1
      have hd : L.getD j (0, 0, 0, 0, 0) = e := by rw [List.getD_eq_getElem?_getD, he]; rfl
      simp only [hx, hd] at kk
      have hq := fun R => c_P_indexOfNext (d := d + 1) hP hnx (R := R)
      have hq2 := fun R => c_P_keyAt (d := d + 2) hP he (R := R)
      have c2 : ¬ nI j = -1 := fun q => nI_pos (show j < 2 ^ 31 by omega) (by rw [q]; decide)
      by_cases h1 : key < e.2.1
      · simp only [if_pos h1] at kk
        simp only [↓ri_78_15, ↓ri_78_17, ↓ri_78_20, ↓ri_78_21, ↓ri_78_24, ↓ri_78_27, ↓ri_78_29, ↓ri_78_31, ↓ri_78_32, ↓ri_78_35, ↓ri_78_36, ↓ri_78_39, ↓ri_78_41, ↓ri_78_44, ↓ri_78_45, ↓ri_78_48, ↓ri_78_51, ↓ri_78_52, ↓ri_78_55, ↓ri_78_56, ↓ri_78_59, ↓ri_78_62, Option.some.injEq, Prod.mk.injEq, exists_eq_left', exists_eq', exists_and_left, exists_and_right, true_and, and_true, true_or, or_true, and_self, and_assoc, Option.toList_some, Option.toList_none, List.cons_append, List.nil_append, ↓reduceIte, rz_x01, rz_x10, ↓if_neg c1, p0, hco, hq, ↓if_neg c2, hq2, ↓if_neg (Int32.not_le.mpr h1)]
        exact fin m hp1 _ _ (by omega) (kk hp1 h hs)
      · simp only [if_neg h1] at kk
        simp only [↓ri_78_15, ↓ri_78_17, ↓ri_78_20, ↓ri_78_21, ↓ri_78_24, ↓ri_78_27, ↓ri_78_29, ↓ri_78_31, ↓ri_78_32, ↓ri_78_35, ↓ri_78_36, ↓ri_78_39, ↓ri_78_41, ↓ri_78_44, ↓ri_78_45, ↓ri_78_48, ↓ri_78_51, ↓ri_78_52, ↓ri_78_55, ↓ri_78_56, ↓ri_78_59, ↓ri_78_62, Option.some.injEq, Prod.mk.injEq, exists_eq_left', exists_eq', exists_and_left, exists_and_right, true_and, and_true, true_or, or_true, and_self, and_assoc, Option.toList_some, Option.toList_none, List.cons_append, List.nil_append, ↓reduceIte, rz_x01, rz_x10, ↓if_neg c1, p0, hco, hq, ↓if_neg c2, hq2, ↓if_pos (Int32.not_lt.mp h1), rz_co_fv p0]
        refine c_T_letOut (d := d) h hI (fun h2 hS2 hs2 => ?_)
        simp only [↓ri_78_15, ↓ri_78_17, ↓ri_78_20, ↓ri_78_21, ↓ri_78_24, ↓ri_78_27, ↓ri_78_29, ↓ri_78_31, ↓ri_78_32, ↓ri_78_35, ↓ri_78_36, ↓ri_78_39, ↓ri_78_41, ↓ri_78_44, ↓ri_78_45, ↓ri_78_48, ↓ri_78_51, ↓ri_78_52, ↓ri_78_55, ↓ri_78_56, ↓ri_78_59, ↓ri_78_62, Option.some.injEq, Prod.mk.injEq, exists_eq_left', exists_eq', exists_and_left, exists_and_right, true_and, and_true, true_or, or_true, and_self, and_assoc, Option.toList_some, Option.toList_none, List.cons_append, List.nil_append, ↓reduceIte, rz_x01, rz_x10, nI_1]
        have e1 : 40 - (n + 1) + 1 = 40 - n := by omega
        rw [e1]
        refine ih (by omega) (m + 1) _ h2 _ (by omega) hS2 (rz_I0_out hI) (hs.tr hs2) (fun hp' g1 g2 => ?_)
        have := kk hp' g1 g2
        rw [show m + ((rz_ut n (rz_out_ (L, fl, am, lat, rd, laid, ci, co, tb)).2 key).1 + 1) = m + 1 + (rz_ut n (rz_out_ (L, fl, am, lat, rd, laid, ci, co, tb)).2 key).1 by omega] at this
        exact this
set_option maxHeartbeats 4000000 in
set_option maxRecDepth 100000 in
theorem c_T_letOutUpTo {d p : Nat} {s : rz_AS} {key : Int32} {hp : rz_Hp} (h : rz_ST p s hp) (hI : rz_I0 s) {R : Option Value → rz_Hp → Prop} (kk : ∀ hp', rz_ST p (rz_upto_ s key).2 hp' → rz_sm p (p + 14) hp hp' → R (some (.int (rz_upto_ s key).1)) hp') : rz_ev (d + 4) 78 0 [some (.ref p), some (.int key), none, none, none] [] hp R := by
  unfold rz_upto_ at kk
  by_cases hk : rz_key key
  · have tk := fun R => (c_C_isKey (d := d + 3) (hp := hp) (R := R)).1 hk
    simp only [hk, not_true_eq_false, if_false] at kk
    simp only [↓ri_78_0, ↓ri_78_1, ↓ri_78_4, ↓ri_78_7, ↓ri_78_9, ↓ri_78_10, ↓ri_78_11, ↓ri_78_12, ↓ri_78_13, Option.some.injEq, Prod.mk.injEq, exists_eq_left', exists_eq', exists_and_left, exists_and_right, true_and, and_true, true_or, or_true, and_self, and_assoc, Option.toList_some, Option.toList_none, List.cons_append, List.nil_append, ↓reduceIte, rz_x01, rz_x10, tk]
    have := c_T_letOutUpTo_loop (d := d) (key := key) (R := R) 40 (Nat.le_refl _) 0 s hp none (by omega) h hI rz_sm.rf (fun hp' g1 g2 => by rw [Nat.zero_add]; exact kk hp' g1 g2)
    rw [nI_0] at this
    exact this
  · have tk := fun R => (c_C_isKey (d := d + 3) (hp := hp) (R := R)).2 hk
    simp only [hk, not_false_eq_true, if_true] at kk
    simp only [↓ri_78_0, ↓ri_78_1, ↓ri_78_4, ↓ri_78_7, ↓ri_78_9, ↓ri_78_10, ↓ri_78_11, ↓ri_78_12, ↓ri_78_13, Option.some.injEq, Prod.mk.injEq, exists_eq_left', exists_eq', exists_and_left, exists_and_right, true_and, and_true, true_or, or_true, and_self, and_assoc, Option.toList_some, Option.toList_none, List.cons_append, List.nil_append, ↓reduceIte, rz_x01, rz_x10, tk]
    exact kk _ h rz_sm.rf
/-- the place of an entry by its number -/
def rz_fi (L : List rz_En) (n : Int32) : Option Nat := L.findIdx? (fun e => decide (e.1 = n))
theorem rz_fi_some {L : List rz_En} {n : Int32} {j : Nat} (h : rz_fi L n = some j) : ∃ e, L[j]? = some e ∧ e.1 = n := by
  unfold rz_fi at h
  rw [List.findIdx?_eq_some_iff_getElem] at h
  obtain ⟨hj, h1, -⟩ := h
  exact ⟨L[j], List.getElem?_eq_getElem hj, by simpa using h1⟩
noncomputable def rz_less_ : rz_AS → Int32 → Int32 → Int32 × rz_AS := haveI : (p : Prop) → Decidable p := Classical.propDecidable; fun (L, fl, am, lat, rd, laid, ci, co, tb) n key => match rz_fi L n with
  | none => (-1, L, fl, am, lat, rd, laid, ci, co, tb)
  | some j => if ¬ rz_key key then (-2, L, fl, am, lat, rd, laid, ci, co, tb) else if key < fl ∨ (L.getD j (0, 0, 0, 0, 0)).2.1 < key then (-4, L, fl, am, lat, rd, laid, ci, co, tb) else
    if key = (L.getD j (0, 0, 0, 0, 0)).2.1 then (-5, L, fl, am, lat, rd, laid, ci, co, tb) else
    (rz_pl fl key, rz_le L j (L.getD j (0, 0, 0, 0, 0)) key (rz_pl fl key), fl, if rz_pl fl key = (L.getD j (0, 0, 0, 0, 0)).2.2.2.2 then am else am + 1, lat, rd, laid, ci, co, tb)
set_option maxHeartbeats 4000000 in
set_option maxRecDepth 100000 in
theorem c_T_makeLess {d p : Nat} {s : rz_AS} {n key : Int32} {hp : rz_Hp} (h : rz_ST p s hp) (hI : rz_I0 s) {R : Option Value → rz_Hp → Prop} (kk : ∀ hp', rz_ST p (rz_less_ s n key).2 hp' → rz_sm p (p + 14) hp hp' → R (some (.int (rz_less_ s n key).1)) hp') : rz_ev (d + 3) 79 0 [some (.ref p), some (.int n), some (.int key), none, none] [] hp R := by
  obtain ⟨L, fl, am, lat, rd, laid, ci, co, tb⟩ := s
  obtain ⟨hkr, c, hc, hf⟩ := hI
  obtain ⟨⟨p0, p1, p2, p3, p4, p5⟩, hP, hT, hR⟩ := id h
  have hco : rz_co hp (p + 1) = some 3 := rz_co_fv hP.2.1.1
  have hq := fun R => c_P_indexOf (d := d) (n := n) hP (R := R)
  have hqf := fun R => c_P_floor (d := d + 2) hP (R := R)
  unfold rz_less_ at kk
  cases hx : rz_fi L n with
  | none =>
    simp only [hx] at kk
    unfold rz_fi at hx
    simp only [↓ri_79_0, ↓ri_79_1, ↓ri_79_4, ↓ri_79_5, ↓ri_79_8, ↓ri_79_9, ↓ri_79_10, ↓ri_79_11, ↓ri_79_14, ↓ri_79_15, ↓ri_79_16, ↓ri_79_17, ↓ri_79_20, ↓ri_79_23, ↓ri_79_25, ↓ri_79_26, ↓ri_79_27, ↓ri_79_30, ↓ri_79_31, ↓ri_79_34, ↓ri_79_36, ↓ri_79_37, ↓ri_79_38, ↓ri_79_41, ↓ri_79_44, ↓ri_79_47, ↓ri_79_48, ↓ri_79_50, ↓ri_79_53, ↓ri_79_55, ↓ri_79_56, ↓ri_79_57, ↓ri_79_59, ↓ri_79_62, ↓ri_79_64, ↓ri_79_67, ↓ri_79_68, ↓ri_79_71, ↓ri_79_72, ↓ri_79_73, ↓ri_79_76, Option.some.injEq, Prod.mk.injEq, exists_eq_left', exists_eq', exists_and_left, exists_and_right, true_and, and_true, true_or, or_true, and_self, and_assoc, Option.toList_some, Option.toList_none, List.cons_append, List.nil_append, ↓reduceIte, rz_x01, rz_x10, p0, hco, hq, hx, rz_oi]
    exact kk _ h rz_sm.rf
  | some j =>
    obtain ⟨e, he, -⟩ := rz_fi_some hx
    have hj := (List.getElem?_eq_some_iff.mp he).1
    have hL := hP.1
    have hd : L.getD j (0, 0, 0, 0, 0) = e := by rw [List.getD_eq_getElem?_getD, he]; rfl
    simp only [hx, hd] at kk
    unfold rz_fi at hx
    have c2 : ¬ nI j = -1 := fun q => nI_pos (show j < 2 ^ 31 by omega) (by rw [q]; decide)
    have hq2 := fun R => c_P_keyAt (d := d + 1) hP he (R := R)
    by_cases hk : rz_key key
    · have tk := fun R => (c_C_isKey (d := d + 2) (hp := hp) (R := R)).1 hk
      obtain ⟨a, ha, hka⟩ := rz_key_of hk
      simp only [hk, not_true_eq_false, if_false] at kk
      by_cases h1 : key < fl
      · simp only [h1, true_or, if_true] at kk
        simp only [↓ri_79_0, ↓ri_79_1, ↓ri_79_4, ↓ri_79_5, ↓ri_79_8, ↓ri_79_9, ↓ri_79_10, ↓ri_79_11, ↓ri_79_14, ↓ri_79_15, ↓ri_79_16, ↓ri_79_17, ↓ri_79_20, ↓ri_79_23, ↓ri_79_25, ↓ri_79_26, ↓ri_79_27, ↓ri_79_30, ↓ri_79_31, ↓ri_79_34, ↓ri_79_36, ↓ri_79_37, ↓ri_79_38, ↓ri_79_41, ↓ri_79_44, ↓ri_79_47, ↓ri_79_48, ↓ri_79_50, ↓ri_79_53, ↓ri_79_55, ↓ri_79_56, ↓ri_79_57, ↓ri_79_59, ↓ri_79_62, ↓ri_79_64, ↓ri_79_67, ↓ri_79_68, ↓ri_79_71, ↓ri_79_72, ↓ri_79_73, ↓ri_79_76, Option.some.injEq, Prod.mk.injEq, exists_eq_left', exists_eq', exists_and_left, exists_and_right, true_and, and_true, true_or, or_true, and_self, and_assoc, Option.toList_some, Option.toList_none, List.cons_append, List.nil_append, ↓reduceIte, rz_x01, rz_x10, p0, hco, hq, hqf, hx, rz_oi, ↓if_neg c2, tk, hq2, ↓if_pos h1]
        exact kk _ h rz_sm.rf
      · by_cases h2 : e.2.1 < key
        · simp only [h1, h2, or_true, if_true] at kk
          simp only [↓ri_79_0, ↓ri_79_1, ↓ri_79_4, ↓ri_79_5, ↓ri_79_8, ↓ri_79_9, ↓ri_79_10, ↓ri_79_11, ↓ri_79_14, ↓ri_79_15, ↓ri_79_16, ↓ri_79_17, ↓ri_79_20, ↓ri_79_23, ↓ri_79_25, ↓ri_79_26, ↓ri_79_27, ↓ri_79_30, ↓ri_79_31, ↓ri_79_34, ↓ri_79_36, ↓ri_79_37, ↓ri_79_38, ↓ri_79_41, ↓ri_79_44, ↓ri_79_47, ↓ri_79_48, ↓ri_79_50, ↓ri_79_53, ↓ri_79_55, ↓ri_79_56, ↓ri_79_57, ↓ri_79_59, ↓ri_79_62, ↓ri_79_64, ↓ri_79_67, ↓ri_79_68, ↓ri_79_71, ↓ri_79_72, ↓ri_79_73, ↓ri_79_76, Option.some.injEq, Prod.mk.injEq, exists_eq_left', exists_eq', exists_and_left, exists_and_right, true_and, and_true, true_or, or_true, and_self, and_assoc, Option.toList_some, Option.toList_none, List.cons_append, List.nil_append, ↓reduceIte, rz_x01, rz_x10, p0, hco, hq, hqf, hx, rz_oi, ↓if_neg c2, tk, hq2, ↓if_neg h1, ↓if_neg (Int32.not_le.mpr h2)]
          exact kk _ h rz_sm.rf
        · simp only [h1, h2, or_false, if_false] at kk
          by_cases h3 : key = e.2.1
          · simp only [if_pos h3] at kk
            simp only [↓ri_79_0, ↓ri_79_1, ↓ri_79_4, ↓ri_79_5, ↓ri_79_8, ↓ri_79_9, ↓ri_79_10, ↓ri_79_11, ↓ri_79_14, ↓ri_79_15, ↓ri_79_16, ↓ri_79_17, ↓ri_79_20, ↓ri_79_23, ↓ri_79_25, ↓ri_79_26, ↓ri_79_27, ↓ri_79_30, ↓ri_79_31, ↓ri_79_34, ↓ri_79_36, ↓ri_79_37, ↓ri_79_38, ↓ri_79_41, ↓ri_79_44, ↓ri_79_47, ↓ri_79_48, ↓ri_79_50, ↓ri_79_53, ↓ri_79_55, ↓ri_79_56, ↓ri_79_57, ↓ri_79_59, ↓ri_79_62, ↓ri_79_64, ↓ri_79_67, ↓ri_79_68, ↓ri_79_71, ↓ri_79_72, ↓ri_79_73, ↓ri_79_76, Option.some.injEq, Prod.mk.injEq, exists_eq_left', exists_eq', exists_and_left, exists_and_right, true_and, and_true, true_or, or_true, and_self, and_assoc, Option.toList_some, Option.toList_none, List.cons_append, List.nil_append, ↓reduceIte, rz_x01, rz_x10, p0, hco, hq, hqf, hx, rz_oi, ↓if_neg c2, tk, hq2, ↓if_neg h1, ↓if_pos (Int32.not_lt.mp h2), ↓if_pos h3]
            exact kk _ h rz_sm.rf
          · simp only [if_neg h3] at kk
            simp only [↓ri_79_0, ↓ri_79_1, ↓ri_79_4, ↓ri_79_5, ↓ri_79_8, ↓ri_79_9, ↓ri_79_10, ↓ri_79_11, ↓ri_79_14, ↓ri_79_15, ↓ri_79_16, ↓ri_79_17, ↓ri_79_20, ↓ri_79_23, ↓ri_79_25, ↓ri_79_26, ↓ri_79_27, ↓ri_79_30, ↓ri_79_31, ↓ri_79_34, ↓ri_79_36, ↓ri_79_37, ↓ri_79_38, ↓ri_79_41, ↓ri_79_44, ↓ri_79_47, ↓ri_79_48, ↓ri_79_50, ↓ri_79_53, ↓ri_79_55, ↓ri_79_56, ↓ri_79_57, ↓ri_79_59, ↓ri_79_62, ↓ri_79_64, ↓ri_79_67, ↓ri_79_68, ↓ri_79_71, ↓ri_79_72, ↓ri_79_73, ↓ri_79_76, Option.some.injEq, Prod.mk.injEq, exists_eq_left', exists_eq', exists_and_left, exists_and_right, true_and, and_true, true_or, or_true, and_self, and_assoc, Option.toList_some, Option.toList_none, List.cons_append, List.nil_append, ↓reduceIte, rz_x01, rz_x10, p0, hco, hq, hqf, hx, rz_oi, ↓if_neg c2, tk, hq2, ↓if_neg h1, ↓if_pos (Int32.not_lt.mp h2), ↓if_neg h3]
            refine c_P_lessenAt (d := d) hP he hka hf ha hc (fun h1 hP1 hs1 => ?_)
            simp only [↓ri_79_0, ↓ri_79_1, ↓ri_79_4, ↓ri_79_5, ↓ri_79_8, ↓ri_79_9, ↓ri_79_10, ↓ri_79_11, ↓ri_79_14, ↓ri_79_15, ↓ri_79_16, ↓ri_79_17, ↓ri_79_20, ↓ri_79_23, ↓ri_79_25, ↓ri_79_26, ↓ri_79_27, ↓ri_79_30, ↓ri_79_31, ↓ri_79_34, ↓ri_79_36, ↓ri_79_37, ↓ri_79_38, ↓ri_79_41, ↓ri_79_44, ↓ri_79_47, ↓ri_79_48, ↓ri_79_50, ↓ri_79_53, ↓ri_79_55, ↓ri_79_56, ↓ri_79_57, ↓ri_79_59, ↓ri_79_62, ↓ri_79_64, ↓ri_79_67, ↓ri_79_68, ↓ri_79_71, ↓ri_79_72, ↓ri_79_73, ↓ri_79_76, Option.some.injEq, Prod.mk.injEq, exists_eq_left', exists_eq', exists_and_left, exists_and_right, true_and, and_true, true_or, or_true, and_self, and_assoc, Option.toList_some, Option.toList_none, List.cons_append, List.nil_append, ↓reduceIte, rz_x01, rz_x10]
            exact kk _ ⟨rz_SF_sm ⟨p0, p1, p2, p3, p4, p5⟩ hs1 (by omega), hP1, rz_LT_sm hT hs1 (by omega), rz_RD_sm hR hs1 (by omega)⟩ (hs1.wd (by omega) (by omega))
    · have tk := fun R => (c_C_isKey (d := d + 2) (hp := hp) (R := R)).2 hk
      simp only [hk, not_false_eq_true, if_true] at kk
      simp only [↓ri_79_0, ↓ri_79_1, ↓ri_79_4, ↓ri_79_5, ↓ri_79_8, ↓ri_79_9, ↓ri_79_10, ↓ri_79_11, ↓ri_79_14, ↓ri_79_15, ↓ri_79_16, ↓ri_79_17, ↓ri_79_20, ↓ri_79_23, ↓ri_79_25, ↓ri_79_26, ↓ri_79_27, ↓ri_79_30, ↓ri_79_31, ↓ri_79_34, ↓ri_79_36, ↓ri_79_37, ↓ri_79_38, ↓ri_79_41, ↓ri_79_44, ↓ri_79_47, ↓ri_79_48, ↓ri_79_50, ↓ri_79_53, ↓ri_79_55, ↓ri_79_56, ↓ri_79_57, ↓ri_79_59, ↓ri_79_62, ↓ri_79_64, ↓ri_79_67, ↓ri_79_68, ↓ri_79_71, ↓ri_79_72, ↓ri_79_73, ↓ri_79_76, Option.some.injEq, Prod.mk.injEq, exists_eq_left', exists_eq', exists_and_left, exists_and_right, true_and, and_true, true_or, or_true, and_self, and_assoc, Option.toList_some, Option.toList_none, List.cons_append, List.nil_append, ↓reduceIte, rz_x01, rz_x10, p0, hco, hq, hx, rz_oi, ↓if_neg c2, tk]
      exact kk _ h rz_sm.rf
def rz_back_ : rz_AS → Int32 → Int32 × rz_AS := fun (L, fl, am, lat, rd, laid, ci, co, tb) n => match rz_fi L n with
  | none => (-1, L, fl, am, lat, rd, laid, ci, co, tb)
  | some j => ((L.getD j (0, 0, 0, 0, 0)).2.1, L.eraseIdx j, fl, am, lat, rd, laid, ci, co, tb + 1)
set_option maxHeartbeats 4000000 in
set_option maxRecDepth 100000 in
theorem c_T_giveBack {d p : Nat} {s : rz_AS} {n : Int32} {hp : rz_Hp} (h : rz_ST p s hp) {R : Option Value → rz_Hp → Prop} (kk : ∀ hp', rz_ST p (rz_back_ s n).2 hp' → rz_sm p (p + 14) hp hp' → R (some (.int (rz_back_ s n).1)) hp') : rz_ev (d + 3) 80 0 [some (.ref p), some (.int n), none, none] [] hp R := by
  obtain ⟨L, fl, am, lat, rd, laid, ci, co, tb⟩ := s
  obtain ⟨⟨p0, p1, p2, p3, p4, p5⟩, hP, hT, hR⟩ := id h
  have hco : rz_co hp (p + 1) = some 3 := rz_co_fv hP.2.1.1
  have hq := fun R => c_P_indexOf (d := d) (n := n) hP (R := R)
  unfold rz_back_ at kk
  cases hx : rz_fi L n with
  | none =>
    simp only [hx] at kk
    unfold rz_fi at hx
    simp only [↓ri_80_0, ↓ri_80_1, ↓ri_80_4, ↓ri_80_5, ↓ri_80_8, ↓ri_80_9, ↓ri_80_10, ↓ri_80_11, ↓ri_80_14, ↓ri_80_15, ↓ri_80_16, ↓ri_80_17, ↓ri_80_20, ↓ri_80_21, ↓ri_80_24, ↓ri_80_25, ↓ri_80_26, ↓ri_80_29, ↓ri_80_30, ↓ri_80_33, ↓ri_80_34, ↓ri_80_35, ↓ri_80_38, ↓ri_80_39, ↓ri_80_40, ↓ri_80_43, ↓ri_80_44, Option.some.injEq, Prod.mk.injEq, exists_eq_left', exists_eq', exists_and_left, exists_and_right, true_and, and_true, true_or, or_true, and_self, and_assoc, Option.toList_some, Option.toList_none, List.cons_append, List.nil_append, ↓reduceIte, rz_x01, rz_x10, p0, hco, hq, hx, rz_oi]
    exact kk _ h rz_sm.rf
  | some j =>
    obtain ⟨e, he, -⟩ := rz_fi_some hx
    have hj := (List.getElem?_eq_some_iff.mp he).1
    have hL := hP.1
    have hd : L.getD j (0, 0, 0, 0, 0) = e := by rw [List.getD_eq_getElem?_getD, he]; rfl
    simp only [hx, hd] at kk
    unfold rz_fi at hx
    have c2 : ¬ nI j = -1 := fun q => nI_pos (show j < 2 ^ 31 by omega) (by rw [q]; decide)
    have hq2 := fun R => c_P_keyAt (d := d + 1) hP he (R := R)
    simp only [↓ri_80_0, ↓ri_80_1, ↓ri_80_4, ↓ri_80_5, ↓ri_80_8, ↓ri_80_9, ↓ri_80_10, ↓ri_80_11, ↓ri_80_14, ↓ri_80_15, ↓ri_80_16, ↓ri_80_17, ↓ri_80_20, ↓ri_80_21, ↓ri_80_24, ↓ri_80_25, ↓ri_80_26, ↓ri_80_29, ↓ri_80_30, ↓ri_80_33, ↓ri_80_34, ↓ri_80_35, ↓ri_80_38, ↓ri_80_39, ↓ri_80_40, ↓ri_80_43, ↓ri_80_44, Option.some.injEq, Prod.mk.injEq, exists_eq_left', exists_eq', exists_and_left, exists_and_right, true_and, and_true, true_or, or_true, and_self, and_assoc, Option.toList_some, Option.toList_none, List.cons_append, List.nil_append, ↓reduceIte, rz_x01, rz_x10, p0, hco, hq, hx, rz_oi, ↓if_neg c2, hq2]
    refine c_P_removeAt (d := d + 1) hP hj (fun h1 hP1 hs1 => ?_)
    obtain ⟨r0, r1, r2, r3, r4, r5⟩ := rz_SF_sm (p := p) ⟨p0, p1, p2, p3, p4, p5⟩ hs1 (by omega)
    simp only [↓ri_80_0, ↓ri_80_1, ↓ri_80_4, ↓ri_80_5, ↓ri_80_8, ↓ri_80_9, ↓ri_80_10, ↓ri_80_11, ↓ri_80_14, ↓ri_80_15, ↓ri_80_16, ↓ri_80_17, ↓ri_80_20, ↓ri_80_21, ↓ri_80_24, ↓ri_80_25, ↓ri_80_26, ↓ri_80_29, ↓ri_80_30, ↓ri_80_33, ↓ri_80_34, ↓ri_80_35, ↓ri_80_38, ↓ri_80_39, ↓ri_80_40, ↓ri_80_43, ↓ri_80_44, Option.some.injEq, Prod.mk.injEq, exists_eq_left', exists_eq', exists_and_left, exists_and_right, true_and, and_true, true_or, or_true, and_self, and_assoc, Option.toList_some, Option.toList_none, List.cons_append, List.nil_append, ↓reduceIte, rz_x01, rz_x10, r5]
    have hs2 : rz_sm p (p + 1) h1 (rz_pf h1 p 5 (.int (tb + 1))) := rz_sm_pf (by omega) (by omega)
    refine kk _ ⟨?_, rz_PL_sm hP1 hs2 (by omega), rz_LT_sm (rz_LT_sm hT hs1 (by omega)) hs2 (by omega), rz_RD_sm (rz_RD_sm hR hs1 (by omega)) hs2 (by omega)⟩ ((hs1.wd (by omega) (by omega)).tr (hs2.wd (by omega) (by omega)))
    simp only [rz_SF, rz_fv_pf, rz_av_pf, rz_qv_pf, rz_ln_pf, rz_co_pf, rz_fv_pa, rz_av_pa, rz_qv_pa, rz_ln_pa, rz_co_pa, rz_fv_pq, rz_av_pq, rz_qv_pq, rz_ln_pq, rz_co_pq, Nat.reduceEqDiff, Nat.add_eq_left, Nat.left_eq_add, Nat.one_ne_zero, Option.map_some, exists_const, Option.some.injEq, Prod.mk.injEq, exists_eq_left', exists_eq', exists_and_left, exists_and_right, true_and, and_true, true_or, or_true, and_self, and_assoc, Option.toList_some, Option.toList_none, List.cons_append, List.nil_append, ↓reduceIte, rz_x01, rz_x10, r0, r1, r2, r3, r4, r5]
noncomputable def rz_do_ (s : rz_AS) (kind a b : Int32) : Int32 × rz_AS := if kind = 43 then rz_in_ s a b else if kind = 45 then rz_out_ s else if kind = 120 then rz_back_ s a else if kind = 60 then rz_less_ s a b else (-5, s)
set_option maxHeartbeats 4000000 in
set_option maxRecDepth 100000 in
theorem c_T_carryOut {d p : Nat} {s : rz_AS} {kind a b : Int32} {hp : rz_Hp} (h : rz_ST p s hp) (hI : rz_I0 s) {R : Option Value → rz_Hp → Prop} (kk : ∀ hp', rz_ST p (rz_do_ s kind a b).2 hp' → rz_sm p (p + 14) hp hp' → R (some (.int (rz_do_ s kind a b).1)) hp') : rz_ev (d + 4) 81 0 [some (.ref p), some (.int kind), some (.int a), some (.int b)] [] hp R := by
  have hco : rz_co hp p = some 6 := by
    obtain ⟨L, fl, am, lat, rd, laid, ci, co, tb⟩ := s
    exact rz_co_fv h.1.1
  unfold rz_do_ at kk
  by_cases h1 : kind = 43
  · simp only [if_pos h1] at kk
    simp only [↓ri_81_0, ↓ri_81_1, ↓ri_81_44, ↓ri_81_45, ↓ri_81_46, ↓ri_81_47, ↓ri_81_50, ↓ri_81_51, ↓ri_81_52, ↓ri_81_55, ↓ri_81_56, ↓ri_81_57, ↓ri_81_58, ↓ri_81_61, ↓ri_81_62, ↓ri_81_63, ↓ri_81_64, ↓ri_81_65, ↓ri_81_68, ↓ri_81_69, ↓ri_81_71, Option.some.injEq, Prod.mk.injEq, exists_eq_left', exists_eq', exists_and_left, exists_and_right, true_and, and_true, true_or, or_true, and_self, and_assoc, Option.toList_some, Option.toList_none, List.cons_append, List.nil_append, ↓reduceIte, rz_x01, rz_x10, ↓if_pos h1, hco]
    refine c_T_bringIn (d := d + 1) h hI (fun h1 g1 g2 => ?_)
    simp only [↓ri_81_0, ↓ri_81_1, ↓ri_81_44, ↓ri_81_45, ↓ri_81_46, ↓ri_81_47, ↓ri_81_50, ↓ri_81_51, ↓ri_81_52, ↓ri_81_55, ↓ri_81_56, ↓ri_81_57, ↓ri_81_58, ↓ri_81_61, ↓ri_81_62, ↓ri_81_63, ↓ri_81_64, ↓ri_81_65, ↓ri_81_68, ↓ri_81_69, ↓ri_81_71, Option.some.injEq, Prod.mk.injEq, exists_eq_left', exists_eq', exists_and_left, exists_and_right, true_and, and_true, true_or, or_true, and_self, and_assoc, Option.toList_some, Option.toList_none, List.cons_append, List.nil_append, ↓reduceIte, rz_x01, rz_x10]
    exact kk _ g1 g2
  · simp only [if_neg h1] at kk
    by_cases h2 : kind = 45
    · simp only [if_pos h2] at kk
      simp only [↓ri_81_0, ↓ri_81_1, ↓ri_81_44, ↓ri_81_45, ↓ri_81_46, ↓ri_81_47, ↓ri_81_50, ↓ri_81_51, ↓ri_81_52, ↓ri_81_55, ↓ri_81_56, ↓ri_81_57, ↓ri_81_58, ↓ri_81_61, ↓ri_81_62, ↓ri_81_63, ↓ri_81_64, ↓ri_81_65, ↓ri_81_68, ↓ri_81_69, ↓ri_81_71, Option.some.injEq, Prod.mk.injEq, exists_eq_left', exists_eq', exists_and_left, exists_and_right, true_and, and_true, true_or, or_true, and_self, and_assoc, Option.toList_some, Option.toList_none, List.cons_append, List.nil_append, ↓reduceIte, rz_x01, rz_x10, ↓if_neg h1, ↓if_pos h2, hco]
      refine c_T_letOut (d := d) h hI (fun h1 g1 g2 => ?_)
      simp only [↓ri_81_0, ↓ri_81_1, ↓ri_81_44, ↓ri_81_45, ↓ri_81_46, ↓ri_81_47, ↓ri_81_50, ↓ri_81_51, ↓ri_81_52, ↓ri_81_55, ↓ri_81_56, ↓ri_81_57, ↓ri_81_58, ↓ri_81_61, ↓ri_81_62, ↓ri_81_63, ↓ri_81_64, ↓ri_81_65, ↓ri_81_68, ↓ri_81_69, ↓ri_81_71, Option.some.injEq, Prod.mk.injEq, exists_eq_left', exists_eq', exists_and_left, exists_and_right, true_and, and_true, true_or, or_true, and_self, and_assoc, Option.toList_some, Option.toList_none, List.cons_append, List.nil_append, ↓reduceIte, rz_x01, rz_x10]
      exact kk _ g1 g2
    · simp only [if_neg h2] at kk
      by_cases h3 : kind = 60
      · have h4 : ¬ kind = 120 := by rw [h3]; decide
        simp only [if_neg h4, ↓if_pos h3] at kk
        simp only [↓ri_81_0, ↓ri_81_1, ↓ri_81_44, ↓ri_81_45, ↓ri_81_46, ↓ri_81_47, ↓ri_81_50, ↓ri_81_51, ↓ri_81_52, ↓ri_81_55, ↓ri_81_56, ↓ri_81_57, ↓ri_81_58, ↓ri_81_61, ↓ri_81_62, ↓ri_81_63, ↓ri_81_64, ↓ri_81_65, ↓ri_81_68, ↓ri_81_69, ↓ri_81_71, Option.some.injEq, Prod.mk.injEq, exists_eq_left', exists_eq', exists_and_left, exists_and_right, true_and, and_true, true_or, or_true, and_self, and_assoc, Option.toList_some, Option.toList_none, List.cons_append, List.nil_append, ↓reduceIte, rz_x01, rz_x10, ↓if_neg h1, ↓if_neg h2, ↓if_pos h3, hco]
        refine c_T_makeLess (d := d) h hI (fun h1 g1 g2 => ?_)
        simp only [↓ri_81_0, ↓ri_81_1, ↓ri_81_44, ↓ri_81_45, ↓ri_81_46, ↓ri_81_47, ↓ri_81_50, ↓ri_81_51, ↓ri_81_52, ↓ri_81_55, ↓ri_81_56, ↓ri_81_57, ↓ri_81_58, ↓ri_81_61, ↓ri_81_62, ↓ri_81_63, ↓ri_81_64, ↓ri_81_65, ↓ri_81_68, ↓ri_81_69, ↓ri_81_71, Option.some.injEq, Prod.mk.injEq, exists_eq_left', exists_eq', exists_and_left, exists_and_right, true_and, and_true, true_or, or_true, and_self, and_assoc, Option.toList_some, Option.toList_none, List.cons_append, List.nil_append, ↓reduceIte, rz_x01, rz_x10]
        exact kk _ g1 g2
      · by_cases h4 : kind = 120
        · simp only [if_pos h4] at kk
          simp only [↓ri_81_0, ↓ri_81_1, ↓ri_81_44, ↓ri_81_45, ↓ri_81_46, ↓ri_81_47, ↓ri_81_50, ↓ri_81_51, ↓ri_81_52, ↓ri_81_55, ↓ri_81_56, ↓ri_81_57, ↓ri_81_58, ↓ri_81_61, ↓ri_81_62, ↓ri_81_63, ↓ri_81_64, ↓ri_81_65, ↓ri_81_68, ↓ri_81_69, ↓ri_81_71, Option.some.injEq, Prod.mk.injEq, exists_eq_left', exists_eq', exists_and_left, exists_and_right, true_and, and_true, true_or, or_true, and_self, and_assoc, Option.toList_some, Option.toList_none, List.cons_append, List.nil_append, ↓reduceIte, rz_x01, rz_x10, ↓if_neg h1, ↓if_neg h2, ↓if_neg h3, ↓if_pos h4, hco]
          refine c_T_giveBack (d := d) h (fun h1 g1 g2 => ?_)
          simp only [↓ri_81_0, ↓ri_81_1, ↓ri_81_44, ↓ri_81_45, ↓ri_81_46, ↓ri_81_47, ↓ri_81_50, ↓ri_81_51, ↓ri_81_52, ↓ri_81_55, ↓ri_81_56, ↓ri_81_57, ↓ri_81_58, ↓ri_81_61, ↓ri_81_62, ↓ri_81_63, ↓ri_81_64, ↓ri_81_65, ↓ri_81_68, ↓ri_81_69, ↓ri_81_71, Option.some.injEq, Prod.mk.injEq, exists_eq_left', exists_eq', exists_and_left, exists_and_right, true_and, and_true, true_or, or_true, and_self, and_assoc, Option.toList_some, Option.toList_none, List.cons_append, List.nil_append, ↓reduceIte, rz_x01, rz_x10]
          exact kk _ g1 g2
        · simp only [if_neg h4, ↓if_neg h3] at kk
          simp only [↓ri_81_0, ↓ri_81_1, ↓ri_81_44, ↓ri_81_45, ↓ri_81_46, ↓ri_81_47, ↓ri_81_50, ↓ri_81_51, ↓ri_81_52, ↓ri_81_55, ↓ri_81_56, ↓ri_81_57, ↓ri_81_58, ↓ri_81_61, ↓ri_81_62, ↓ri_81_63, ↓ri_81_64, ↓ri_81_65, ↓ri_81_68, ↓ri_81_69, ↓ri_81_71, Option.some.injEq, Prod.mk.injEq, exists_eq_left', exists_eq', exists_and_left, exists_and_right, true_and, and_true, true_or, or_true, and_self, and_assoc, Option.toList_some, Option.toList_none, List.cons_append, List.nil_append, ↓reduceIte, rz_x01, rz_x10, ↓if_neg h1, ↓if_neg h2, ↓if_neg h3, ↓if_neg h4]
          exact kk _ h rz_sm.rf
set_option maxHeartbeats 4000000 in
set_option maxRecDepth 100000 in
theorem c_T_copyFrom {d p q : Nat} {s t : rz_AS} {hp : rz_Hp} (h : rz_ST p s hp) (h2 : rz_ST q t hp) (hd : p + 14 ≤ q ∨ q + 14 ≤ p) {R : Option Value → rz_Hp → Prop} (kk : ∀ hp', rz_ST p t hp' → rz_sm p (p + 14) hp hp' → R none hp') : rz_ev (d + 3) 75 0 [some (.ref p), some (.ref q)] [] hp R := by
  obtain ⟨L, fl, am, lat, rd, laid, ci, co, tb⟩ := s
  obtain ⟨L2, fl2, am2, lat2, rd2, laid2, ci2, co2, tb2⟩ := t
  obtain ⟨⟨p0, p1, p2, p3, p4, p5⟩, hP, hT, hR⟩ := id h
  obtain ⟨⟨q0, q1, q2, q3, q4, q5⟩, hPq, hTq, hRq⟩ := id h2
  have hco : rz_co hp (p + 1) = some 3 := rz_co_fv hP.2.1.1
  simp only [↓ri_75_0, ↓ri_75_1, ↓ri_75_1N, ↓ri_75_4, ↓ri_75_5, ↓ri_75_6, ↓ri_75_9, ↓ri_75_10, ↓ri_75_13, ↓ri_75_16, ↓ri_75_17, ↓ri_75_20, ↓ri_75_21, ↓ri_75_24, ↓ri_75_27, ↓ri_75_28, ↓ri_75_31, ↓ri_75_32, ↓ri_75_35, ↓ri_75_38, ↓ri_75_39, ↓ri_75_40, ↓ri_75_43, ↓ri_75_46, ↓ri_75_47, ↓ri_75_48, ↓ri_75_51, ↓ri_75_54, ↓ri_75_55, ↓ri_75_56, ↓ri_75_59, ↓ri_75_62, Option.some.injEq, Prod.mk.injEq, exists_eq_left', exists_eq', exists_and_left, exists_and_right, true_and, and_true, true_or, or_true, and_self, and_assoc, Option.toList_some, Option.toList_none, List.cons_append, List.nil_append, ↓reduceIte, rz_x01, rz_x10, p0, q0, hco]
  refine c_P_copyFrom (d := d) hP hPq (by omega) (fun h1 hP1 hs1 => ?_)
  obtain ⟨r0, r1, r2, r3, r4, r5⟩ := rz_SF_sm (p := p) ⟨p0, p1, p2, p3, p4, p5⟩ hs1 (by omega)
  obtain ⟨t0, t1, t2, t3, t4, t5⟩ := rz_SF_sm (p := q) ⟨q0, q1, q2, q3, q4, q5⟩ hs1 (by omega)
  have hT1 := rz_LT_sm hT hs1 (by omega)
  have hTq1 := rz_LT_sm hTq hs1 (by omega)
  have hco1 : rz_co h1 (p + 7) = some 1 := rz_co_fv hT1.2.1.1
  simp only [↓ri_75_0, ↓ri_75_1, ↓ri_75_1N, ↓ri_75_4, ↓ri_75_5, ↓ri_75_6, ↓ri_75_9, ↓ri_75_10, ↓ri_75_13, ↓ri_75_16, ↓ri_75_17, ↓ri_75_20, ↓ri_75_21, ↓ri_75_24, ↓ri_75_27, ↓ri_75_28, ↓ri_75_31, ↓ri_75_32, ↓ri_75_35, ↓ri_75_38, ↓ri_75_39, ↓ri_75_40, ↓ri_75_43, ↓ri_75_46, ↓ri_75_47, ↓ri_75_48, ↓ri_75_51, ↓ri_75_54, ↓ri_75_55, ↓ri_75_56, ↓ri_75_59, ↓ri_75_62, Option.some.injEq, Prod.mk.injEq, exists_eq_left', exists_eq', exists_and_left, exists_and_right, true_and, and_true, true_or, or_true, and_self, and_assoc, Option.toList_some, Option.toList_none, List.cons_append, List.nil_append, ↓reduceIte, rz_x01, rz_x10, r1, t1, hco1]
  refine c_L_copyFrom (d := d) hT1 hTq1 (by omega) (fun h2 hT2 hs2 => ?_)
  obtain ⟨u0, u1, u2, u3, u4, u5⟩ := rz_SF_sm (p := p) ⟨r0, r1, r2, r3, r4, r5⟩ hs2 (by omega)
  obtain ⟨v0, v1, v2, v3, v4, v5⟩ := rz_SF_sm (p := q) ⟨t0, t1, t2, t3, t4, t5⟩ hs2 (by omega)
  have hR2 := rz_RD_sm (rz_RD_sm hR hs1 (by omega)) hs2 (by omega)
  have hRq2 := rz_RD_sm (rz_RD_sm hRq hs1 (by omega)) hs2 (by omega)
  have hco2 : rz_co h2 (p + 12) = some 4 := rz_co_fv hR2.1
  simp only [↓ri_75_0, ↓ri_75_1, ↓ri_75_1N, ↓ri_75_4, ↓ri_75_5, ↓ri_75_6, ↓ri_75_9, ↓ri_75_10, ↓ri_75_13, ↓ri_75_16, ↓ri_75_17, ↓ri_75_20, ↓ri_75_21, ↓ri_75_24, ↓ri_75_27, ↓ri_75_28, ↓ri_75_31, ↓ri_75_32, ↓ri_75_35, ↓ri_75_38, ↓ri_75_39, ↓ri_75_40, ↓ri_75_43, ↓ri_75_46, ↓ri_75_47, ↓ri_75_48, ↓ri_75_51, ↓ri_75_54, ↓ri_75_55, ↓ri_75_56, ↓ri_75_59, ↓ri_75_62, Option.some.injEq, Prod.mk.injEq, exists_eq_left', exists_eq', exists_and_left, exists_and_right, true_and, and_true, true_or, or_true, and_self, and_assoc, Option.toList_some, Option.toList_none, List.cons_append, List.nil_append, ↓reduceIte, rz_x01, rz_x10, u2, v2, hco2]
  refine c_R_copyFrom (d := d) hR2 hRq2 (by omega) (fun h3 hR3 hs3 => ?_)
  obtain ⟨w0, w1, w2, w3, w4, w5⟩ := rz_SF_sm (p := p) ⟨u0, u1, u2, u3, u4, u5⟩ hs3 (by omega)
  obtain ⟨x0, x1, x2, x3, x4, x5⟩ := rz_SF_sm (p := q) ⟨v0, v1, v2, v3, v4, v5⟩ hs3 (by omega)
  have m1 : (q = p) = False := eq_false (by omega)
  simp only [↓ri_75_0, ↓ri_75_1, ↓ri_75_1N, ↓ri_75_4, ↓ri_75_5, ↓ri_75_6, ↓ri_75_9, ↓ri_75_10, ↓ri_75_13, ↓ri_75_16, ↓ri_75_17, ↓ri_75_20, ↓ri_75_21, ↓ri_75_24, ↓ri_75_27, ↓ri_75_28, ↓ri_75_31, ↓ri_75_32, ↓ri_75_35, ↓ri_75_38, ↓ri_75_39, ↓ri_75_40, ↓ri_75_43, ↓ri_75_46, ↓ri_75_47, ↓ri_75_48, ↓ri_75_51, ↓ri_75_54, ↓ri_75_55, ↓ri_75_56, ↓ri_75_59, ↓ri_75_62, Option.some.injEq, Prod.mk.injEq, exists_eq_left', exists_eq', exists_and_left, exists_and_right, true_and, and_true, true_or, or_true, and_self, and_assoc, Option.toList_some, Option.toList_none, List.cons_append, List.nil_append, ↓reduceIte, rz_x01, rz_x10, rz_fv_pf, rz_av_pf, rz_qv_pf, rz_ln_pf, rz_co_pf, rz_fv_pa, rz_av_pa, rz_qv_pa, rz_ln_pa, rz_co_pa, rz_fv_pq, rz_av_pq, rz_qv_pq, rz_ln_pq, rz_co_pq, Nat.reduceEqDiff, Nat.add_eq_left, Nat.left_eq_add, Nat.one_ne_zero, Option.map_some, exists_const, w3, w4, w5, x3, x4, x5, m1]
  have hs4 : rz_sm p (p + 1) h3 (rz_pf (rz_pf (rz_pf h3 p 3 (.int ci2)) p 4 (.int co2)) p 5 (.int tb2)) := ((rz_sm_pf (by omega) (by omega)).tr (rz_sm_pf (by omega) (by omega))).tr (rz_sm_pf (by omega) (by omega))
  refine kk _ ⟨?_, rz_PL_sm (rz_PL_sm (rz_PL_sm hP1 hs2 (by omega)) hs3 (by omega)) hs4 (by omega), rz_LT_sm (rz_LT_sm hT2 hs3 (by omega)) hs4 (by omega), rz_RD_sm hR3 hs4 (by omega)⟩ ((((hs1.wd (by omega) (by omega)).tr (hs2.wd (by omega) (by omega))).tr (hs3.wd (by omega) (by omega))).tr (hs4.wd (by omega) (by omega)))
  simp only [rz_SF, rz_fv_pf, rz_av_pf, rz_qv_pf, rz_ln_pf, rz_co_pf, rz_fv_pa, rz_av_pa, rz_qv_pa, rz_ln_pa, rz_co_pa, rz_fv_pq, rz_av_pq, rz_qv_pq, rz_ln_pq, rz_co_pq, Nat.reduceEqDiff, Nat.add_eq_left, Nat.left_eq_add, Nat.one_ne_zero, Option.map_some, exists_const, Option.some.injEq, Prod.mk.injEq, exists_eq_left', exists_eq', exists_and_left, exists_and_right, true_and, and_true, true_or, or_true, and_self, and_assoc, Option.toList_some, Option.toList_none, List.cons_append, List.nil_append, ↓reduceIte, rz_x01, rz_x10, w0, w1, w2, w3, w4, w5]
