/-! RisingPilesModel: up to a key, less, taken back -/
theorem rz_IV_out {s : rz_AS} (h : rz_IV s) : rz_IV (rz_out_ s).2 := by
  obtain ⟨L, fl, am, lat, rd, laid, ci, co, tb⟩ := s
  cases hn : rz_nxf L with
  | none => rw [rz_nxf_none hn] at h ⊢; exact h
  | some j =>
    have hnx := rz_nxf_some hn
    obtain ⟨e, he, -, -⟩ := id hnx
    obtain ⟨e1, he1, -⟩ := rz_re_at he
    rw [rz_out_eq hn he he1]
    refine ⟨(h.1.re hnx he).sub (List.eraseIdx_sublist _ _), ?_, h.2.2⟩
    have h2 := List.Sublist.length_le (List.eraseIdx_sublist (rz_re L e) j)
    rw [rz_re_len] at h2
    exact Nat.le_trans h2 h.2.1
theorem rz_IV_in {s : rz_AS} {key val : Int32} (h : rz_IV s) : rz_IV (rz_in_ s key val).2 := by
  obtain ⟨L, fl, am, lat, rd, laid, ci, co, tb⟩ := s
  by_cases hm : rz_mayI (L, fl, am, lat, rd, laid, ci, co, tb) key val < 0
  · rw [rz_in_may hm]; exact h
  · obtain ⟨e1, hk, hfl, hl, hc⟩ := rz_in_ok hm
    obtain ⟨b, hb, rfl⟩ := rz_key_of hk
    rw [e1]
    exact ⟨h.1.app hb hfl hc, by rw [List.length_append]; exact hl, h.2.2⟩
theorem rz_IV_ut (n : Nat) (s : rz_AS) (key : Int32) (h : rz_IV s) : rz_IV (rz_ut n s key).2 := by
  induction n generalizing s with
  | zero => exact h
  | succ n ih =>
    unfold rz_ut
    split
    · exact h
    · split
      · exact h
      · exact ih _ (rz_IV_out h)
theorem rz_IV_upto {s : rz_AS} {key : Int32} (h : rz_IV s) : rz_IV (rz_upto_ s key).2 := by
  unfold rz_upto_
  by_cases hk : rz_key key
  · simp only [hk, not_true_eq_false, if_false]; exact rz_IV_ut 40 s key h
  · simp only [hk, not_false_eq_true, if_true]; exact h
theorem rz_YZ_nd {L : List rz_En} {S : Nat} {Z : List rz_Zt} (hY : rz_YZ L S Z) (hd : L.Pairwise (fun x y => ¬ x.1 = y.1)) : ∀ (i j : Nat) (x y : rz_Zt), Z[i]? = some x → Z[j]? = some y → x.1.1 = y.1.1 → i = j := by
  have h2 : (Z.map Prod.fst).Pairwise (fun x y => ¬ x.1 = y.1) := hd.perm (rz_YZ_perm hY).symm (fun {x y} hxy q => hxy q.symm)
  rw [List.pairwise_map] at h2
  have h3 := List.pairwise_iff_getElem.mp h2
  intro i j x y hx hy hxy
  obtain ⟨hi, ex⟩ := List.getElem?_eq_some_iff.mp hx
  obtain ⟨hj, ey⟩ := List.getElem?_eq_some_iff.mp hy
  rcases Nat.lt_trichotomy i j with q | q | q
  · exact absurd hxy (by have := h3 i j hi hj q; rwa [ex, ey] at this)
  · exact q
  · exact absurd hxy.symm (by have := h3 j i hj hi q; rwa [ex, ey] at this)
theorem rz_slot_some {L : List rz_En} {S j : Nat} {Z : List rz_Zt} {n : Int32} {e : rz_En} (hY : rz_YZ L S Z) (hd : L.Pairwise (fun x y => ¬ x.1 = y.1)) (he : L[j]? = some e) (hn : e.1 = n) : ∃ Y : List rz_Zt, ∃ y i, Y.map Prod.fst = L ∧ Y.Perm Z ∧ Y.Pairwise rz_so_ ∧ (∀ y ∈ Y, y.2 < S) ∧ Y[j]? = some y ∧ y.1 = e ∧ Z[i]? = some y ∧ ∀ b, rz_slS Z n Z.length b → b = nI i := by
  obtain ⟨Y, y, y1, y2, y3, y4, y5, y6⟩ := rz_YZ_at hY he
  obtain ⟨i, hi⟩ := List.getElem?_of_mem (y2.mem_iff.mp (List.mem_of_getElem? y5))
  refine ⟨Y, y, i, y1, y2, y3, y4, y5, y6, hi, fun b hb => ?_⟩
  rcases hb with ⟨-, hb⟩ | ⟨k, rfl, hk, x, hx, hxn⟩
  · exact absurd (by rw [y6, hn]) (hb i y (List.getElem?_eq_some_iff.mp hi).1 hi)
  · rw [rz_YZ_nd hY hd k i x y hx hi (by rw [hxn, y6, hn])]
theorem rz_slot_none {L : List rz_En} {S : Nat} {Z : List rz_Zt} {n : Int32} (hY : rz_YZ L S Z) (hn : rz_fi L n = none) : ∀ b, rz_slS Z n Z.length b → b = -5 := by
  intro b hb
  rcases hb with ⟨hb, -⟩ | ⟨k, rfl, hk, x, hx, hxn⟩
  · exact hb
  · unfold rz_fi at hn
    rw [List.findIdx?_eq_none_iff] at hn
    exact absurd hxn (by simpa using hn x.1 (rz_YZ_mem hY (List.mem_of_getElem? hx)))
noncomputable def rz_mayL : rz_AS → Int32 → Int32 → Int32 := haveI : (p : Prop) → Decidable p := Classical.propDecidable; fun (L, fl, _) n key => match rz_fi L n with
  | none => -1
  | some j => if ¬ rz_key key then -2 else if key < fl ∨ (L.getD j (0, 0, 0, 0, 0)).2.1 < key then -4 else if key = (L.getD j (0, 0, 0, 0, 0)).2.1 then -5 else 0
theorem rz_less_may {s : rz_AS} {n key : Int32} (h : rz_mayL s n key < 0) : rz_less_ s n key = (rz_mayL s n key, s) := by
  obtain ⟨L, fl, am, lat, rd, laid, ci, co, tb⟩ := s
  unfold rz_mayL at h ⊢
  unfold rz_less_
  cases hf : rz_fi L n with
  | none => simp only [hf]
  | some j =>
    simp only [hf] at h ⊢
    by_cases h1 : ¬ rz_key key
    · simp only [if_pos h1]
    · by_cases h2 : key < fl ∨ (L.getD j (0, 0, 0, 0, 0)).2.1 < key
      · simp only [if_neg h1, ↓if_pos h2]
      · by_cases h3 : key = (L.getD j (0, 0, 0, 0, 0)).2.1
        · simp only [if_neg h1, ↓if_neg h2, ↓if_pos h3]
        · simp only [if_neg h1, ↓if_neg h2, ↓if_neg h3] at h
          exact absurd h (by decide)
theorem rz_less_ok {L : List rz_En} {fl am : Int32} {lat : List rz_La} {rd : Nat → Int32} {laid ci co tb : Int32} {n key : Int32} (h : ¬ rz_mayL (L, fl, am, lat, rd, laid, ci, co, tb) n key < 0) : ∃ j e, rz_fi L n = some j ∧ L[j]? = some e ∧ e.1 = n ∧ rz_key key ∧ ¬ key < fl ∧ ¬ e.2.1 < key ∧ rz_less_ (L, fl, am, lat, rd, laid, ci, co, tb) n key = (rz_pl fl key, rz_le L j e key (rz_pl fl key), fl, if rz_pl fl key = e.2.2.2.2 then am else am + 1, lat, rd, laid, ci, co, tb) := by
  unfold rz_mayL at h
  unfold rz_less_
  cases hf : rz_fi L n with
  | none => simp only [hf] at h; exact absurd (by decide) h
  | some j =>
    obtain ⟨e, he, hen⟩ := rz_fi_some hf
    have hd : L.getD j (0, 0, 0, 0, 0) = e := by rw [List.getD_eq_getElem?_getD, he]; rfl
    simp only [hf, hd] at h ⊢
    by_cases h1 : ¬ rz_key key
    · simp only [if_pos h1] at h; exact absurd (by decide) h
    · by_cases h2 : key < fl ∨ e.2.1 < key
      · simp only [if_neg h1, ↓if_pos h2] at h; exact absurd (by decide) h
      · by_cases h3 : key = e.2.1
        · simp only [if_neg h1, ↓if_neg h2, ↓if_pos h3] at h; exact absurd (by decide) h
        · exact ⟨j, e, rfl, he, hen, Classical.byContradiction h1, fun q => h2 (Or.inl q), fun q => h2 (Or.inr q), by simp only [if_neg h1, ↓if_neg h2, ↓if_neg h3]⟩
theorem rz_IE.less {L : List rz_En} {fl ci : Int32} {j b : Nat} {e : rz_En} (h : rz_IE L fl ci) (he : L[j]? = some e) (hb : b < 65536) (hfl : ¬ nI b < fl) : rz_IE (rz_le L j e (nI b) (rz_pl fl (nI b))) fl ci := by
  obtain ⟨⟨c, n, hc, rfl, hn, rfl, hx⟩, hp⟩ := h
  have hcb : c ≤ b := Nat.not_lt.mp (fun q => hfl (nI_lt q (by omega)))
  obtain ⟨a0, m0, u1, u2, u3, u4, u5, u6⟩ := hx e (List.mem_of_getElem? he)
  have hj := (List.getElem?_eq_some_iff.mp he).1
  unfold rz_le
  by_cases hpl : rz_pl (nI c) (nI b) = e.2.2.2.2
  · rw [if_pos hpl]
    refine ⟨⟨c, n, hc, rfl, hn, rfl, fun x hxL => ?_⟩, ?_⟩
    · rcases List.mem_or_eq_of_mem_set hxL with q | q
      · exact hx x q
      · subst q
        exact ⟨b, m0, hcb, hb, rfl, by rw [← hpl]; exact rz_plN hb hc, u5, u6⟩
    · have h1 := (List.pairwise_map (f := Prod.fst) (R := fun (x y : Int32) => ¬ x = y)).mpr hp
      refine (List.pairwise_map (f := Prod.fst) (R := fun (x y : Int32) => ¬ x = y)).mp ?_
      rw [List.map_set]
      have : (L.map Prod.fst).set j e.1 = L.map Prod.fst := by
        refine List.ext_getElem? (fun i => ?_)
        rw [List.getElem?_set]
        by_cases q : j = i
        · subst q; rw [if_pos rfl, if_pos (by rw [List.length_map]; exact hj), List.getElem?_map, he]; rfl
        · rw [if_neg q]
      rw [this]
      exact h1
  · rw [if_neg hpl]
    have hsub := List.eraseIdx_sublist L j
    refine ⟨⟨c, n, hc, rfl, hn, rfl, fun x hxL => ?_⟩, List.pairwise_append.mpr ⟨hp.sublist hsub, List.pairwise_singleton _ _, fun x hxL y hy => ?_⟩⟩
    · rcases List.mem_append.mp hxL with q | q
      · exact hx x (hsub.subset q)
      · rw [List.mem_singleton] at q
        subst q
        exact ⟨b, m0, hcb, hb, rfl, rz_plN hb hc, u5, u6⟩
    · rw [List.mem_singleton] at hy
      subst hy
      have h2 := (List.pairwise_cons.mp (hp.perm (rz_er_perm he).symm (fun {x y} hxy q => hxy q.symm))).1 x hxL
      exact fun q => h2 q.symm
theorem rz_IV_less {s : rz_AS} {n key : Int32} (h : rz_IV s) : rz_IV (rz_less_ s n key).2 := by
  obtain ⟨L, fl, am, lat, rd, laid, ci, co, tb⟩ := s
  by_cases hm : rz_mayL (L, fl, am, lat, rd, laid, ci, co, tb) n key < 0
  · rw [rz_less_may hm]; exact h
  · obtain ⟨j, e, hf, he, hen, hk, h1, h2, h3⟩ := rz_less_ok hm
    obtain ⟨b, hb, rfl⟩ := rz_key_of hk
    rw [h3]
    refine ⟨h.1.less he hb h1, ?_, h.2.2⟩
    have hj := (List.getElem?_eq_some_iff.mp he).1
    have h40 := h.2.1
    show (rz_le L j e (nI b) (rz_pl fl (nI b))).length ≤ 40
    unfold rz_le
    split
    · rw [List.length_set]; exact h40
    · rw [List.length_append, List.length_eraseIdx_of_lt hj, List.length_singleton]; omega
theorem rz_IV_back {s : rz_AS} {n : Int32} (h : rz_IV s) : rz_IV (rz_back_ s n).2 := by
  obtain ⟨L, fl, am, lat, rd, laid, ci, co, tb⟩ := s
  unfold rz_back_
  cases hf : rz_fi L n with
  | none => simp only [hf]; exact h
  | some j => simp only [hf]; exact ⟨h.1.sub (List.eraseIdx_sublist _ _), Nat.le_trans (List.Sublist.length_le (List.eraseIdx_sublist L j)) h.2.1, h.2.2⟩
theorem rz_IV_do {s : rz_AS} {k a b : Int32} (h : rz_IV s) : rz_IV (rz_do_ s k a b).2 := by
  unfold rz_do_
  split
  · exact rz_IV_in h
  · split
    · exact rz_IV_out h
    · split
      · exact rz_IV_back h
      · split
        · exact rz_IV_less h
        · exact h
section RZM9
variable {d a m lo hi n : Nat} {f f2 g : Nat → Int32} {hp h1 : rz_Hp} {R : Option Value → rz_Hp → Prop} {s s2 x : rz_AS} {hist : List rz_AS} {shot : Option rz_AS} {tx : List Int32} {ro re sp sv sh le od : Int32} {os : List rz_Or} {B B2 : Nat} {Z : List rz_Zt} {L : List rz_En} {fl am : Int32} {lat : List rz_La} {rd : Nat → Int32} {laid ci co tb : Int32}
set_option maxHeartbeats 4000000 in
set_option maxRecDepth 100000 in
theorem m_M_nextKey {j : Nat} {e : rz_En} (ha : rz_av hp a = some (0, 430, f)) (h : rz_RW f (L, fl, am, lat, rd, laid, ci, co, tb) B) (hI : rz_IE L fl ci) (hn : rz_nx L j) (he : L[j]? = some e) : rz_ev (d + 2) 143 0 [some (.ref a), none] [] hp R ↔ R (some (.int e.2.1)) hp := by
  obtain ⟨S, Z, hS, hH, hZ, hY⟩ := id h
  obtain ⟨e1, e2⟩ := hI.lpe hn he (rz_YZ_perm hY)
  have ol := fun R => m_M_lowestPile (d := d) ha hZ (R := R)
  have ok := fun R => m_M_keyIn0 (d := d) (p := e.2.2.2.2) ha hZ (R := R)
  rw [e1] at ol
  rw [e2] at ok
  have c1 := (hI.lt40 e (List.mem_of_getElem? he)).1
  simp only [↓ri_143_0, ↓ri_143_1, ↓ri_143_4, ↓ri_143_5, ↓ri_143_6, ↓ri_143_8, ↓ri_143_11, ↓ri_143_13, ↓ri_143_16, ↓ri_143_17, ↓ri_143_18, ↓ri_143_19, ↓ri_143_22, Option.some.injEq, Prod.mk.injEq, exists_eq_left', exists_eq', exists_and_left, exists_and_right, true_and, and_true, true_or, or_true, and_self, and_assoc, Option.toList_some, Option.toList_none, List.cons_append, List.nil_append, ↓reduceIte, rz_x01, rz_x10, ol, ok, ↓if_neg c1]
set_option maxHeartbeats 4000000 in
set_option maxRecDepth 100000 in
theorem m_M_comeOutUpTo_loop {key : Int32} : ∀ (k B m0 : Nat) (s : rz_AS) (hp1 : rz_Hp) (l3 : Option Value), s.1.length ≤ k → m0 + k ≤ 40 → B + 41 * k < 2 ^ 30 → rz_IV s → rz_MM m s hist shot tx ro re sp os B hp1 → rz_sm m (m + 9) hp hp1 → (∀ hp', rz_MM m (rz_ut k s key).2 hist shot tx ro re sp os (B + 41 * k) hp' → rz_sm m (m + 9) hp hp' → R (some (.int (nI (m0 + (rz_ut k s key).1)))) hp') → rz_ev (d + 5) 144 42 [some (.ref m), some (.int key), some (.int (nI m0)), l3] [] hp1 R := by
  intro k
  induction k with
  | zero =>
    intro B m0 s hp1 l3 hl hm hB hI h hs kk
    obtain ⟨⟨f0, -⟩, ⟨f, a1, w1⟩, -⟩ := id h
    have h1 := w1.one.1
    rw [Nat.le_zero.mp hl] at h1
    have c1 : nI 0 ≤ 0 := by decide
    rw [ri_144_42]
    simp only [↓ri_144_43, ↓ri_144_46, ↓ri_144_47, ↓ri_144_48, ↓ri_144_85, ↓ri_144_86, Option.some.injEq, Prod.mk.injEq, exists_eq_left', exists_eq', exists_and_left, exists_and_right, true_and, and_true, true_or, or_true, and_self, and_assoc, Option.toList_some, Option.toList_none, List.cons_append, List.nil_append, ↓reduceIte, rz_x01, rz_x10, f0, a1, rz_v1, rz_k1, h1, ↓if_pos c1]
    exact kk hp1 h hs
  | succ k ih =>
    intro B m0 s hp1 l3 hl hm hB hI h hs kk
    obtain ⟨L, fl, am, lat, rd, laid, ci, co, tb⟩ := s
    obtain ⟨⟨f0, -⟩, ⟨f, a1, w1⟩, -⟩ := id h
    have h1 := w1.one.1
    replace h1 : f 1 = nI L.length := h1
    unfold rz_ut at kk
    cases hn : rz_nxf L with
    | none =>
      have hL := rz_nxf_none hn
      subst hL
      simp only [rz_nxf_nil] at kk
      have c1 : nI ([] : List rz_En).length ≤ 0 := by decide
      rw [ri_144_42]
      simp only [↓ri_144_43, ↓ri_144_46, ↓ri_144_47, ↓ri_144_48, ↓ri_144_85, ↓ri_144_86, Option.some.injEq, Prod.mk.injEq, exists_eq_left', exists_eq', exists_and_left, exists_and_right, true_and, and_true, true_or, or_true, and_self, and_assoc, Option.toList_some, Option.toList_none, List.cons_append, List.nil_append, ↓reduceIte, rz_x01, rz_x10, f0, a1, rz_v1, rz_k1, h1, ↓if_pos c1]
      exact kk hp1 (h.mono (by omega)) hs
    | some j =>
      have hnx := rz_nxf_some hn
      obtain ⟨e, he, -, -⟩ := id hnx
      obtain ⟨e1, he1, -⟩ := rz_re_at he
      have hj := (List.getElem?_eq_some_iff.mp he).1
      have h40 := hI.2.1
      have c1 : ¬ nI L.length ≤ 0 := nI_nle (by omega) (by omega)
      have hd : L.getD j (0, 0, 0, 0, 0) = e := by rw [List.getD_eq_getElem?_getD, he]; rfl
      simp only [hn, hd] at kk
      have ok := fun R => m_M_nextKey (d := d + 2) a1 w1 hI.1 hnx he (R := R)
      by_cases hlt : key < e.2.1
      · simp only [if_pos hlt] at kk
        rw [ri_144_42]
        simp only [↓ri_144_43, ↓ri_144_46, ↓ri_144_47, ↓ri_144_48, ↓ri_144_51, ↓ri_144_52, ↓ri_144_55, ↓ri_144_58, ↓ri_144_59, ↓ri_144_85, ↓ri_144_86, Option.some.injEq, Prod.mk.injEq, exists_eq_left', exists_eq', exists_and_left, exists_and_right, true_and, and_true, true_or, or_true, and_self, and_assoc, Option.toList_some, Option.toList_none, List.cons_append, List.nil_append, ↓reduceIte, rz_x01, rz_x10, f0, a1, rz_v1, rz_k1, h1, ↓if_neg c1, ok, ↓if_pos hlt]
        exact kk hp1 (h.mono (by omega)) hs
      · simp only [if_neg hlt] at kk
        rw [ri_144_42]
        simp only [↓ri_144_43, ↓ri_144_46, ↓ri_144_47, ↓ri_144_48, ↓ri_144_51, ↓ri_144_52, ↓ri_144_55, ↓ri_144_58, ↓ri_144_59, ↓ri_144_62, ↓ri_144_63, ↓ri_144_66, Option.some.injEq, Prod.mk.injEq, exists_eq_left', exists_eq', exists_and_left, exists_and_right, true_and, and_true, true_or, or_true, and_self, and_assoc, Option.toList_some, Option.toList_none, List.cons_append, List.nil_append, ↓reduceIte, rz_x01, rz_x10, f0, a1, rz_v1, rz_k1, h1, ↓if_neg c1, ok, ↓if_neg hlt]
        refine m_M_comesOut (d := d) a1 w1 hI.1 hn (by omega) (fun h2 f2 a2 w2 s2 => ?_)
        have hnn : (rz_out_ (L, fl, am, lat, rd, laid, ci, co, tb)).1 = e.1 := by rw [rz_out_eq hn he he1]
        have c2 : 0 ≤ e.1 := (hI.1.lt40 e (List.mem_of_getElem? he)).2.2.2.2
        rw [hnn]
        simp only [↓ri_144_69, ↓ri_144_70, ↓ri_144_71, ↓ri_144_72, ↓ri_144_75, ↓ri_144_76, ↓ri_144_79, ↓ri_144_80, ↓ri_144_81, ↓ri_144_82, Option.some.injEq, Prod.mk.injEq, exists_eq_left', exists_eq', exists_and_left, exists_and_right, true_and, and_true, true_or, or_true, and_self, and_assoc, Option.toList_some, Option.toList_none, List.cons_append, List.nil_append, ↓reduceIte, rz_x01, rz_x10, ↓if_pos c2, nI_1]
        have hlen : (rz_out_ (L, fl, am, lat, rd, laid, ci, co, tb)).2.1.length = L.length - 1 := rz_out_len hn
        have hl' : L.length ≤ k + 1 := hl
        refine ih (B + 41) (m0 + 1) _ h2 _ (by rw [hlen]; omega) (by omega) (by omega) (rz_IV_out hI) (h.row ⟨f2, a2, w2⟩ (by omega) s2) (hs.tr (s2.wd (by omega) (by omega))) (fun hp' h' s' => ?_)
        have := kk hp' (h'.mono (by omega)) s'
        rwa [show m0 + ((rz_ut k (rz_out_ (L, fl, am, lat, rd, laid, ci, co, tb)).2 key).1 + 1) = m0 + 1 + (rz_ut k (rz_out_ (L, fl, am, lat, rd, laid, ci, co, tb)).2 key).1 by omega] at this
set_option maxHeartbeats 4000000 in
set_option maxRecDepth 100000 in
theorem m_M_comeOutUpTo {key : Int32} (h : rz_MM m s hist shot tx ro re sp os B hp) (hI : rz_IV s) (hB : B < 2 ^ 29) (kk : ∀ hp', rz_MM m (rz_upto_ s key).2 (rz_hs (rz_upto_ s key).1 s hist) shot tx ro re sp os (B + 2000) hp' → rz_sm m (m + 9) hp hp' → R (some (.int (rz_upto_ s key).1)) hp') : rz_ev (d + 5) 144 0 [some (.ref m), some (.int key), none, none] [] hp R := by
  unfold rz_upto_ at kk
  have z10 : ¬ (1 : Int32) = 0 := by decide
  by_cases hk : rz_key key
  · have o1 := fun R => (m_M_in (d := d + 4) (hp := hp) (R := R)).1 hk
    simp only [hk, not_true_eq_false, if_false] at kk
    obtain ⟨⟨f0, -⟩, ⟨f, a1, w1⟩, -⟩ := id h
    have h1 := w1.one.1
    cases hn : rz_nxf s.1 with
    | none =>
      have hL := rz_nxf_none hn
      rw [hL] at h1
      have c1 : nI ([] : List rz_En).length = 0 := rfl
      have e0 : rz_ut 40 s key = (0, s) := by unfold rz_ut; rw [hn]
      rw [e0] at kk
      simp only [↓ri_144_0, ↓ri_144_1, ↓ri_144_2, ↓ri_144_4, ↓ri_144_7, ↓ri_144_10, ↓ri_144_12, ↓ri_144_13, ↓ri_144_14, ↓ri_144_17, ↓ri_144_18, ↓ri_144_19, ↓ri_144_22, ↓ri_144_23, ↓ri_144_26, ↓ri_144_29, ↓ri_144_30, ↓ri_144_33, ↓ri_144_35, Option.some.injEq, Prod.mk.injEq, exists_eq_left', exists_eq', exists_and_left, exists_and_right, true_and, and_true, true_or, or_true, and_self, and_assoc, Option.toList_some, Option.toList_none, List.cons_append, List.nil_append, ↓reduceIte, rz_x01, rz_x10, o1, f0, a1, rz_v1, rz_k1, h1, ↓if_neg z10, ↓if_pos c1]
      exact kk hp (by unfold rz_hs rz_uA; rw [if_pos rfl, if_pos (show (-5 : Int32) < 0 by decide)]; exact h.mono (by omega)) rz_sm.rf
    | some j =>
      obtain ⟨L, fl, am, lat, rd, laid, ci, co, tb⟩ := s
      replace h1 : f 1 = nI L.length := h1
      replace hn : rz_nxf L = some j := hn
      have hnx := rz_nxf_some hn
      obtain ⟨e, he, -, -⟩ := id hnx
      have hj := (List.getElem?_eq_some_iff.mp he).1
      have h40 := hI.2.1
      have c1 : ¬ nI L.length = 0 := nI_ne0 (by omega) (by omega)
      have hd : L.getD j (0, 0, 0, 0, 0) = e := by rw [List.getD_eq_getElem?_getD, he]; rfl
      have ok := fun R => m_M_nextKey (d := d + 2) a1 w1 hI.1 hnx he (R := R)
      by_cases hlt : key < e.2.1
      · have c2 : ¬ e.2.1 ≤ key := Int32.not_le.mpr hlt
        have e0 : rz_ut 40 (L, fl, am, lat, rd, laid, ci, co, tb) key = (0, L, fl, am, lat, rd, laid, ci, co, tb) := by unfold rz_ut; simp only [hn, hd, ↓if_pos hlt]
        rw [e0] at kk
        simp only [↓ri_144_0, ↓ri_144_1, ↓ri_144_2, ↓ri_144_4, ↓ri_144_7, ↓ri_144_10, ↓ri_144_12, ↓ri_144_13, ↓ri_144_14, ↓ri_144_17, ↓ri_144_18, ↓ri_144_19, ↓ri_144_22, ↓ri_144_23, ↓ri_144_26, ↓ri_144_29, ↓ri_144_30, ↓ri_144_33, ↓ri_144_35, Option.some.injEq, Prod.mk.injEq, exists_eq_left', exists_eq', exists_and_left, exists_and_right, true_and, and_true, true_or, or_true, and_self, and_assoc, Option.toList_some, Option.toList_none, List.cons_append, List.nil_append, ↓reduceIte, rz_x01, rz_x10, o1, f0, a1, rz_v1, rz_k1, h1, ↓if_neg z10, ↓if_neg c1, ok, ↓if_neg c2]
        exact kk hp (by unfold rz_hs rz_uA; rw [if_pos rfl, if_pos (show (-5 : Int32) < 0 by decide)]; exact h.mono (by omega)) rz_sm.rf
      · have c2 : e.2.1 ≤ key := Int32.not_lt.mp hlt
        have e0 : 0 < (rz_ut 40 (L, fl, am, lat, rd, laid, ci, co, tb) key).1 := by unfold rz_ut; simp only [hn, hd, ↓if_neg hlt]; exact Nat.succ_pos _
        have ele := rz_ut_le 40 (L, fl, am, lat, rd, laid, ci, co, tb) key
        have eA : rz_uA (rz_ut 40 (L, fl, am, lat, rd, laid, ci, co, tb) key).1 = nI (rz_ut 40 (L, fl, am, lat, rd, laid, ci, co, tb) key).1 := if_neg (by omega)
        have hnn : ¬ nI (rz_ut 40 (L, fl, am, lat, rd, laid, ci, co, tb) key).1 < 0 := nI_pos (by omega)
        unfold rz_hs at kk
        rw [eA, if_neg hnn] at kk
        simp only [↓ri_144_0, ↓ri_144_1, ↓ri_144_2, ↓ri_144_4, ↓ri_144_7, ↓ri_144_10, ↓ri_144_12, ↓ri_144_13, ↓ri_144_14, ↓ri_144_17, ↓ri_144_18, ↓ri_144_19, ↓ri_144_22, ↓ri_144_23, ↓ri_144_26, ↓ri_144_29, ↓ri_144_30, ↓ri_144_33, ↓ri_144_35, ↓ri_144_36, ↓ri_144_37, Option.some.injEq, Prod.mk.injEq, exists_eq_left', exists_eq', exists_and_left, exists_and_right, true_and, and_true, true_or, or_true, and_self, and_assoc, Option.toList_some, Option.toList_none, List.cons_append, List.nil_append, ↓reduceIte, rz_x01, rz_x10, o1, f0, a1, rz_v1, rz_k1, h1, ↓if_neg z10, ↓if_neg c1, ok, ↓if_pos c2, rz_co_fv f0]
        refine m_M_records (d := d + 2) h (fun h2 k2 s2 => ?_)
        simp only [↓ri_144_40, ↓ri_144_41, Option.some.injEq, Prod.mk.injEq, exists_eq_left', exists_eq', exists_and_left, exists_and_right, true_and, and_true, true_or, or_true, and_self, and_assoc, Option.toList_some, Option.toList_none, List.cons_append, List.nil_append, ↓reduceIte, rz_x01, rz_x10]
        have := m_M_comeOutUpTo_loop (d := d) (R := R) (hp := hp) (key := key) 40 B 0 (L, fl, am, lat, rd, laid, ci, co, tb) h2 none h40 (by omega) (by omega) hI k2 s2 (fun hp' h' s' => by
          rw [Nat.zero_add]
          exact kk hp' (h'.mono (by omega)) s')
        rw [nI_0] at this
        exact this
  · have o1 := fun R => (m_M_in (d := d + 4) (hp := hp) (R := R)).2 hk
    simp only [hk, not_false_eq_true, if_true] at kk
    simp only [↓ri_144_0, ↓ri_144_1, ↓ri_144_2, ↓ri_144_4, ↓ri_144_7, ↓ri_144_10, ↓ri_144_12, Option.some.injEq, Prod.mk.injEq, exists_eq_left', exists_eq', exists_and_left, exists_and_right, true_and, and_true, true_or, or_true, and_self, and_assoc, Option.toList_some, Option.toList_none, List.cons_append, List.nil_append, ↓reduceIte, rz_x01, rz_x10, o1]
    exact kk hp (by unfold rz_hs; rw [if_pos (show (-2 : Int32) < 0 by decide)]; exact h.mono (by omega)) rz_sm.rf
end RZM9
