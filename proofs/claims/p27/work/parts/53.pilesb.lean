/-! A thousand entries, and piles() as a whole -/
theorem rz_in_yes {s : rz_AS} {key val : Int32} (hk : rz_key key) (hv : ¬ (val < 0 ∨ 999 < val)) (hf : ¬ key < s.2.1) (hL : s.1.length < 40) (hc : ¬ 1000 ≤ s.2.2.2.2.2.2.1) : rz_in_ s key val = (s.2.2.2.2.2.2.1, s.1 ++ [(s.2.2.2.2.2.2.1, key, val, 0, rz_pl s.2.1 key)], s.2.1, s.2.2.1, s.2.2.2.1, s.2.2.2.2.1, s.2.2.2.2.2.1, s.2.2.2.2.2.2.1 + 1, s.2.2.2.2.2.2.2) := by
  obtain ⟨L, fl, am, lat, rd, laid, ci, co, tb⟩ := s
  unfold rz_in_
  dsimp only
  rw [if_neg (fun q => by rcases q with q | q; exact q hk; exact hv q), if_neg hf, if_neg (fun q => by rcases q with q | q; exact q hL; exact hc q)]
theorem rz_in_full {s : rz_AS} {key val : Int32} (hk : rz_key key) (hv : ¬ (val < 0 ∨ 999 < val)) (hf : ¬ key < s.2.1) (hL : ¬ s.1.length < 40 ∨ 1000 ≤ s.2.2.2.2.2.2.1) : rz_in_ s key val = (-3, s) := by
  obtain ⟨L, fl, am, lat, rd, laid, ci, co, tb⟩ := s
  unfold rz_in_
  dsimp only
  rw [if_neg (fun q => by rcases q with q | q; exact q hk; exact hv q), if_neg hf, if_pos hL]
theorem rz_in_low {s : rz_AS} {key val : Int32} (hk : rz_key key) (hv : ¬ (val < 0 ∨ 999 < val)) (hf : key < s.2.1) : rz_in_ s key val = (-4, s) := by
  obtain ⟨L, fl, am, lat, rd, laid, ci, co, tb⟩ := s
  unfold rz_in_
  dsimp only
  rw [if_neg (fun q => by rcases q with q | q; exact q hk; exact hv q), if_pos hf]
theorem rz_out_one {s : rz_AS} {e : rz_En} (h : s.1 = [e]) : (rz_out_ s).1 = e.1 ∧ (rz_out_ s).2.1 = [] ∧ (rz_out_ s).2.2.1 = rz_reF s.2.1 e ∧ (rz_out_ s).2.2.2.2.2.2.2.1 = s.2.2.2.2.2.2.1 := by
  obtain ⟨L, fl, am, lat, rd, laid, ci, co, tb⟩ := s
  have h : L = [e] := h
  subst h
  have hn := rz_nxf_one e
  obtain ⟨e1, he1, -⟩ := rz_re_at (L := [e]) (e := e) (j := 0) rfl
  rw [rz_out_eq hn rfl he1]
  refine ⟨rfl, ?_, rfl, rfl⟩
  unfold rz_re
  split <;> rfl
def pp_L (m : Nat) : List rz_En := (List.range m).map (fun j => (nI (960 + j), 65535, 0, 0, 16))
theorem pp_L_s (m : Nat) : pp_L (m + 1) = pp_L m ++ [(nI (960 + m), 65535, 0, 0, 16)] := by
  unfold pp_L
  rw [List.range_succ, List.map_append]
  rfl
theorem pp_L_len (m : Nat) : (pp_L m).length = m := by
  unfold pp_L
  rw [List.length_map, List.length_range]
/-- p after k rounds -/
def pp_I (k : Nat) (s : rz_AS) : Prop := s.1 = pp_L (k - 960) ∧ s.2.1 = nI (min k 960 - 1) ∧ s.2.2.2.2.2.2.1 = nI k
theorem pp_pl {k : Nat} (h1 : 1 ≤ k) (h2 : k < 960) : ¬ rz_pl (nI (k - 1)) (nI k) = 0 := by
  unfold rz_pl
  rw [nI_clamp (by omega), nI_clamp (by omega)]
  have hx : ¬ k ^^^ (k - 1) = 0 := fun q => by
    have := rz_x0.mp q
    omega
  have hlt : k ^^^ (k - 1) < 2 ^ 10 := Nat.xor_lt_two_pow (by omega) (by omega)
  have hl := (Nat.log2_lt hx).mpr hlt
  have hb : rz_bl (k ^^^ (k - 1)) = (k ^^^ (k - 1)).log2 + 1 := by
    unfold rz_bl
    rw [if_neg hx]
  rw [hb]
  exact nI_ne0 (by omega) (by omega)
section PPL
variable {d p : Nat} {hp : rz_Hp} {R : Option Value → rz_Hp → Prop} {l0 : Option Value}
set_option maxHeartbeats 4000000 in
set_option maxRecDepth 100000 in
theorem pp_loop (kk : ∀ nw hist hp1, pp_I 1000 nw → rz_OJ p nw rz_st0 hist [] 0 0 0 hp1 → rz_sm p (p + 115) hp hp1 → rz_ev (d + 9) 122 773 [l0, some (.ref p), some (.int (nI 1000))] [] hp1 R) : ∀ k, k ≤ 1000 → ∀ nw hist hp1, pp_I k nw → rz_OJ p nw rz_st0 hist [] 0 0 0 hp1 → rz_sm p (p + 115) hp hp1 → rz_ev (d + 9) 122 721 [l0, some (.ref p), some (.int (nI k))] [] hp1 R := by
  refine rz_down 1000 ?_ ?_
  · intro nw hist hp1 hI h s
    have c1 : (1000 : Int32) ≤ nI 1000 := by decide
    rw [ri_122_721]
    simp only [↓ri_122_722, ↓ri_122_725, Option.some.injEq, Prod.mk.injEq, exists_eq_left', exists_eq', exists_and_left, exists_and_right, true_and, and_true, true_or, or_true, and_self, and_assoc, Option.toList_some, Option.toList_none, List.cons_append, List.nil_append, ↓reduceIte, rz_x01, rz_x10, ↓if_pos c1]
    exact kk nw hist hp1 hI h s
  · intro k hk ih nw hist hp1 hI h s
    obtain ⟨i1, i2, i3⟩ := hI
    have c1 : ¬ (1000 : Int32) ≤ nI k := nI_ge (b := 1000) hk (by decide)
    have hc := h.co
    have hv : ¬ ((0 : Int32) < 0 ∨ (999 : Int32) < 0) := by decide
    have hci : ¬ 1000 ≤ nw.2.2.2.2.2.2.1 := by rw [i3]; exact c1
    have hL : nw.1.length < 40 := by rw [i1, pp_L_len]; omega
    rw [ri_122_721]
    by_cases hk9 : k < 960
    · have c2 : ¬ (960 : Int32) ≤ nI k := nI_ge (b := 960) hk9 (by decide)
      have i1' : nw.1 = [] := by rw [i1, show k - 960 = 0 by omega]; rfl
      have i2' : nw.2.1 = nI (k - 1) := by rw [i2, show min k 960 - 1 = k - 1 by omega]
      have hkey : rz_key (nI k) := ⟨nI_pos' (by omega), by rw [show (65535 : Int32) = nI 65535 from rfl]; exact nI_le (by omega) (by omega)⟩
      have hf : ¬ nI k < nw.2.1 := by rw [i2']; exact Int32.not_lt.mpr (nI_le (by omega) (by omega))
      have e1 := rz_in_yes (s := nw) (val := 0) hkey hv hf hL hci
      rw [i3, i1', List.nil_append] at e1
      simp only [↓ri_122_722, ↓ri_122_725, ↓ri_122_728, ↓ri_122_729, ↓ri_122_730, ↓ri_122_733, ↓ri_122_736, ↓ri_122_737, ↓ri_122_740, ↓ri_122_742, ↓ri_122_743, Option.some.injEq, Prod.mk.injEq, exists_eq_left', exists_eq', exists_and_left, exists_and_right, true_and, and_true, true_or, or_true, and_self, and_assoc, Option.toList_some, Option.toList_none, List.cons_append, List.nil_append, ↓reduceIte, rz_x01, rz_x10, ↓if_neg c1, ↓if_neg c2, hc]
      refine q_comeIn_y (d := d + 2) h e1 (nI_pos (by omega)) (fun hp2 h2 s2 => ?_)
      have hc2 := h2.co
      simp only [↓ri_122_746, ↓ri_122_747, ↓ri_122_750, ↓ri_122_751, ↓ri_122_754, ↓ri_122_757, ↓ri_122_758, Option.some.injEq, Prod.mk.injEq, exists_eq_left', exists_eq', exists_and_left, exists_and_right, true_and, and_true, true_or, or_true, and_self, and_assoc, Option.toList_some, Option.toList_none, List.cons_append, List.nil_append, ↓reduceIte, rz_x01, rz_x10, ↓if_neg c2, hc2]
      have eo := rz_out_one (s := ([(nI k, nI k, 0, 0, rz_pl nw.2.1 (nI k))], nw.2.1, nw.2.2.1, nw.2.2.2.1, nw.2.2.2.2.1, nw.2.2.2.2.2.1, nI k + 1, nw.2.2.2.2.2.2.2)) rfl
      refine q_comeOut (d := d + 2) h2 (fun hp3 h3 s3 => ?_)
      rw [eo.1]
      simp only [↓ri_122_761, ↓ri_122_762, ↓ri_122_765, ↓ri_122_766, ↓ri_122_767, ↓ri_122_770, Option.some.injEq, Prod.mk.injEq, exists_eq_left', exists_eq', exists_and_left, exists_and_right, true_and, and_true, true_or, or_true, and_self, and_assoc, Option.toList_some, Option.toList_none, List.cons_append, List.nil_append, ↓reduceIte, rz_x01, rz_x10, nI_1]
      refine ih _ _ hp3 ⟨?_, ?_, ?_⟩ h3 ((s.tr s2).tr s3)
      · rw [eo.2.1, show k + 1 - 960 = 0 by omega]; rfl
      · rw [eo.2.2.1, show min (k + 1) 960 - 1 = k by omega]
        show rz_reF nw.2.1 _ = _
        unfold rz_reF
        dsimp only
        rw [i2']
        by_cases h0 : k = 0
        · subst h0; decide +kernel
        · rw [if_neg (pp_pl (by omega) hk9)]
      · rw [eo.2.2.2]
        exact nI_1 k
    · have c2 : (960 : Int32) ≤ nI k := nI_le (a := 960) (by omega) (by omega)
      have i2' : nw.2.1 = 959 := by rw [i2, show min k 960 - 1 = 959 by omega]; rfl
      have hkey : rz_key 65535 := ⟨by decide, by decide⟩
      have hf : ¬ (65535 : Int32) < nw.2.1 := by rw [i2']; decide
      have e1 := rz_in_yes (s := nw) (val := 0) hkey hv hf hL hci
      rw [i3] at e1
      simp only [↓ri_122_722, ↓ri_122_725, ↓ri_122_728, ↓ri_122_729, ↓ri_122_730, ↓ri_122_733, ↓ri_122_736, ↓ri_122_737, ↓ri_122_740, ↓ri_122_742, ↓ri_122_743, Option.some.injEq, Prod.mk.injEq, exists_eq_left', exists_eq', exists_and_left, exists_and_right, true_and, and_true, true_or, or_true, and_self, and_assoc, Option.toList_some, Option.toList_none, List.cons_append, List.nil_append, ↓reduceIte, rz_x01, rz_x10, ↓if_neg c1, ↓if_pos c2, hc]
      refine q_comeIn_y (d := d + 2) h e1 (nI_pos (by omega)) (fun hp2 h2 s2 => ?_)
      have hc2 := h2.co
      simp only [↓ri_122_746, ↓ri_122_747, ↓ri_122_750, ↓ri_122_751, ↓ri_122_754, ↓ri_122_767, ↓ri_122_770, Option.some.injEq, Prod.mk.injEq, exists_eq_left', exists_eq', exists_and_left, exists_and_right, true_and, and_true, true_or, or_true, and_self, and_assoc, Option.toList_some, Option.toList_none, List.cons_append, List.nil_append, ↓reduceIte, rz_x01, rz_x10, ↓if_pos c2, hc2, nI_1]
      refine ih _ _ hp2 ⟨?_, ?_, ?_⟩ h2 (s.tr s2)
      · rw [show k + 1 - 960 = (k - 960) + 1 by omega, pp_L_s, show 960 + (k - 960) = k by omega]
        show nw.1 ++ _ = _
        rw [i1, i2']
        rfl
      · show nw.2.1 = _
        rw [i2', show min (k + 1) 960 - 1 = 959 by omega]
        rfl
      · exact nI_1 k
theorem pp_f1 : rz_smp (pp_L 40) = 640 := by decide +kernel
theorem pp_f2 : rz_fi (pp_L 40) 999 = some 39 := by decide +kernel
theorem pp_f3 : ((pp_L 40).getD 39 (0, 0, 0, 0, 0)).2.1 = 65535 := by decide +kernel
theorem pp_f4 : rz_next_ ((pp_L 40).eraseIdx 39) 2 = 39 := by decide +kernel
theorem pp_f5 : rz_nxf ((pp_L 40).eraseIdx 39) = some 0 := by decide +kernel
def pp_e : rz_En := (960, 65535, 0, 0, 16)
theorem pp_f6 : ((pp_L 40).eraseIdx 39)[0]? = some pp_e := by decide +kernel
theorem pp_f7 : rz_smp ((rz_re ((pp_L 40).eraseIdx 39) pp_e).eraseIdx 0) = 0 := by decide +kernel
theorem pp_f8 : rz_next_ ((rz_re ((pp_L 40).eraseIdx 39) pp_e).eraseIdx 0) 2 = 0 := by decide +kernel
set_option maxHeartbeats 4000000 in
set_option maxRecDepth 100000 in
theorem pp_end {nw : rz_AS} {hist : List rz_AS} {l2 : Option Value} (hI : pp_I 1000 nw) (h : rz_OJ p nw rz_st0 hist [] 0 0 0 hp) (kk : ∀ hp', rz_sm p (p + 115) hp hp' → R (some (.int 1)) hp') : rz_ev (d + 9) 122 773 [l0, some (.ref p), l2] [] hp R := by
  obtain ⟨L, fl, am, lat, rd, laid, ci, co, tb⟩ := nw
  obtain ⟨i1, i2, i3⟩ := hI
  have i1 : L = pp_L 40 := i1
  have hi2 : fl = nI 959 := i2
  have i3 : ci = nI 1000 := i3
  clear i2
  subst i1; subst i3; subst hi2
  have hc := h.co
  have hkey : rz_key 65535 := ⟨by decide, by decide⟩
  have hkey7 : rz_key 7 := ⟨by decide, by decide⟩
  have hv : ¬ ((0 : Int32) < 0 ∨ (999 : Int32) < 0) := by decide
  have b0 := fun (R : Option Value → rz_Hp → Prop) => (q_count (d := d + 4) (what := 0) h (R := R)).trans (by rw [show rz_count_ (pp_L 40, nI 959, am, lat, rd, laid, nI 1000, co, tb) hist.length ([] : List Int32).length 0 = 40 from by show nI (pp_L 40).length = 40; rw [pp_L_len]; rfl])
  simp only [↓ri_122_773, ↓ri_122_774, ↓ri_122_775, ↓ri_122_778, ↓ri_122_780, ↓ri_122_783, ↓ri_122_784, ↓ri_122_786, ↓ri_122_787, Option.some.injEq, Prod.mk.injEq, exists_eq_left', exists_eq', exists_and_left, exists_and_right, true_and, and_true, true_or, or_true, and_self, and_assoc, Option.toList_some, Option.toList_none, List.cons_append, List.nil_append, ↓reduceIte, rz_x01, rz_x10, hc, b0]
  refine q_comeIn_n (d := d + 2) h (rz_in_full hkey hv (by show ¬ (65535 : Int32) < nI 959; decide) (Or.inl (by show ¬ (pp_L 40).length < 40; rw [pp_L_len]; decide))) (by decide) (fun hp1 h1 s1 => ?_)
  have hc1 := h1.co
  simp only [↓ri_122_790, ↓ri_122_792, ↓ri_122_795, ↓ri_122_796, ↓ri_122_798, ↓ri_122_799, Option.some.injEq, Prod.mk.injEq, exists_eq_left', exists_eq', exists_and_left, exists_and_right, true_and, and_true, true_or, or_true, and_self, and_assoc, Option.toList_some, Option.toList_none, List.cons_append, List.nil_append, ↓reduceIte, rz_x01, rz_x10, hc1]
  refine q_comeIn_n (d := d + 2) h1 (rz_in_low hkey7 hv (by show (7 : Int32) < nI 959; decide)) (by decide) (fun hp2 h2 s2 => ?_)
  have hc2 := h2.co
  have b1 := fun (R : Option Value → rz_Hp → Prop) => (q_movesLeft (d := d + 5) h2 (R := R)).trans (by rw [show rz_smp (pp_L 40, nI 959, am, lat, rd, laid, nI 1000, co, tb).1 = 640 from pp_f1])
  simp only [↓ri_122_802, ↓ri_122_804, ↓ri_122_807, ↓ri_122_808, ↓ri_122_811, ↓ri_122_814, ↓ri_122_817, ↓ri_122_818, ↓ri_122_821, Option.some.injEq, Prod.mk.injEq, exists_eq_left', exists_eq', exists_and_left, exists_and_right, true_and, and_true, true_or, or_true, and_self, and_assoc, Option.toList_some, Option.toList_none, List.cons_append, List.nil_append, ↓reduceIte, rz_x01, rz_x10, hc2, b1]
  have e3 : rz_back_ (pp_L 40, nI 959, am, lat, rd, laid, nI 1000, co, tb) 999 = (65535, (pp_L 40).eraseIdx 39, nI 959, am, lat, rd, laid, nI 1000, co, tb + 1) := by
    unfold rz_back_
    dsimp only
    rw [pp_f2]
    dsimp only
    rw [pp_f3]
  refine q_takeBack_y (d := d + 2) h2 e3 (by decide) (fun hp3 h3 s3 => ?_)
  have hc3 := h3.co
  simp only [↓ri_122_824, ↓ri_122_826, ↓ri_122_829, ↓ri_122_830, ↓ri_122_832, ↓ri_122_833, Option.some.injEq, Prod.mk.injEq, exists_eq_left', exists_eq', exists_and_left, exists_and_right, true_and, and_true, true_or, or_true, and_self, and_assoc, Option.toList_some, Option.toList_none, List.cons_append, List.nil_append, ↓reduceIte, rz_x01, rz_x10, hc3]
  refine q_comeIn_n (d := d + 2) h3 (rz_in_full hkey hv (by show ¬ (65535 : Int32) < nI 959; decide) (Or.inr (by show (1000 : Int32) ≤ nI 1000; decide))) (by decide) (fun hp4 h4 s4 => ?_)
  have hc4 := h4.co
  have b2 := fun (R : Option Value → rz_Hp → Prop) => (q_next (d := d + 4) (what := 2) h4 (R := R)).trans (by rw [show rz_next_ ((pp_L 40).eraseIdx 39, nI 959, am, lat, rd, laid, nI 1000, co, tb + 1).1 2 = 39 from pp_f4])
  simp only [↓ri_122_836, ↓ri_122_838, ↓ri_122_841, ↓ri_122_842, ↓ri_122_843, ↓ri_122_846, ↓ri_122_848, ↓ri_122_851, ↓ri_122_852, Option.some.injEq, Prod.mk.injEq, exists_eq_left', exists_eq', exists_and_left, exists_and_right, true_and, and_true, true_or, or_true, and_self, and_assoc, Option.toList_some, Option.toList_none, List.cons_append, List.nil_append, ↓reduceIte, rz_x01, rz_x10, hc4, b2]
  obtain ⟨e1, he1, -⟩ := rz_re_at (L := (pp_L 40).eraseIdx 39) (e := pp_e) (j := 0) pp_f6
  have e5 := rz_out_eq (fl := nI 959) (am := am) (lat := lat) (rd := rd) (laid := laid) (ci := nI 1000) (co := co) (tb := tb + 1) pp_f5 pp_f6 he1
  refine q_comeOut_y (d := d + 2) h4 e5 (by decide) (fun hp5 h5 s5 => ?_)
  have hc5 := h5.co
  have b3 := fun (R : Option Value → rz_Hp → Prop) => (q_movesLeft (d := d + 5) h5 (R := R)).trans (by rw [pp_f7])
  have b4 := fun (R : Option Value → rz_Hp → Prop) => (q_next (d := d + 4) (what := 2) h5 (R := R)).trans (by rw [pp_f8])
  have e9 : pp_e.1 = 960 := rfl
  simp only [↓ri_122_855, ↓ri_122_858, ↓ri_122_861, ↓ri_122_862, ↓ri_122_865, ↓ri_122_868, ↓ri_122_869, ↓ri_122_870, ↓ri_122_873, ↓ri_122_876, ↓ri_122_877, Option.some.injEq, Prod.mk.injEq, exists_eq_left', exists_eq', exists_and_left, exists_and_right, true_and, and_true, true_or, or_true, and_self, and_assoc, Option.toList_some, Option.toList_none, List.cons_append, List.nil_append, ↓reduceIte, rz_x01, rz_x10, hc5, b3, b4, e9]
  refine q_refused (d := d) h5 (fun hp6 h6 s6 => ?_)
  simp only [↓ri_122_880, ↓ri_122_883, ↓ri_122_884, ↓ri_122_887, ↓ri_122_888, Option.some.injEq, Prod.mk.injEq, exists_eq_left', exists_eq', exists_and_left, exists_and_right, true_and, and_true, true_or, or_true, and_self, and_assoc, Option.toList_some, Option.toList_none, List.cons_append, List.nil_append, ↓reduceIte, rz_x01, rz_x10]
  exact kk _ (((((s1.tr s2).tr s3).tr s4).tr s5).tr s6)
end PPL
