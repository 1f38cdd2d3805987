/-! RisingPilesModel: next, ranked -/
section RZMG
variable {d a m lo hi n : Nat} {f f2 g : Nat → Int32} {hp h1 : rz_Hp} {R : Option Value → rz_Hp → Prop} {s s2 x : rz_AS} {hist : List rz_AS} {shot : Option rz_AS} {tx : List Int32} {ro re sp sv sh le od : Int32} {os : List rz_Or} {B B2 : Nat} {Z : List rz_Zt} {L : List rz_En} {fl am : Int32} {lat : List rz_La} {rd : Nat → Int32} {laid ci co tb : Int32}
set_option maxHeartbeats 4000000 in
set_option maxRecDepth 100000 in
theorem m_M_next {what : Int32} (h : rz_MM m s hist shot tx ro re sp os B hp) (hI : rz_IV s) (hB : B < 2 ^ 29) (kk : ∀ hp', rz_MM m s hist shot tx ro re sp os B hp' → rz_sm m (m + 9) hp hp' → R (some (.int (rz_next_ s.1 what))) hp') : rz_ev (d + 6) 170 0 [some (.ref m), some (.int what)] [] hp R := by
  obtain ⟨L, fl, am, lat, rd, laid, ci, co, tb⟩ := s
  obtain ⟨p0, p1, p2, p3, p4, p5, p6, p7, p8⟩ := id h
  obtain ⟨f0, f1, f2, f3, f4, f5, f6, f7, f8, f9, f10, f11, f12, f13, f14⟩ := id p0
  obtain ⟨f, a1, w1⟩ := id p1
  obtain ⟨g, a3⟩ := id p3
  have hone := w1.one.1
  replace hone : f 1 = nI L.length := hone
  have z10 : ¬ (1 : Int32) = 0 := by decide
  unfold rz_next_ at kk
  by_cases hw : 0 ≤ what ∧ what ≤ 2
  · have oi := fun R => (m_M_in (d := d + 5) (hp := hp) (R := R)).1 hw
    have g1 : ¬ (what < 0 ∨ 2 < what) := fun q => q.elim (Int32.not_lt.mpr hw.1) (Int32.not_lt.mpr hw.2)
    rw [if_neg g1] at kk
    cases hn : rz_nxf L with
    | none =>
      have hL := rz_nxf_none hn
      subst hL
      have c1 : nI ([] : List rz_En).length = 0 := rfl
      simp only [rz_nxf_nil] at kk
      simp only [↓ri_170_0, ↓ri_170_1, ↓ri_170_2, ↓ri_170_3, ↓ri_170_6, ↓ri_170_9, ↓ri_170_11, ↓ri_170_14, ↓ri_170_15, ↓ri_170_18, ↓ri_170_19, ↓ri_170_20, ↓ri_170_23, ↓ri_170_25, ↓ri_170_28, ↓ri_170_29, ↓ri_170_30, ↓ri_170_33, Option.some.injEq, Prod.mk.injEq, exists_eq_left', exists_eq', exists_and_left, exists_and_right, true_and, and_true, true_or, or_true, and_self, and_assoc, Option.toList_some, Option.toList_none, List.cons_append, List.nil_append, ↓reduceIte, rz_x01, rz_x10, oi, ↓if_neg z10, f0, a1, rz_v1, rz_k1, hone, ↓if_pos c1]
      exact kk hp h rz_sm.rf
    | some j =>
      have hnx := rz_nxf_some hn
      obtain ⟨e, he, -, -⟩ := id hnx
      obtain ⟨e1, he1, -⟩ := rz_re_at he
      have hj := (List.getElem?_eq_some_iff.mp he).1
      have h40 := hI.2.1
      have c1 : ¬ nI L.length = 0 := nI_ne0 (by omega) (by omega)
      have hd : L.getD j (0, 0, 0, 0, 0) = e := by rw [List.getD_eq_getElem?_getD, he]; rfl
      simp only [hn, hd] at kk
      simp only [↓ri_170_0, ↓ri_170_1, ↓ri_170_2, ↓ri_170_3, ↓ri_170_6, ↓ri_170_9, ↓ri_170_11, ↓ri_170_14, ↓ri_170_15, ↓ri_170_18, ↓ri_170_19, ↓ri_170_20, ↓ri_170_23, ↓ri_170_25, ↓ri_170_28, ↓ri_170_29, ↓ri_170_30, Option.some.injEq, Prod.mk.injEq, exists_eq_left', exists_eq', exists_and_left, exists_and_right, true_and, and_true, true_or, or_true, and_self, and_assoc, Option.toList_some, Option.toList_none, List.cons_append, List.nil_append, ↓reduceIte, rz_x01, rz_x10, oi, ↓if_neg z10, f0, a1, rz_v1, rz_k1, hone, ↓if_neg c1, rz_co_fv f0]
      simp only [↓ri_169_0, ↓ri_169_1, ↓ri_169_4, ↓ri_169_5, ↓ri_169_6, ↓ri_169_9, ↓ri_169_10, Option.some.injEq, Prod.mk.injEq, exists_eq_left', exists_eq', exists_and_left, exists_and_right, true_and, and_true, true_or, or_true, and_self, and_assoc, Option.toList_some, Option.toList_none, List.cons_append, List.nil_append, ↓reduceIte, rz_x01, rz_x10, f0, f2]
      refine m_M_lays (d := d + 4) (p := 0) (q := 0) a1 a3 (by omega) rfl rfl (by omega) (by omega) (by decide) (by decide) (fun h2 a2 s2 => ?_)
      have w2 : rz_RW (va_cpy f g 0 0 430) (L, fl, am, lat, rd, laid, ci, co, tb) B := w1.ext (fun j hj => by rw [pk_cpy_in (by omega) (by omega)]; try (congr 1 <;> omega))
      have f2' : rz_fv h2 m 9 2 = some (.ref (m + 3)) := by rw [s2.fv (by omega)]; exact f2
      obtain ⟨S, Z, hS, ⟨q0, q2, q3, q4, q5, q6, q7, q8⟩, hZ, hY⟩ := id w2
      simp only [↓ri_169_13, ↓ri_169_14, ↓ri_169_17, ↓ri_169_18, ↓ri_169_19, ↓ri_169_20, ↓ri_169_21, ↓ri_169_24, Option.some.injEq, Prod.mk.injEq, exists_eq_left', exists_eq', exists_and_left, exists_and_right, true_and, and_true, true_or, or_true, and_self, and_assoc, Option.toList_some, Option.toList_none, List.cons_append, List.nil_append, ↓reduceIte, rz_x01, rz_x10, f2', a2, rz_v4, rz_k4, q4]
      refine m_M_comesOut (d := d) a2 w2 hI.1 hn (by omega) (fun h3 f3' a3' w3 s3 => ?_)
      have k3 := (h.other ⟨_, a2⟩ s2).other ⟨_, a3'⟩ s3
      have s23 : rz_sm m (m + 9) hp h3 := (s2.wd (by omega) (by omega)).tr (s3.wd (by omega) (by omega))
      have f2'' : rz_fv h3 m 9 2 = some (.ref (m + 3)) := by rw [s3.fv (by omega)]; exact f2'
      rw [rz_out_eq hn he he1] at w3 ⊢
      obtain ⟨S3, Z3, hS3, ⟨u0, u2, u3, u4, u5, u6, u7, u8⟩, hZ3, hY3⟩ := id w3
      have kk3 := kk h3 k3 s23
      by_cases w0 : what = 0
      · simp only [if_pos w0] at kk3
        simp only [↓ri_169_27, ↓ri_169_28, ↓ri_169_29, ↓ri_169_32, ↓ri_169_33, ↓ri_169_36, ↓ri_169_37, ↓ri_169_38, ↓ri_169_41, ↓ri_169_42, ↓ri_169_45, ↓ri_169_46, ↓ri_169_47, ↓ri_169_50, ↓ri_169_51, ↓ri_169_54, ↓ri_169_55, ↓ri_169_56, ↓ri_169_57, ↓ri_169_58, ↓ri_170_33, Option.some.injEq, Prod.mk.injEq, exists_eq_left', exists_eq', exists_and_left, exists_and_right, true_and, and_true, true_or, or_true, and_self, and_assoc, Option.toList_some, Option.toList_none, List.cons_append, List.nil_append, ↓reduceIte, rz_x01, rz_x10, ↓if_pos w0]
        exact kk3
      · by_cases w1' : what = 1
        · simp only [if_neg w0, ↓if_pos w1'] at kk3
          simp only [↓ri_169_27, ↓ri_169_28, ↓ri_169_29, ↓ri_169_32, ↓ri_169_33, ↓ri_169_36, ↓ri_169_37, ↓ri_169_38, ↓ri_169_41, ↓ri_169_42, ↓ri_169_45, ↓ri_169_46, ↓ri_169_47, ↓ri_169_50, ↓ri_169_51, ↓ri_169_54, ↓ri_169_55, ↓ri_169_56, ↓ri_169_57, ↓ri_169_58, ↓ri_170_33, Option.some.injEq, Prod.mk.injEq, exists_eq_left', exists_eq', exists_and_left, exists_and_right, true_and, and_true, true_or, or_true, and_self, and_assoc, Option.toList_some, Option.toList_none, List.cons_append, List.nil_append, ↓reduceIte, rz_x01, rz_x10, ↓if_neg w0, ↓if_pos w1', f2'', a3', rz_v0, rz_k0, u0, (rz_re0 hI.1 hnx he he1).2.1]
          exact kk3
        · simp only [if_neg w0, ↓if_neg w1'] at kk3
          have e4 : rz_reM am L e - am = if e.2.2.2.2 = 0 then 0 else nI (rz_cnt L e.2.2.2.2) := by
            unfold rz_reM
            by_cases q : e.2.2.2.2 = 0
            · rw [if_pos q, if_pos q, Int32.sub_self]
            · rw [if_neg q, if_neg q, Int32.add_comm, Int32.add_sub_cancel]
          simp only [↓ri_169_27, ↓ri_169_28, ↓ri_169_29, ↓ri_169_32, ↓ri_169_33, ↓ri_169_36, ↓ri_169_37, ↓ri_169_38, ↓ri_169_41, ↓ri_169_42, ↓ri_169_45, ↓ri_169_46, ↓ri_169_47, ↓ri_169_50, ↓ri_169_51, ↓ri_169_54, ↓ri_169_55, ↓ri_169_56, ↓ri_169_57, ↓ri_169_58, ↓ri_170_33, Option.some.injEq, Prod.mk.injEq, exists_eq_left', exists_eq', exists_and_left, exists_and_right, true_and, and_true, true_or, or_true, and_self, and_assoc, Option.toList_some, Option.toList_none, List.cons_append, List.nil_append, ↓reduceIte, rz_x01, rz_x10, ↓if_neg w0, ↓if_neg w1', f2'', a3', rz_v4, rz_k4, u4, e4]
          exact kk3
  · have oi := fun R => (m_M_in (d := d + 5) (hp := hp) (R := R)).2 hw
    have g1 : what < 0 ∨ 2 < what := by
      by_cases q : what < 0
      · exact Or.inl q
      · exact Or.inr (Int32.not_le.mp (fun q2 => hw ⟨Int32.not_lt.mp q, q2⟩))
    rw [if_pos g1] at kk
    simp only [↓ri_170_0, ↓ri_170_1, ↓ri_170_2, ↓ri_170_3, ↓ri_170_6, ↓ri_170_9, ↓ri_170_11, ↓ri_170_14, ↓ri_170_15, ↓ri_170_18, ↓ri_170_19, ↓ri_170_20, ↓ri_170_23, ↓ri_170_25, ↓ri_170_28, ↓ri_170_29, ↓ri_170_30, ↓ri_170_33, Option.some.injEq, Prod.mk.injEq, exists_eq_left', exists_eq', exists_and_left, exists_and_right, true_and, and_true, true_or, or_true, and_self, and_assoc, Option.toList_some, Option.toList_none, List.cons_append, List.nil_append, ↓reduceIte, rz_x01, rz_x10, oi]
    exact kk hp h rz_sm.rf
set_option maxHeartbeats 4000000 in
set_option maxRecDepth 100000 in
theorem m_M_rankedNow_loop {rank : Nat} (hr31 : rank < 2 ^ 20) (h : rz_MM m s hist shot tx ro re sp os B hp) (tgt : Int32) (kk : ∀ hp', rz_MM m s hist shot tx ro re sp os B hp' → rz_sm m (m + 9) hp hp' → R (some (.int tgt)) hp') : ∀ (r k : Nat) (s' : rz_AS) (hp1 : rz_Hp) (l2 : Int32) (B' : Nat), k + r = rank → r < s'.1.length → rz_IV s' → B' + 41 * (r + 1) < 2 ^ 30 → rz_it r s' = tgt → rz_MM m s hist shot tx ro re sp os B hp1 → rz_RO (m + 3) s' B' hp1 → rz_sm m (m + 9) hp hp1 → rz_ev (d + 5) 171 18 [some (.ref m), some (.int (nI rank)), some (.int l2), some (.int (nI k))] [] hp1 R := by
  intro r
  induction r with
  | zero =>
    intro k s' hp1 l2 B' hk hl hI hB' ht h1 hO hs
    obtain ⟨L, fl, am, lat, rd, laid, ci, co, tb⟩ := s'
    obtain ⟨f0, f1, f2, -⟩ := id h1.1
    obtain ⟨fo, ao, wo⟩ := hO
    have hkr : k = rank := by omega
    subst hkr
    have c1 : nI k ≤ nI k := Int32.le_refl _
    have c2 : ¬ nI (k + 1) ≤ nI k := nI_ge (Nat.lt_succ_self k) (by omega)
    cases hn : rz_nxf L with
    | none =>
      have := rz_nxf_none hn
      subst this
      exact absurd hl (Nat.lt_irrefl _)
    | some j =>
      rw [ri_171_18]
      simp only [↓ri_171_19, ↓ri_171_20, ↓ri_171_23, ↓ri_171_24, ↓ri_171_27, Option.some.injEq, Prod.mk.injEq, exists_eq_left', exists_eq', exists_and_left, exists_and_right, true_and, and_true, true_or, or_true, and_self, and_assoc, Option.toList_some, Option.toList_none, List.cons_append, List.nil_append, ↓reduceIte, rz_x01, rz_x10, ↓if_neg (Int32.not_lt.mpr c1), ↓if_pos c1, f2]
      refine m_M_comesOut (d := d) ao wo hI.1 hn (by omega) (fun h3 f3' a3' w3 s3 => ?_)
      simp only [↓ri_171_30, ↓ri_171_31, ↓ri_171_34, Option.some.injEq, Prod.mk.injEq, exists_eq_left', exists_eq', exists_and_left, exists_and_right, true_and, and_true, true_or, or_true, and_self, and_assoc, Option.toList_some, Option.toList_none, List.cons_append, List.nil_append, ↓reduceIte, rz_x01, rz_x10, nI_1]
      rw [ri_171_18]
      simp only [↓ri_171_19, ↓ri_171_20, ↓ri_171_37, ↓ri_171_38, Option.some.injEq, Prod.mk.injEq, exists_eq_left', exists_eq', exists_and_left, exists_and_right, true_and, and_true, true_or, or_true, and_self, and_assoc, Option.toList_some, Option.toList_none, List.cons_append, List.nil_append, ↓reduceIte, rz_x01, rz_x10, ↓if_pos (Int32.not_le.mp c2), ↓if_neg c2]
      have := kk h3 (h1.other ⟨_, a3'⟩ s3) (hs.tr (s3.wd (by omega) (by omega)))
      rw [← ht] at this
      exact this
  | succ r ih =>
    intro k s' hp1 l2 B' hk hl hI hB' ht h1 hO hs
    obtain ⟨L, fl, am, lat, rd, laid, ci, co, tb⟩ := s'
    obtain ⟨f0, f1, f2, -⟩ := id h1.1
    obtain ⟨fo, ao, wo⟩ := hO
    have c1 : nI k ≤ nI rank := nI_le (by omega) (by omega)
    cases hn : rz_nxf L with
    | none =>
      have := rz_nxf_none hn
      subst this
      exact absurd hl (Nat.not_lt_zero _)
    | some j =>
      rw [ri_171_18]
      simp only [↓ri_171_19, ↓ri_171_20, ↓ri_171_23, ↓ri_171_24, ↓ri_171_27, Option.some.injEq, Prod.mk.injEq, exists_eq_left', exists_eq', exists_and_left, exists_and_right, true_and, and_true, true_or, or_true, and_self, and_assoc, Option.toList_some, Option.toList_none, List.cons_append, List.nil_append, ↓reduceIte, rz_x01, rz_x10, ↓if_neg (Int32.not_lt.mpr c1), ↓if_pos c1, f2]
      refine m_M_comesOut (d := d) ao wo hI.1 hn (by omega) (fun h3 f3' a3' w3 s3 => ?_)
      simp only [↓ri_171_30, ↓ri_171_31, ↓ri_171_34, Option.some.injEq, Prod.mk.injEq, exists_eq_left', exists_eq', exists_and_left, exists_and_right, true_and, and_true, true_or, or_true, and_self, and_assoc, Option.toList_some, Option.toList_none, List.cons_append, List.nil_append, ↓reduceIte, rz_x01, rz_x10, nI_1]
      have hlen : (rz_out_ (L, fl, am, lat, rd, laid, ci, co, tb)).2.1.length = L.length - 1 := rz_out_len hn
      have hl' : r + 1 < L.length := hl
      exact ih (k + 1) _ h3 _ (B' + 41) (by omega) (by rw [hlen]; omega) (rz_IV_out hI) (by omega) ht (h1.other ⟨_, a3'⟩ s3) ⟨_, a3', w3⟩ (hs.tr (s3.wd (by omega) (by omega)))
set_option maxHeartbeats 4000000 in
set_option maxRecDepth 100000 in
theorem m_M_ranked {rank : Int32} (h : rz_MM m s hist shot tx ro re sp os B hp) (hI : rz_IV s) (hB : B < 2 ^ 29) (kk : ∀ hp', rz_MM m s hist shot tx ro re sp os B hp' → rz_sm m (m + 9) hp hp' → R (some (.int (rz_ranked_ s.1 rank))) hp') : rz_ev (d + 6) 172 0 [some (.ref m), some (.int rank)] [] hp R := by
  obtain ⟨p0, p1, p2, p3, p4, p5, p6, p7, p8⟩ := id h
  obtain ⟨f0, f1, f2, f3, f4, f5, f6, f7, f8, f9, f10, f11, f12, f13, f14⟩ := id p0
  obtain ⟨f, a1, w1⟩ := id p1
  obtain ⟨g, a3⟩ := id p3
  have hone := w1.one.1
  have h41 := w1.one.2
  by_cases hr : rank < 0
  · have c1 : ¬ 0 ≤ rank := Int32.not_le.mpr hr
    have e1 : rz_ranked_ s.1 rank = -2 := by unfold rz_ranked_; exact if_pos hr
    rw [e1] at kk
    simp only [↓ri_172_0, ↓ri_172_1, ↓ri_172_4, ↓ri_172_6, ↓ri_172_9, ↓ri_172_10, ↓ri_172_11, ↓ri_172_14, ↓ri_172_15, ↓ri_172_16, ↓ri_172_19, ↓ri_172_20, ↓ri_172_21, ↓ri_172_24, ↓ri_172_27, ↓ri_172_29, Option.some.injEq, Prod.mk.injEq, exists_eq_left', exists_eq', exists_and_left, exists_and_right, true_and, and_true, true_or, or_true, and_self, and_assoc, Option.toList_some, Option.toList_none, List.cons_append, List.nil_append, ↓reduceIte, rz_x01, rz_x10, ↓if_neg c1]
    exact kk hp h rz_sm.rf
  · have c1 : 0 ≤ rank := Int32.not_lt.mp hr
    obtain ⟨r, hr31, rfl⟩ := nI_of hr
    by_cases hrl : r < s.1.length
    · have c2 : ¬ nI s.1.length ≤ nI r := nI_ge hrl (by omega)
      rw [rz_ranked_it hrl hr31] at kk
      simp only [↓ri_172_0, ↓ri_172_1, ↓ri_172_4, ↓ri_172_6, ↓ri_172_9, ↓ri_172_10, ↓ri_172_11, ↓ri_172_14, ↓ri_172_15, ↓ri_172_16, ↓ri_172_19, ↓ri_172_20, ↓ri_172_21, ↓ri_172_24, ↓ri_172_27, ↓ri_172_29, Option.some.injEq, Prod.mk.injEq, exists_eq_left', exists_eq', exists_and_left, exists_and_right, true_and, and_true, true_or, or_true, and_self, and_assoc, Option.toList_some, Option.toList_none, List.cons_append, List.nil_append, ↓reduceIte, rz_x01, rz_x10, ↓if_pos c1, f0, a1, rz_v1, rz_k1, hone, ↓if_neg c2, rz_co_fv f0]
      simp only [↓ri_171_0, ↓ri_171_1, ↓ri_171_4, ↓ri_171_5, ↓ri_171_6, ↓ri_171_9, ↓ri_171_10, Option.some.injEq, Prod.mk.injEq, exists_eq_left', exists_eq', exists_and_left, exists_and_right, true_and, and_true, true_or, or_true, and_self, and_assoc, Option.toList_some, Option.toList_none, List.cons_append, List.nil_append, ↓reduceIte, rz_x01, rz_x10, f0, f2]
      refine m_M_lays (d := d + 4) (p := 0) (q := 0) a1 a3 (by omega) rfl rfl (by omega) (by omega) (by decide) (by decide) (fun h2 a2 s2 => ?_)
      simp only [↓ri_171_13, ↓ri_171_15, ↓ri_171_16, ↓ri_171_17, Option.some.injEq, Prod.mk.injEq, exists_eq_left', exists_eq', exists_and_left, exists_and_right, true_and, and_true, true_or, or_true, and_self, and_assoc, Option.toList_some, Option.toList_none, List.cons_append, List.nil_append, ↓reduceIte, rz_x01, rz_x10]
      have w2 : rz_RW (va_cpy f g 0 0 430) s B := w1.ext (fun j hj => by rw [pk_cpy_in (by omega) (by omega)]; try (congr 1 <;> omega))
      rw [← nI_0]
      refine m_M_rankedNow_loop (d := d) (hp := hp) (by omega) h (rz_it r s) (fun hp' k s' => ?_) r 0 s h2 (-5) B (by omega) hrl hI (by omega) rfl (h.other ⟨_, a2⟩ s2) ⟨_, a2, w2⟩ (s2.wd (by omega) (by omega))
      simp only [↓ri_172_24, ↓ri_172_27, ↓ri_172_29, Option.some.injEq, Prod.mk.injEq, exists_eq_left', exists_eq', exists_and_left, exists_and_right, true_and, and_true, true_or, or_true, and_self, and_assoc, Option.toList_some, Option.toList_none, List.cons_append, List.nil_append, ↓reduceIte, rz_x01, rz_x10]
      exact kk hp' k s'
    · have c2 : nI s.1.length ≤ nI r := nI_le (by omega) hr31
      have e1 : rz_ranked_ s.1 (nI r) = -5 := by
        unfold rz_ranked_
        rw [if_neg hr, nI_clamp hr31]
        have : rz_rj s.1 r = none := by
          unfold rz_rj
          rw [List.find?_eq_none]
          intro i hi
          have hil := List.mem_range.mp hi
          obtain ⟨e, he⟩ := rz_ge hil
          have h4 := rz_rk_rD he
          have b1 : (s.1.take i).countP (fun x => decide (x.2.1 ≤ e.2.1)) ≤ (s.1.take i).length := List.countP_le_length
          have b2 : (s.1.drop (i + 1)).countP (fun x => decide (x.2.1 < e.2.1)) ≤ (s.1.drop (i + 1)).length := List.countP_le_length
          unfold rz_rD at h4
          rw [List.length_take] at b1
          rw [List.length_drop] at b2
          simp only [decide_eq_true_eq]
          omega
        rw [this]
      rw [e1] at kk
      simp only [↓ri_172_0, ↓ri_172_1, ↓ri_172_4, ↓ri_172_6, ↓ri_172_9, ↓ri_172_10, ↓ri_172_11, ↓ri_172_14, ↓ri_172_15, ↓ri_172_16, ↓ri_172_19, ↓ri_172_20, ↓ri_172_21, ↓ri_172_24, ↓ri_172_27, ↓ri_172_29, Option.some.injEq, Prod.mk.injEq, exists_eq_left', exists_eq', exists_and_left, exists_and_right, true_and, and_true, true_or, or_true, and_self, and_assoc, Option.toList_some, Option.toList_none, List.cons_append, List.nil_append, ↓reduceIte, rz_x01, rz_x10, ↓if_pos c1, f0, a1, rz_v1, rz_k1, hone, ↓if_pos c2]
      exact kk hp h rz_sm.rf
end RZMG
