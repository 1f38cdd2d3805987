/-! RisingPilesModel: roads -/
def rz_cn (rd : Nat → Int32) : Nat → Nat
  | 0 => 0
  | n + 1 => rz_cn rd n + if rd n = -5 then 0 else 1
theorem rz_cn_s (rd : Nat → Int32) (n : Nat) : rz_cn rd (n + 1) = rz_cn rd n + if rd n = -5 then 0 else 1 := rfl
theorem rz_cn_od (rd : Nat → Int32) (f n : Nat) : rz_cn rd (f * 12 + n) = rz_cn rd (f * 12) + rz_od rd f n := by
  induction n with
  | zero => rfl
  | succ n ih => rw [← Nat.add_assoc, rz_cn_s, ih, rz_od_s, Nat.add_assoc]
theorem rz_cn_ds (rd : Nat → Int32) (n : Nat) : rz_cn rd (n * 12) = rz_ds rd (fun _ => 0) n := by
  induction n with
  | zero => rfl
  | succ n ih =>
    have h0 : ¬ (0 : Int32) = -5 := by decide
    rw [Nat.succ_mul, rz_cn_od, ih, rz_ds_s, if_neg h0]
theorem rz_cn_tot (rd : Nat → Int32) : rz_tot rd = rz_cn rd 144 := (rz_cn_ds rd 12).symm
theorem rz_cn_le (rd : Nat → Int32) (n : Nat) : rz_cn rd n ≤ n := by
  induction n with
  | zero => exact Nat.le_refl _
  | succ n ih =>
    rw [rz_cn_s]
    split <;> omega
theorem rz_cn_ext {rd rd2 : Nat → Int32} (n : Nat) (h : ∀ i, i < n → rd i = rd2 i) : rz_cn rd n = rz_cn rd2 n := by
  induction n with
  | zero => rfl
  | succ n ih => rw [rz_cn_s, rz_cn_s, ih (fun i hi => h i (by omega)), h n (by omega)]
theorem rz_cn_upd {rd : Nat → Int32} {i : Nat} {v : Int32} : ∀ n, i < n → rz_cn (upd rd i v) n + (if rd i = -5 then 0 else 1) = rz_cn rd n + (if v = -5 then 0 else 1) := by
  intro n
  induction n with
  | zero => intro h; exact absurd h (Nat.not_lt_zero _)
  | succ n ih =>
    intro h
    rw [rz_cn_s, rz_cn_s]
    by_cases hi : i = n
    · subst hi
      rw [pk_us, rz_cn_ext (rd := upd rd i v) (rd2 := rd) i (fun j hj => pk_un (by omega))]
      omega
    · have := ih (by omega)
      rw [pk_un (show ¬ n = i by omega)]
      omega
section RZMB
variable {d a m lo hi n : Nat} {f f2 g : Nat → Int32} {hp h1 : rz_Hp} {R : Option Value → rz_Hp → Prop} {s s2 x : rz_AS} {hist : List rz_AS} {shot : Option rz_AS} {tx : List Int32} {ro re sp sv sh le od : Int32} {os : List rz_Or} {B B2 : Nat} {Z : List rz_Zt} {L : List rz_En} {fl am : Int32} {lat : List rz_La} {rd : Nat → Int32} {laid ci co tb : Int32}
theorem rz_RW.road {i : Nat} {v l2 : Int32} (h : rz_RW f (L, fl, am, lat, rd, laid, ci, co, tb) B) (hi : i < 144) : rz_RW (upd f (40 + i) v) (L, fl, am, lat, upd rd i v, l2, ci, co, tb) B := by
  obtain ⟨S, Z, hS, ⟨q0, q2, q3, q4, q5, q6, q7, q8⟩, hZ, hY⟩ := h
  refine ⟨S, Z, hS, ⟨by rw [pk_un (by omega)]; exact q0, by rw [pk_un (by omega)]; exact q2, by rw [pk_un (by omega)]; exact q3, by rw [pk_un (by omega)]; exact q4, by rw [pk_un (by omega)]; exact q5, by rw [pk_un (by omega)]; exact q6, rz_la_hd q7 (fun j _ hj => pk_un (by omega)), fun k hk => ?_⟩, rz_ZS_hd hZ (pk_un (by omega)) (fun j hj => pk_un (by omega)), hY⟩
  by_cases hki : k = i
  · subst hki; rw [pk_us, pk_us]
  · rw [pk_un (by omega), pk_un hki]; exact q8 k hk
set_option maxHeartbeats 4000000 in
set_option maxRecDepth 100000 in
theorem m_M_isTown {x : Int32} : (rz_town x → (rz_ev (d + 1) 150 0 [some (.int x)] [] hp R ↔ R (some (.int 1)) hp)) ∧ (¬ rz_town x → (rz_ev (d + 1) 150 0 [some (.int x)] [] hp R ↔ R (some (.int 0)) hp)) := by
  have hx : rz_town x ↔ 0 ≤ x ∧ x ≤ 11 := by
    unfold rz_town
    refine ⟨fun h => ⟨h.1, ?_⟩, fun h => ⟨h.1, Int32.lt_of_le_of_lt h.2 (by decide)⟩⟩
    obtain ⟨b, hb, rfl⟩ := rz_town_of h
    exact nI_le (b := 11) (by omega) (by decide)
  refine ⟨fun h => ?_, fun h => ?_⟩
  · have o := fun R => (m_M_in (d := d) (hp := hp) (R := R)).1 (hx.mp h)
    simp only [↓ri_150_0, ↓ri_150_1, ↓ri_150_2, ↓ri_150_4, ↓ri_150_7, Option.some.injEq, Prod.mk.injEq, exists_eq_left', exists_eq', exists_and_left, exists_and_right, true_and, and_true, true_or, or_true, and_self, and_assoc, Option.toList_some, Option.toList_none, List.cons_append, List.nil_append, ↓reduceIte, rz_x01, rz_x10, o]
  · have o := fun R => (m_M_in (d := d) (hp := hp) (R := R)).2 (fun q => h (hx.mpr q))
    simp only [↓ri_150_0, ↓ri_150_1, ↓ri_150_2, ↓ri_150_4, ↓ri_150_7, Option.some.injEq, Prod.mk.injEq, exists_eq_left', exists_eq', exists_and_left, exists_and_right, true_and, and_true, true_or, or_true, and_self, and_assoc, Option.toList_some, Option.toList_none, List.cons_append, List.nil_append, ↓reduceIte, rz_x01, rz_x10, o]
set_option maxHeartbeats 4000000 in
set_option maxRecDepth 100000 in
theorem m_M_placeOf {x y : Int32} (hx : rz_town x) (hy : rz_town y) : rz_ev d 152 0 [some (.int x), some (.int y)] [] hp R ↔ R (some (.int (nI (40 + rz_ix x y)))) hp := by
  obtain ⟨b, hb, rfl⟩ := rz_town_of hx
  obtain ⟨c, hc, rfl⟩ := rz_town_of hy
  have e1 : (40 : Int32) + 12 * nI b + nI c = nI (40 + rz_ix (nI b) (nI c)) := by
    unfold rz_ix
    rw [show (40 : Int32) = nI 40 from rfl, show (12 : Int32) = nI 12 from rfl, pk_mul, nI_add, nI_add, nI_clamp (by omega), nI_clamp (by omega)]
    congr 1
    omega
  simp only [↓ri_152_0, ↓ri_152_2, ↓ri_152_4, ↓ri_152_5, ↓ri_152_6, ↓ri_152_7, ↓ri_152_8, ↓ri_152_9, Option.some.injEq, Prod.mk.injEq, exists_eq_left', exists_eq', exists_and_left, exists_and_right, true_and, and_true, true_or, or_true, and_self, and_assoc, Option.toList_some, Option.toList_none, List.cons_append, List.nil_append, ↓reduceIte, rz_x01, rz_x10, e1]
set_option maxHeartbeats 4000000 in
set_option maxRecDepth 100000 in
theorem m_M_roads (h : rz_MM m (L, fl, am, lat, rd, laid, ci, co, tb) hist shot tx ro re sp os B hp) : rz_ev d 151 0 [some (.ref m), none, none] [] hp R ↔ R (some (.int (nI (rz_tot rd)))) hp := by
  obtain ⟨⟨f0, -⟩, ⟨f, a1, w1⟩, -⟩ := id h
  obtain ⟨S, Z, hS, ⟨q0, q2, q3, q4, q5, q6, q7, q8⟩, hZ, hY⟩ := id w1
  rw [rz_cn_tot]
  have hL : ∀ w, w ≤ 144 → (rz_ev d 151 4 [some (.ref m), some (.int (nI (rz_cn rd w))), some (.int (nI w))] [] hp R ↔ R (some (.int (nI (rz_cn rd 144)))) hp) := by
    refine rz_down 144 ?_ ?_
    · have c1 : (144 : Int32) ≤ nI 144 := by decide
      rw [ri_151_4]
      simp only [↓ri_151_5, ↓ri_151_8, ↓ri_151_11, ↓ri_151_12, ↓ri_151_13, ↓ri_151_16, ↓ri_151_18, ↓ri_151_19, ↓ri_151_20, ↓ri_151_21, ↓ri_151_23, ↓ri_151_26, ↓ri_151_27, ↓ri_151_30, ↓ri_151_31, ↓ri_151_32, ↓ri_151_33, ↓ri_151_36, ↓ri_151_39, ↓ri_151_40, Option.some.injEq, Prod.mk.injEq, exists_eq_left', exists_eq', exists_and_left, exists_and_right, true_and, and_true, true_or, or_true, and_self, and_assoc, Option.toList_some, Option.toList_none, List.cons_append, List.nil_append, ↓reduceIte, rz_x01, rz_x10, ↓if_pos c1]
    · intro w hw ih
      have c1 : ¬ (144 : Int32) ≤ nI w := nI_ge (b := 144) hw (by decide)
      have e2 : (40 : Int32) + nI w = nI (40 + w) := nI_add 40 w
      have v2 : vp_in (nI (40 + w)) 430 := vp_in_nI (by omega) (by decide)
      have k2 : (nI (40 + w)).toNatClampNeg = 40 + w := nI_clamp (by omega)
      rw [← ih, rz_cn_s, ri_151_4]
      by_cases h5 : rd w = -5
      · simp only [↓ri_151_5, ↓ri_151_8, ↓ri_151_11, ↓ri_151_12, ↓ri_151_13, ↓ri_151_16, ↓ri_151_18, ↓ri_151_19, ↓ri_151_20, ↓ri_151_21, ↓ri_151_23, ↓ri_151_26, ↓ri_151_27, ↓ri_151_30, ↓ri_151_31, ↓ri_151_32, ↓ri_151_33, ↓ri_151_36, Option.some.injEq, Prod.mk.injEq, exists_eq_left', exists_eq', exists_and_left, exists_and_right, true_and, and_true, true_or, or_true, and_self, and_assoc, Option.toList_some, Option.toList_none, List.cons_append, List.nil_append, ↓reduceIte, rz_x01, rz_x10, ↓if_neg c1, f0, a1, e2, v2, k2, q8 w hw, ↓if_pos h5, nI_1, Int32.add_zero, Nat.add_zero]
      · simp only [↓ri_151_5, ↓ri_151_8, ↓ri_151_11, ↓ri_151_12, ↓ri_151_13, ↓ri_151_16, ↓ri_151_18, ↓ri_151_19, ↓ri_151_20, ↓ri_151_21, ↓ri_151_23, ↓ri_151_26, ↓ri_151_27, ↓ri_151_30, ↓ri_151_31, ↓ri_151_32, ↓ri_151_33, ↓ri_151_36, Option.some.injEq, Prod.mk.injEq, exists_eq_left', exists_eq', exists_and_left, exists_and_right, true_and, and_true, true_or, or_true, and_self, and_assoc, Option.toList_some, Option.toList_none, List.cons_append, List.nil_append, ↓reduceIte, rz_x01, rz_x10, ↓if_neg c1, f0, a1, e2, v2, k2, q8 w hw, ↓if_neg h5, nI_1]
  have h0 := hL 0 (Nat.zero_le _)
  rw [nI_0, show rz_cn rd 0 = 0 from rfl, nI_0] at h0
  simp only [↓ri_151_0, ↓ri_151_1, ↓ri_151_2, ↓ri_151_3, h0]
theorem rz_IV_lay {x y len : Int32} (h : rz_rdo rd) (hl : laid = nI (rz_tot rd)) : rz_rdo (rz_lay_ rd laid x y len).2.1 ∧ (rz_lay_ rd laid x y len).2.2 = nI (rz_tot (rz_lay_ rd laid x y len).2.1) := by
  unfold rz_lay_
  by_cases h1 : ¬ (rz_town x ∧ rz_town y)
  · simp only [if_pos h1]; exact ⟨h, hl⟩
  · by_cases h2 : len < 0 ∨ 999 < len ∨ x = y
    · simp only [if_neg h1, ↓if_pos h2]; exact ⟨h, hl⟩
    · by_cases h3 : rd (rz_ix x y) = len
      · simp only [if_neg h1, ↓if_neg h2, ↓if_pos h3]; exact ⟨h, hl⟩
      · by_cases h4 : rd (rz_ix x y) = -5 ∧ 40 ≤ laid
        · simp only [if_neg h1, ↓if_neg h2, ↓if_neg h3, ↓if_pos h4]; exact ⟨h, hl⟩
        · have hxy := Classical.byContradiction h1
          have hix := (rz_ix_of hxy.1 hxy.2).1
          obtain ⟨b, hb, rfl⟩ := nI_of2 (M := 999) (n := 999) (by decide) (fun q => h2 (Or.inl q)) (Int32.not_lt.mp (fun q => h2 (Or.inr (Or.inl q))))
          have hb5 : ¬ nI b = -5 := fun q => nI_pos (show b < 2 ^ 31 by omega) (by rw [q]; decide)
          have hu := rz_cn_upd (rd := rd) (v := nI b) 144 hix
          rw [if_neg hb5] at hu
          simp only [if_neg h1, ↓if_neg h2, ↓if_neg h3, ↓if_neg h4]
          have ht := h.2
          rw [rz_cn_tot] at ht hl
          refine ⟨⟨fun i hi => ?_, ?_⟩, ?_⟩
          · by_cases hii : i = rz_ix x y
            · subst hii; rw [pk_us]; exact Or.inr ⟨b, hb, rfl⟩
            · rw [pk_un hii]; exact h.1 i hi
          · rw [rz_cn_tot]
            by_cases h5 : rd (rz_ix x y) = -5
            · rw [if_pos h5] at hu
              have : ¬ rz_cn rd 144 = 40 := fun q => h4 ⟨h5, by rw [hl, q]; decide⟩
              omega
            · rw [if_neg h5] at hu; omega
          · rw [rz_cn_tot]
            by_cases h5 : rd (rz_ix x y) = -5
            · rw [if_pos h5] at hu ⊢
              rw [hl, nI_1, ← hu, Nat.add_zero]
            · rw [if_neg h5] at hu ⊢
              exact hl.trans (congrArg nI (by omega))
theorem rz_IV_road {x y len : Int32} (h : rz_IV s) : rz_IV (rz_road_ s x y len).2 := by
  obtain ⟨L, fl, am, lat, rd, laid, ci, co, tb⟩ := s
  exact ⟨h.1, h.2.1, rz_IV_lay h.2.2.1 h.2.2.2⟩
theorem rz_IV_unroad {x y : Int32} (h : rz_IV s) : rz_IV (rz_unroad_ s x y).2 := by
  obtain ⟨L, fl, am, lat, rd, laid, ci, co, tb⟩ := s
  obtain ⟨h1, h2, h3, h4⟩ := h
  refine ⟨h1, h2, ?_⟩
  show rz_rdo (rz_rem_ rd laid x y).2.1 ∧ (rz_rem_ rd laid x y).2.2 = nI (rz_tot (rz_rem_ rd laid x y).2.1)
  unfold rz_rem_
  by_cases h5 : rz_lo rd x y = -5
  · simp only [if_pos h5]; exact ⟨h3, h4⟩
  · simp only [if_neg h5]
    have hxy : rz_town x ∧ rz_town y := by
      refine Classical.byContradiction (fun q => h5 ?_)
      unfold rz_lo
      exact if_neg q
    have hlo : rz_lo rd x y = rd (rz_ix x y) := by unfold rz_lo; exact if_pos hxy
    rw [hlo] at h5
    have hix := (rz_ix_of hxy.1 hxy.2).1
    have hu := rz_cn_upd (rd := rd) (v := -5) 144 hix
    rw [if_neg h5, if_pos rfl] at hu
    have ht := h3.2
    rw [rz_cn_tot] at ht h4
    refine ⟨⟨fun i hi => ?_, ?_⟩, ?_⟩
    · by_cases hii : i = rz_ix x y
      · subst hii; rw [pk_us]; exact Or.inl rfl
      · rw [pk_un hii]; exact h3.1 i hi
    · rw [rz_cn_tot]; omega
    · rw [rz_cn_tot, h4, ← Nat.add_zero (rz_cn rd 144), ← hu]
      exact nI_pred _
set_option maxHeartbeats 4000000 in
set_option maxRecDepth 100000 in
theorem m_M_road {x y len : Int32} (h : rz_MM m s hist shot tx ro re sp os B hp) (hI : rz_IV s) (kk : ∀ hp', rz_MM m (rz_road_ s x y len).2 (rz_hs (rz_road_ s x y len).1 s hist) shot tx ro re sp os (B + 2000) hp' → rz_sm m (m + 9) hp hp' → R (some (.int (rz_road_ s x y len).1)) hp') : rz_ev (d + 3) 153 0 [some (.ref m), some (.int x), some (.int y), some (.int len), none] [] hp R := by
  obtain ⟨L, fl, am, lat, rd, laid, ci, co, tb⟩ := s
  obtain ⟨⟨f0, -⟩, ⟨f, a1, w1⟩, -⟩ := id h
  obtain ⟨S, Z, hS, ⟨q0, q2, q3, q4, q5, q6, q7, q8⟩, hZ, hY⟩ := id w1
  have hlay := rz_IV_lay (x := x) (y := y) (len := len) hI.2.2.1 hI.2.2.2
  have z10 : ¬ (1 : Int32) = 0 := by decide
  have err : ∀ r : Int32, r < 0 → rz_MM m (L, fl, am, lat, rd, laid, ci, co, tb) (rz_hs r (L, fl, am, lat, rd, laid, ci, co, tb) hist) shot tx ro re sp os (B + 2000) hp := fun r hr => by
    unfold rz_hs; rw [if_pos hr]; exact h.mono (by omega)
  unfold rz_road_ rz_lay_ at kk
  unfold rz_lay_ at hlay
  by_cases hx : rz_town x
  · have tx' := fun R => (m_M_isTown (d := d + 1) (hp := hp) (R := R)).1 hx
    by_cases hy : rz_town y
    · have ty := fun R => (m_M_isTown (d := d + 1) (hp := hp) (R := R)).1 hy
      have h1 : ¬ ¬ (rz_town x ∧ rz_town y) := fun q => q ⟨hx, hy⟩
      have hix := (rz_ix_of hx hy).1
      have op := fun hp R => m_M_placeOf (d := d + 2) (hp := hp) hx hy (R := R)
      have v2 : vp_in (nI (40 + rz_ix x y)) 430 := vp_in_nI (by omega) (by decide)
      have k2 : (nI (40 + rz_ix x y)).toNatClampNeg = 40 + rz_ix x y := nI_clamp (by omega)
      simp only [if_neg h1] at kk hlay
      by_cases hlen : 0 ≤ len ∧ len ≤ 999
      · have oi := fun R => (m_M_in (d := d + 2) (hp := hp) (R := R)).1 hlen
        by_cases hxy : x = y
        · simp only [if_pos (Or.inr (a := len < 0) (Or.inr (a := 999 < len) hxy))] at kk
          simp only [↓ri_153_0, ↓ri_153_1, ↓ri_153_4, ↓ri_153_7, ↓ri_153_8, ↓ri_153_11, ↓ri_153_14, ↓ri_153_15, ↓ri_153_16, ↓ri_153_17, ↓ri_153_18, ↓ri_153_21, ↓ri_153_24, ↓ri_153_27, ↓ri_153_28, ↓ri_153_29, ↓ri_153_32, ↓ri_153_34, ↓ri_153_35, ↓ri_153_36, ↓ri_153_39, ↓ri_153_40, ↓ri_153_41, ↓ri_153_44, ↓ri_153_45, ↓ri_153_47, ↓ri_153_49, ↓ri_153_50, ↓ri_153_53, ↓ri_153_55, ↓ri_153_56, ↓ri_153_58, ↓ri_153_60, ↓ri_153_63, ↓ri_153_64, ↓ri_153_67, ↓ri_153_69, ↓ri_153_72, ↓ri_153_74, ↓ri_153_75, ↓ri_153_76, ↓ri_153_79, ↓ri_153_80, ↓ri_153_83, ↓ri_153_84, ↓ri_153_85, ↓ri_153_88, ↓ri_153_89, ↓ri_153_90, ↓ri_153_91, ↓ri_153_94, Option.some.injEq, Prod.mk.injEq, exists_eq_left', exists_eq', exists_and_left, exists_and_right, true_and, and_true, true_or, or_true, and_self, and_assoc, Option.toList_some, Option.toList_none, List.cons_append, List.nil_append, ↓reduceIte, rz_x01, rz_x10, tx', ty, ↓if_neg z10, oi, ↓if_pos hxy]
          exact kk hp (err _ (by decide)) rz_sm.rf
        · have h2 : ¬ (len < 0 ∨ 999 < len ∨ x = y) := fun q => q.elim (Int32.not_lt.mpr hlen.1) (fun q => q.elim (Int32.not_lt.mpr hlen.2) hxy)
          simp only [if_neg h2] at kk hlay
          by_cases h3 : rd (rz_ix x y) = len
          · simp only [if_pos h3] at kk
            simp only [↓ri_153_0, ↓ri_153_1, ↓ri_153_4, ↓ri_153_7, ↓ri_153_8, ↓ri_153_11, ↓ri_153_14, ↓ri_153_15, ↓ri_153_16, ↓ri_153_17, ↓ri_153_18, ↓ri_153_21, ↓ri_153_24, ↓ri_153_27, ↓ri_153_28, ↓ri_153_29, ↓ri_153_32, ↓ri_153_34, ↓ri_153_35, ↓ri_153_36, ↓ri_153_39, ↓ri_153_40, ↓ri_153_41, ↓ri_153_44, ↓ri_153_45, ↓ri_153_47, ↓ri_153_49, ↓ri_153_50, ↓ri_153_53, ↓ri_153_55, ↓ri_153_56, ↓ri_153_58, ↓ri_153_60, ↓ri_153_63, ↓ri_153_64, ↓ri_153_67, ↓ri_153_69, ↓ri_153_72, ↓ri_153_74, ↓ri_153_75, ↓ri_153_76, ↓ri_153_79, ↓ri_153_80, ↓ri_153_83, ↓ri_153_84, ↓ri_153_85, ↓ri_153_88, ↓ri_153_89, ↓ri_153_90, ↓ri_153_91, ↓ri_153_94, Option.some.injEq, Prod.mk.injEq, exists_eq_left', exists_eq', exists_and_left, exists_and_right, true_and, and_true, true_or, or_true, and_self, and_assoc, Option.toList_some, Option.toList_none, List.cons_append, List.nil_append, ↓reduceIte, rz_x01, rz_x10, tx', ty, ↓if_neg z10, oi, ↓if_neg hxy, op, f0, a1, v2, k2, q8 _ hix, ↓if_pos h3]
            exact kk hp (err _ (by decide)) rz_sm.rf
          · simp only [if_neg h3] at kk hlay
            have or := fun R => m_M_roads (d := d + 2) h (R := R)
            have core : ∀ (v : Value) (l3 : Int32), l3 = nI (rz_tot (upd rd (rz_ix x y) len)) → rz_tot (upd rd (rz_ix x y) len) ≤ 40 → (∀ hp', rz_MM m (L, fl, am, lat, upd rd (rz_ix x y) len, l3, ci, co, tb) (rz_hs l3 (L, fl, am, lat, rd, laid, ci, co, tb) hist) shot tx ro re sp os (B + 2000) hp' → rz_sm m (m + 9) hp hp' → R (some (.int l3)) hp') → rz_ev (d + 3) 153 75 [some (.ref m), some (.int x), some (.int y), some (.int len), some v] [] hp R := by
              intro v l3 hl3 ht3 kk3
              simp only [↓ri_153_75, ↓ri_153_76, Option.some.injEq, Prod.mk.injEq, exists_eq_left', exists_eq', exists_and_left, exists_and_right, true_and, and_true, true_or, or_true, and_self, and_assoc, Option.toList_some, Option.toList_none, List.cons_append, List.nil_append, ↓reduceIte, rz_x01, rz_x10, rz_co_fv f0]
              refine m_M_records (d := d) h (fun h2 k2' s2 => ?_)
              obtain ⟨⟨g0, -⟩, ⟨f', a1', w1'⟩, -⟩ := id k2'
              have s3 : rz_sm (m + 1) (m + 2) h2 (rz_pa h2 (m + 1) (upd f' (40 + rz_ix x y) len)) := rz_sm_pa (by omega) (by omega)
              have k3 := k2'.row (rz_RO.mono ⟨_, rz_avS (g := upd f' (40 + rz_ix x y) len) a1', w1'.road (l2 := l3) hix⟩ (Nat.le_refl B)) (Nat.le_refl _) s3
              have or2 := fun R => m_M_roads (d := d + 2) k3 (R := R)
              have gco : rz_co (rz_pa h2 (m + 1) (upd f' (40 + rz_ix x y) len)) m = some 9 := by rw [rz_co_pa]; exact rz_co_fv g0
              simp only [↓ri_153_79, ↓ri_153_80, ↓ri_153_83, ↓ri_153_84, ↓ri_153_85, ↓ri_153_88, ↓ri_153_89, ↓ri_153_90, ↓ri_153_91, ↓ri_153_94, Option.some.injEq, Prod.mk.injEq, exists_eq_left', exists_eq', exists_and_left, exists_and_right, true_and, and_true, true_or, or_true, and_self, and_assoc, Option.toList_some, Option.toList_none, List.cons_append, List.nil_append, ↓reduceIte, rz_x01, rz_x10, g0, op, a1', v2, k2, gco, or2]
              rw [← hl3]
              refine kk3 _ ?_ (s2.tr (s3.wd (by omega) (by omega)))
              have hnn : ¬ l3 < 0 := by rw [hl3]; exact nI_pos (by omega)
              unfold rz_hs
              rw [if_neg hnn]
              exact k3.mono (by omega)
            have go : ∀ (v : Value), ¬ (rd (rz_ix x y) = -5 ∧ 40 ≤ laid) → rz_ev (d + 3) 153 75 [some (.ref m), some (.int x), some (.int y), some (.int len), some v] [] hp R := by
              intro v h4
              simp only [if_neg h4] at kk hlay
              by_cases h5 : rd (rz_ix x y) = -5
              · simp only [if_pos h5] at kk hlay
                exact core v _ hlay.2 hlay.1.2 kk
              · simp only [if_neg h5] at kk hlay
                exact core v _ hlay.2 hlay.1.2 kk
            by_cases h5 : rd (rz_ix x y) = -5
            · have h40 := hI.2.2.1.2
              by_cases h4 : rz_tot rd = 40
              · have c4 : nI (rz_tot rd) = 40 := by rw [h4]; rfl
                have c5 : 40 ≤ laid := by rw [hI.2.2.2, h4]; decide
                simp only [if_pos (And.intro h5 c5)] at kk
                simp only [↓ri_153_0, ↓ri_153_1, ↓ri_153_4, ↓ri_153_7, ↓ri_153_8, ↓ri_153_11, ↓ri_153_14, ↓ri_153_15, ↓ri_153_16, ↓ri_153_17, ↓ri_153_18, ↓ri_153_21, ↓ri_153_24, ↓ri_153_27, ↓ri_153_28, ↓ri_153_29, ↓ri_153_32, ↓ri_153_34, ↓ri_153_35, ↓ri_153_36, ↓ri_153_39, ↓ri_153_40, ↓ri_153_41, ↓ri_153_44, ↓ri_153_45, ↓ri_153_47, ↓ri_153_49, ↓ri_153_50, ↓ri_153_53, ↓ri_153_55, ↓ri_153_56, ↓ri_153_58, ↓ri_153_60, ↓ri_153_63, ↓ri_153_64, ↓ri_153_67, ↓ri_153_69, ↓ri_153_72, ↓ri_153_74, Option.some.injEq, Prod.mk.injEq, exists_eq_left', exists_eq', exists_and_left, exists_and_right, true_and, and_true, true_or, or_true, and_self, and_assoc, Option.toList_some, Option.toList_none, List.cons_append, List.nil_append, ↓reduceIte, rz_x01, rz_x10, tx', ty, ↓if_neg z10, oi, ↓if_neg hxy, op, f0, a1, v2, k2, q8 _ hix, ↓if_neg h3, ↓if_pos h5, or, rz_co_fv f0, ↓if_pos c4]
                exact kk hp (err _ (by decide)) rz_sm.rf
              · have c4 : ¬ nI (rz_tot rd) = 40 := fun q => h4 ((nI_eq (b := 40) (by omega) (by decide)).mp q)
                have c5 : ¬ (rd (rz_ix x y) = -5 ∧ 40 ≤ laid) := fun q => by
                  have q2 := q.2
                  rw [hI.2.2.2] at q2
                  have := (nI_leI (a := 40) (by decide) (by omega)).mp q2
                  omega
                simp only [↓ri_153_0, ↓ri_153_1, ↓ri_153_4, ↓ri_153_7, ↓ri_153_8, ↓ri_153_11, ↓ri_153_14, ↓ri_153_15, ↓ri_153_16, ↓ri_153_17, ↓ri_153_18, ↓ri_153_21, ↓ri_153_24, ↓ri_153_27, ↓ri_153_28, ↓ri_153_29, ↓ri_153_32, ↓ri_153_34, ↓ri_153_35, ↓ri_153_36, ↓ri_153_39, ↓ri_153_40, ↓ri_153_41, ↓ri_153_44, ↓ri_153_45, ↓ri_153_47, ↓ri_153_49, ↓ri_153_50, ↓ri_153_53, ↓ri_153_55, ↓ri_153_56, ↓ri_153_58, ↓ri_153_60, ↓ri_153_63, ↓ri_153_64, ↓ri_153_67, ↓ri_153_69, ↓ri_153_72, ↓ri_153_74, Option.some.injEq, Prod.mk.injEq, exists_eq_left', exists_eq', exists_and_left, exists_and_right, true_and, and_true, true_or, or_true, and_self, and_assoc, Option.toList_some, Option.toList_none, List.cons_append, List.nil_append, ↓reduceIte, rz_x01, rz_x10, tx', ty, ↓if_neg z10, oi, ↓if_neg hxy, op, f0, a1, v2, k2, q8 _ hix, ↓if_neg h3, ↓if_pos h5, or, rz_co_fv f0, ↓if_neg c4]
                exact go _ c5
            · simp only [↓ri_153_0, ↓ri_153_1, ↓ri_153_4, ↓ri_153_7, ↓ri_153_8, ↓ri_153_11, ↓ri_153_14, ↓ri_153_15, ↓ri_153_16, ↓ri_153_17, ↓ri_153_18, ↓ri_153_21, ↓ri_153_24, ↓ri_153_27, ↓ri_153_28, ↓ri_153_29, ↓ri_153_32, ↓ri_153_34, ↓ri_153_35, ↓ri_153_36, ↓ri_153_39, ↓ri_153_40, ↓ri_153_41, ↓ri_153_44, ↓ri_153_45, ↓ri_153_47, ↓ri_153_49, ↓ri_153_50, ↓ri_153_53, ↓ri_153_55, ↓ri_153_56, ↓ri_153_58, ↓ri_153_60, ↓ri_153_63, ↓ri_153_64, ↓ri_153_67, ↓ri_153_69, ↓ri_153_72, ↓ri_153_74, Option.some.injEq, Prod.mk.injEq, exists_eq_left', exists_eq', exists_and_left, exists_and_right, true_and, and_true, true_or, or_true, and_self, and_assoc, Option.toList_some, Option.toList_none, List.cons_append, List.nil_append, ↓reduceIte, rz_x01, rz_x10, tx', ty, ↓if_neg z10, oi, ↓if_neg hxy, op, f0, a1, v2, k2, q8 _ hix, ↓if_neg h3, ↓if_neg h5]
              exact go _ (fun q => h5 q.1)
      · have oi := fun R => (m_M_in (d := d + 2) (hp := hp) (R := R)).2 hlen
        have h2 : len < 0 ∨ 999 < len ∨ x = y := by
          by_cases q : len < 0
          · exact Or.inl q
          · exact Or.inr (Or.inl (Int32.not_le.mp (fun q2 => hlen ⟨Int32.not_lt.mp q, q2⟩)))
        simp only [if_pos h2] at kk
        simp only [↓ri_153_0, ↓ri_153_1, ↓ri_153_4, ↓ri_153_7, ↓ri_153_8, ↓ri_153_11, ↓ri_153_14, ↓ri_153_15, ↓ri_153_16, ↓ri_153_17, ↓ri_153_18, ↓ri_153_21, ↓ri_153_24, ↓ri_153_27, ↓ri_153_28, ↓ri_153_29, ↓ri_153_32, ↓ri_153_34, ↓ri_153_35, ↓ri_153_36, ↓ri_153_39, ↓ri_153_40, ↓ri_153_41, ↓ri_153_44, ↓ri_153_45, ↓ri_153_47, ↓ri_153_49, ↓ri_153_50, ↓ri_153_53, ↓ri_153_55, ↓ri_153_56, ↓ri_153_58, ↓ri_153_60, ↓ri_153_63, ↓ri_153_64, ↓ri_153_67, ↓ri_153_69, ↓ri_153_72, ↓ri_153_74, ↓ri_153_75, ↓ri_153_76, ↓ri_153_79, ↓ri_153_80, ↓ri_153_83, ↓ri_153_84, ↓ri_153_85, ↓ri_153_88, ↓ri_153_89, ↓ri_153_90, ↓ri_153_91, ↓ri_153_94, Option.some.injEq, Prod.mk.injEq, exists_eq_left', exists_eq', exists_and_left, exists_and_right, true_and, and_true, true_or, or_true, and_self, and_assoc, Option.toList_some, Option.toList_none, List.cons_append, List.nil_append, ↓reduceIte, rz_x01, rz_x10, tx', ty, ↓if_neg z10, oi]
        exact kk hp (err _ (by decide)) rz_sm.rf
    · have ty := fun R => (m_M_isTown (d := d + 1) (hp := hp) (R := R)).2 hy
      have h1 : ¬ (rz_town x ∧ rz_town y) := fun q => hy q.2
      simp only [if_pos h1] at kk
      simp only [↓ri_153_0, ↓ri_153_1, ↓ri_153_4, ↓ri_153_7, ↓ri_153_8, ↓ri_153_11, ↓ri_153_14, ↓ri_153_15, ↓ri_153_16, ↓ri_153_17, ↓ri_153_18, ↓ri_153_21, ↓ri_153_24, ↓ri_153_27, ↓ri_153_28, ↓ri_153_29, ↓ri_153_32, ↓ri_153_34, ↓ri_153_35, ↓ri_153_36, ↓ri_153_39, ↓ri_153_40, ↓ri_153_41, ↓ri_153_44, ↓ri_153_45, ↓ri_153_47, ↓ri_153_49, ↓ri_153_50, ↓ri_153_53, ↓ri_153_55, ↓ri_153_56, ↓ri_153_58, ↓ri_153_60, ↓ri_153_63, ↓ri_153_64, ↓ri_153_67, ↓ri_153_69, ↓ri_153_72, ↓ri_153_74, ↓ri_153_75, ↓ri_153_76, ↓ri_153_79, ↓ri_153_80, ↓ri_153_83, ↓ri_153_84, ↓ri_153_85, ↓ri_153_88, ↓ri_153_89, ↓ri_153_90, ↓ri_153_91, ↓ri_153_94, Option.some.injEq, Prod.mk.injEq, exists_eq_left', exists_eq', exists_and_left, exists_and_right, true_and, and_true, true_or, or_true, and_self, and_assoc, Option.toList_some, Option.toList_none, List.cons_append, List.nil_append, ↓reduceIte, rz_x01, rz_x10, tx', ty, ↓if_neg z10]
      exact kk hp (err _ (by decide)) rz_sm.rf
  · have tx' := fun R => (m_M_isTown (d := d + 1) (hp := hp) (R := R)).2 hx
    have h1 : ¬ (rz_town x ∧ rz_town y) := fun q => hx q.1
    simp only [if_pos h1] at kk
    simp only [↓ri_153_0, ↓ri_153_1, ↓ri_153_4, ↓ri_153_7, ↓ri_153_8, ↓ri_153_11, ↓ri_153_14, ↓ri_153_15, ↓ri_153_16, ↓ri_153_17, ↓ri_153_18, ↓ri_153_21, ↓ri_153_24, ↓ri_153_27, ↓ri_153_28, ↓ri_153_29, ↓ri_153_32, ↓ri_153_34, ↓ri_153_35, ↓ri_153_36, ↓ri_153_39, ↓ri_153_40, ↓ri_153_41, ↓ri_153_44, ↓ri_153_45, ↓ri_153_47, ↓ri_153_49, ↓ri_153_50, ↓ri_153_53, ↓ri_153_55, ↓ri_153_56, ↓ri_153_58, ↓ri_153_60, ↓ri_153_63, ↓ri_153_64, ↓ri_153_67, ↓ri_153_69, ↓ri_153_72, ↓ri_153_74, ↓ri_153_75, ↓ri_153_76, ↓ri_153_79, ↓ri_153_80, ↓ri_153_83, ↓ri_153_84, ↓ri_153_85, ↓ri_153_88, ↓ri_153_89, ↓ri_153_90, ↓ri_153_91, ↓ri_153_94, Option.some.injEq, Prod.mk.injEq, exists_eq_left', exists_eq', exists_and_left, exists_and_right, true_and, and_true, true_or, or_true, and_self, and_assoc, Option.toList_some, Option.toList_none, List.cons_append, List.nil_append, ↓reduceIte, rz_x01, rz_x10, tx']
    exact kk hp (err _ (by decide)) rz_sm.rf
set_option maxHeartbeats 4000000 in
set_option maxRecDepth 100000 in
theorem m_M_unroad {x y : Int32} (h : rz_MM m s hist shot tx ro re sp os B hp) (hI : rz_IV s) (kk : ∀ hp', rz_MM m (rz_unroad_ s x y).2 (rz_hs (rz_unroad_ s x y).1 s hist) shot tx ro re sp os (B + 2000) hp' → rz_sm m (m + 9) hp hp' → R (some (.int (rz_unroad_ s x y).1)) hp') : rz_ev (d + 3) 154 0 [some (.ref m), some (.int x), some (.int y), none] [] hp R := by
  obtain ⟨L, fl, am, lat, rd, laid, ci, co, tb⟩ := s
  obtain ⟨⟨f0, -⟩, ⟨f, a1, w1⟩, -⟩ := id h
  obtain ⟨S, Z, hS, ⟨q0, q2, q3, q4, q5, q6, q7, q8⟩, hZ, hY⟩ := id w1
  have z10 : ¬ (1 : Int32) = 0 := by decide
  have err : ∀ r : Int32, r < 0 → rz_MM m (L, fl, am, lat, rd, laid, ci, co, tb) (rz_hs r (L, fl, am, lat, rd, laid, ci, co, tb) hist) shot tx ro re sp os (B + 2000) hp := fun r hr => by
    unfold rz_hs; rw [if_pos hr]; exact h.mono (by omega)
  unfold rz_unroad_ rz_rem_ at kk
  by_cases hx : rz_town x
  · have tx' := fun R => (m_M_isTown (d := d + 1) (hp := hp) (R := R)).1 hx
    by_cases hy : rz_town y
    · have ty := fun R => (m_M_isTown (d := d + 1) (hp := hp) (R := R)).1 hy
      have hlo : rz_lo rd x y = rd (rz_ix x y) := by unfold rz_lo; exact if_pos ⟨hx, hy⟩
      have hix := (rz_ix_of hx hy).1
      have op := fun hp R => m_M_placeOf (d := d + 2) (hp := hp) hx hy (R := R)
      have v2 : vp_in (nI (40 + rz_ix x y)) 430 := vp_in_nI (by omega) (by decide)
      have k2 : (nI (40 + rz_ix x y)).toNatClampNeg = 40 + rz_ix x y := nI_clamp (by omega)
      simp only [hlo] at kk
      by_cases h5 : rd (rz_ix x y) = -5
      · simp only [if_pos h5] at kk
        simp only [↓ri_154_0, ↓ri_154_1, ↓ri_154_4, ↓ri_154_7, ↓ri_154_8, ↓ri_154_11, ↓ri_154_14, ↓ri_154_15, ↓ri_154_18, ↓ri_154_19, ↓ri_154_20, ↓ri_154_23, ↓ri_154_24, ↓ri_154_26, ↓ri_154_29, ↓ri_154_30, Option.some.injEq, Prod.mk.injEq, exists_eq_left', exists_eq', exists_and_left, exists_and_right, true_and, and_true, true_or, or_true, and_self, and_assoc, Option.toList_some, Option.toList_none, List.cons_append, List.nil_append, ↓reduceIte, rz_x01, rz_x10, tx', ty, ↓if_neg z10, op, f0, a1, v2, k2, q8 _ hix, ↓if_pos h5]
        exact kk hp (err _ (by decide)) rz_sm.rf
      · simp only [if_neg h5] at kk
        simp only [↓ri_154_0, ↓ri_154_1, ↓ri_154_4, ↓ri_154_7, ↓ri_154_8, ↓ri_154_11, ↓ri_154_14, ↓ri_154_15, ↓ri_154_18, ↓ri_154_19, ↓ri_154_20, ↓ri_154_23, ↓ri_154_24, ↓ri_154_26, ↓ri_154_29, ↓ri_154_30, ↓ri_154_31, ↓ri_154_32, Option.some.injEq, Prod.mk.injEq, exists_eq_left', exists_eq', exists_and_left, exists_and_right, true_and, and_true, true_or, or_true, and_self, and_assoc, Option.toList_some, Option.toList_none, List.cons_append, List.nil_append, ↓reduceIte, rz_x01, rz_x10, tx', ty, ↓if_neg z10, op, f0, a1, v2, k2, q8 _ hix, ↓if_neg h5, rz_co_fv f0]
        refine m_M_records (d := d) h (fun h2 k2' s2 => ?_)
        obtain ⟨⟨g0, -⟩, ⟨f', a1', w1'⟩, -⟩ := id k2'
        have s3 : rz_sm (m + 1) (m + 2) h2 (rz_pa h2 (m + 1) (upd f' (40 + rz_ix x y) (-5))) := rz_sm_pa (by omega) (by omega)
        have hq8 : f' (40 + rz_ix x y) = rd (rz_ix x y) := by
          obtain ⟨S, Z, hS, ⟨q0, q2, q3, q4, q5, q6, q7, q8⟩, hZ, hY⟩ := id w1'
          exact q8 _ hix
        have k3 := k2'.row (rz_RO.mono ⟨_, rz_avS (g := upd f' (40 + rz_ix x y) (-5)) a1', w1'.road (l2 := laid - 1) hix⟩ (Nat.le_refl B)) (Nat.le_refl _) s3
        simp only [↓ri_154_35, ↓ri_154_36, ↓ri_154_39, ↓ri_154_40, ↓ri_154_41, ↓ri_154_44, ↓ri_154_45, ↓ri_154_46, ↓ri_154_47, ↓ri_154_50, ↓ri_154_51, ↓ri_154_52, ↓ri_154_55, ↓ri_154_57, ↓ri_154_58, ↓ri_154_59, Option.some.injEq, Prod.mk.injEq, exists_eq_left', exists_eq', exists_and_left, exists_and_right, true_and, and_true, true_or, or_true, and_self, and_assoc, Option.toList_some, Option.toList_none, List.cons_append, List.nil_append, ↓reduceIte, rz_x01, rz_x10, g0, op, a1', v2, k2, hq8]
        refine kk _ ?_ (s2.tr (s3.wd (by omega) (by omega)))
        unfold rz_hs
        rcases hI.2.2.1.1 _ hix with q | ⟨b, hb, hbe⟩
        · exact absurd q h5
        · rw [if_neg (by rw [hbe]; exact nI_pos (by omega))]
          exact k3.mono (by omega)
    · have ty := fun R => (m_M_isTown (d := d + 1) (hp := hp) (R := R)).2 hy
      have hlo : rz_lo rd x y = -5 := by unfold rz_lo; exact if_neg (fun q => hy q.2)
      simp only [if_pos hlo] at kk
      simp only [↓ri_154_0, ↓ri_154_1, ↓ri_154_4, ↓ri_154_7, ↓ri_154_8, ↓ri_154_11, ↓ri_154_14, ↓ri_154_15, ↓ri_154_18, ↓ri_154_19, ↓ri_154_20, ↓ri_154_23, ↓ri_154_24, ↓ri_154_26, ↓ri_154_29, ↓ri_154_30, Option.some.injEq, Prod.mk.injEq, exists_eq_left', exists_eq', exists_and_left, exists_and_right, true_and, and_true, true_or, or_true, and_self, and_assoc, Option.toList_some, Option.toList_none, List.cons_append, List.nil_append, ↓reduceIte, rz_x01, rz_x10, tx', ty, ↓if_neg z10]
      exact kk hp (err _ (by decide)) rz_sm.rf
  · have tx' := fun R => (m_M_isTown (d := d + 1) (hp := hp) (R := R)).2 hx
    have hlo : rz_lo rd x y = -5 := by unfold rz_lo; exact if_neg (fun q => hx q.1)
    simp only [if_pos hlo] at kk
    simp only [↓ri_154_0, ↓ri_154_1, ↓ri_154_4, ↓ri_154_7, ↓ri_154_8, ↓ri_154_11, ↓ri_154_14, ↓ri_154_15, ↓ri_154_18, ↓ri_154_19, ↓ri_154_20, ↓ri_154_23, ↓ri_154_24, ↓ri_154_26, ↓ri_154_29, ↓ri_154_30, Option.some.injEq, Prod.mk.injEq, exists_eq_left', exists_eq', exists_and_left, exists_and_right, true_and, and_true, true_or, or_true, and_self, and_assoc, Option.toList_some, Option.toList_none, List.cons_append, List.nil_append, ↓reduceIte, rz_x01, rz_x10, tx']
    exact kk hp (err _ (by decide)) rz_sm.rf
end RZMB
