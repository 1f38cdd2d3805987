/-! RisingPilesModel: what came out is told -/
section RZM6
variable {d a : Nat} {f f2 : Nat → Int32} {hp : rz_Hp} {R : Option Value → rz_Hp → Prop} {Z : List rz_Zt} {L : List rz_En} {fl am : Int32} {lat : List rz_La} {rd : Nat → Int32} {laid ci co tb : Int32} {B : Nat}
set_option maxHeartbeats 4000000 in
set_option maxRecDepth 100000 in
theorem m_M_tellsB {i n : Nat} {l2 : Option Value} (ha : rz_av hp a = some (0, 430, f)) (h7 : f 7 = nI n) (hn : n ≤ 7) (hi : i < 41) (kk : ∀ hp', rz_av hp' a = some (0, 430, upd (va_cpy f f (184 + 6 * i) (8 + 4 * n) 4) 7 (nI (n + 1))) → rz_sm a (a + 1) hp hp' → R none hp') : rz_ev (d + 1) 136 43 [some (.ref a), some (.int (nI i)), l2] [] hp R := by
  have hL : ∀ w, w ≤ 4 → ∀ hp1, rz_av hp1 a = some (0, 430, va_cpy f f (184 + 6 * i) (8 + 4 * n) w) → rz_sm a (a + 1) hp hp1 → rz_ev (d + 1) 136 45 [some (.ref a), some (.int (nI i)), some (.int (nI w))] [] hp1 R := by
    refine rz_down 4 ?_ ?_
    · intro hp1 a1 s1
      have c1 : (4 : Int32) ≤ nI 4 := by decide
      have e1 : va_cpy f f (184 + 6 * i) (8 + 4 * n) 4 7 = nI n := by rw [pk_cpy_out (by omega), h7]
      rw [ri_136_45]
      simp only [↓ri_136_46, ↓ri_136_47, ↓ri_136_75, ↓ri_136_76, ↓ri_136_78, ↓ri_136_79, ↓ri_136_80, ↓ri_136_81, ↓ri_136_82, ↓ri_136_83, Option.some.injEq, Prod.mk.injEq, exists_eq_left', exists_eq', exists_and_left, exists_and_right, true_and, and_true, true_or, or_true, and_self, and_assoc, Option.toList_some, Option.toList_none, List.cons_append, List.nil_append, ↓reduceIte, rz_x01, rz_x10, ↓if_pos c1, a1, rz_v7, rz_k7, e1, nI_1]
      exact kk _ (rz_avS a1) (s1.tr (rz_sm_pa (by omega) (by omega)))
    · intro w hw ih hp1 a1 s1
      have c1 : ¬ (4 : Int32) ≤ nI w := nI_ge (b := 4) hw (by decide)
      have e1 : va_cpy f f (184 + 6 * i) (8 + 4 * n) w 7 = nI n := by rw [pk_cpy_out (by omega), h7]
      have e2 : (8 : Int32) + 4 * nI n + nI w = nI (8 + 4 * n + w) := by rw [show (8 : Int32) = nI 8 from rfl, show (4 : Int32) = nI 4 from rfl, pk_mul, nI_add, nI_add]
      have v2 : vp_in (nI (8 + 4 * n + w)) 430 := vp_in_nI (by omega) (by decide)
      have k2 : (nI (8 + 4 * n + w)).toNatClampNeg = 8 + 4 * n + w := nI_clamp (by omega)
      have ow := fun R => m_M_of (d := d) (i := i) (w := w) (x := nI w) a1 hi (by omega) rfl (R := R)
      rw [ri_136_45]
      simp only [↓ri_136_46, ↓ri_136_47, ↓ri_136_50, ↓ri_136_51, ↓ri_136_53, ↓ri_136_54, ↓ri_136_55, ↓ri_136_57, ↓ri_136_58, ↓ri_136_59, ↓ri_136_60, ↓ri_136_61, ↓ri_136_62, ↓ri_136_63, ↓ri_136_64, ↓ri_136_65, ↓ri_136_68, ↓ri_136_69, ↓ri_136_72, Option.some.injEq, Prod.mk.injEq, exists_eq_left', exists_eq', exists_and_left, exists_and_right, true_and, and_true, true_or, or_true, and_self, and_assoc, Option.toList_some, Option.toList_none, List.cons_append, List.nil_append, ↓reduceIte, rz_x01, rz_x10, ↓if_neg c1, a1, rz_v7, rz_k7, e1, e2, ow, v2, k2, nI_1]
      exact ih _ (by rw [rz_cpStep (by omega)]; exact rz_avS a1) (s1.tr (rz_sm_pa (by omega) (by omega)))
  have h0 := hL 0 (Nat.zero_le _) hp (by rw [rz_cpNil]; exact ha) rz_sm.rf
  rw [nI_0] at h0
  simp only [↓ri_136_43, ↓ri_136_44]
  exact h0
set_option maxHeartbeats 4000000 in
set_option maxRecDepth 100000 in
theorem m_M_tells {i : Nat} {z : rz_Zt} (ha : rz_av hp a = some (0, 430, f)) (hl : rz_la f lat) (hi : i < 41) (hz : rz_z6 f i z) (kk : ∀ hp' f', rz_av hp' a = some (0, 430, f') → rz_la f' (((z.1.1, z.1.2.1, z.1.2.2.1, z.1.2.2.2.1) :: lat).take 8) → (∀ j, j < 7 ∨ 40 ≤ j → f' j = f j) → rz_sm a (a + 1) hp hp' → R none hp') : rz_ev (d + 1) 136 0 [some (.ref a), some (.int (nI i)), none] [] hp R := by
  obtain ⟨h8, h7, hA⟩ := hl
  obtain ⟨g0, g1, g2, g3, g4, g5, g6⟩ := hz
  by_cases hn : lat.length < 8
  · have c1 : ¬ nI lat.length = 8 := fun q => absurd ((nI_eq (b := 8) (by omega) (by decide)).mp q) (by omega)
    simp only [↓ri_136_0, ↓ri_136_1, ↓ri_136_3, ↓ri_136_4, ↓ri_136_6, Option.some.injEq, Prod.mk.injEq, exists_eq_left', exists_eq', exists_and_left, exists_and_right, true_and, and_true, true_or, or_true, and_self, and_assoc, Option.toList_some, Option.toList_none, List.cons_append, List.nil_append, ↓reduceIte, rz_x01, rz_x10, ha, rz_v7, rz_k7, h7, ↓if_neg c1]
    refine m_M_tellsB (d := d) ha h7 (by omega) hi (fun hp' a' s' => kk _ _ a' ⟨?_, ?_, fun k x hx => ?_⟩ (fun j hj => ?_) s')
    · exact List.length_take_le _ _
    · rw [pk_us, List.take_of_length_le (by rw [List.length_cons]; omega), List.length_cons]
    · rw [List.take_of_length_le (by rw [List.length_cons]; omega)] at hx ⊢
      rw [List.length_cons]
      cases k with
      | zero =>
        cases hx
        refine ⟨?_, ?_, ?_, ?_⟩
        · rw [pk_un (by omega), pk_cpy_in (by omega) (by omega), ← g0]; try (congr 1 <;> omega)
        · rw [pk_un (by omega), pk_cpy_in (by omega) (by omega), ← g1]; try (congr 1 <;> omega)
        · rw [pk_un (by omega), pk_cpy_in (by omega) (by omega), ← g2]; try (congr 1 <;> omega)
        · rw [pk_un (by omega), pk_cpy_in (by omega) (by omega), ← g3]; try (congr 1 <;> omega)
      | succ k =>
        rw [List.getElem?_cons_succ] at hx
        have hk := (List.getElem?_eq_some_iff.mp hx).1
        obtain ⟨q0, q1, q2, q3⟩ := hA k x hx
        rw [show lat.length + 1 - 1 - (k + 1) = lat.length - 1 - k by omega]
        refine ⟨?_, ?_, ?_, ?_⟩ <;> (rw [pk_un (by omega), pk_cpy_out (by omega)]; assumption)
    · rw [pk_un (by omega), pk_cpy_out (by omega)]
  · have hn8 : lat.length = 8 := by omega
    rw [hn8] at h7
    have c1 : nI 8 = (8 : Int32) := rfl
    have hL : ∀ w, w ≤ 28 → ∀ hp1, rz_av hp1 a = some (0, 430, va_cpy f f 12 8 w) → rz_sm a (a + 1) hp hp1 → rz_ev (d + 1) 136 11 [some (.ref a), some (.int (nI i)), some (.int (nI w))] [] hp1 R := by
      refine rz_down 28 ?_ ?_
      · intro hp1 a1 s1
        have c1 : (28 : Int32) ≤ nI 28 := by decide
        have e1 : va_cpy f f 12 8 28 7 = nI 8 := by rw [pk_cpy_out (by omega), h7]
        have e2 : nI 8 - 1 = nI 7 := rfl
        rw [ri_136_11]
        simp only [↓ri_136_12, ↓ri_136_14, ↓ri_136_35, ↓ri_136_36, ↓ri_136_38, ↓ri_136_39, ↓ri_136_40, ↓ri_136_41, ↓ri_136_42, Option.some.injEq, Prod.mk.injEq, exists_eq_left', exists_eq', exists_and_left, exists_and_right, true_and, and_true, true_or, or_true, and_self, and_assoc, Option.toList_some, Option.toList_none, List.cons_append, List.nil_append, ↓reduceIte, rz_x01, rz_x10, ↓if_pos c1, a1, rz_v7, rz_k7, e1, e2]
        refine m_M_tellsB (d := d) (n := 7) (rz_avS a1) pk_us (by omega) hi (fun hp' a' s' => kk _ _ a' ⟨?_, ?_, fun k x hx => ?_⟩ (fun j hj => ?_) ((s1.tr (rz_sm_pa (by omega) (by omega))).tr s'))
        · exact List.length_take_le _ _
        · rw [pk_us, List.length_take, List.length_cons, hn8]; rfl
        · rw [List.length_take, List.length_cons, hn8, show min 8 (8 + 1) = 8 from rfl]
          have hk8 := (List.getElem?_eq_some_iff.mp hx).1
          rw [List.length_take, List.length_cons, hn8] at hk8
          rw [List.getElem?_take_of_lt (by omega)] at hx
          cases k with
          | zero =>
            cases hx
            refine ⟨?_, ?_, ?_, ?_⟩
            · rw [pk_un (by omega), pk_cpy_in (by omega) (by omega), pk_un (by omega), pk_cpy_out (by omega), ← g0]; try (congr 1 <;> omega)
            · rw [pk_un (by omega), pk_cpy_in (by omega) (by omega), pk_un (by omega), pk_cpy_out (by omega), ← g1]; try (congr 1 <;> omega)
            · rw [pk_un (by omega), pk_cpy_in (by omega) (by omega), pk_un (by omega), pk_cpy_out (by omega), ← g2]; try (congr 1 <;> omega)
            · rw [pk_un (by omega), pk_cpy_in (by omega) (by omega), pk_un (by omega), pk_cpy_out (by omega), ← g3]; try (congr 1 <;> omega)
          | succ k =>
            rw [List.getElem?_cons_succ] at hx
            obtain ⟨q0, q1, q2, q3⟩ := hA k x hx
            rw [hn8] at q0 q1 q2 q3
            refine ⟨?_, ?_, ?_, ?_⟩
            · rw [pk_un (by omega), pk_cpy_out (by omega), pk_un (by omega), pk_cpy_in (by omega) (by omega), ← q0]; try (congr 1 <;> omega)
            · rw [pk_un (by omega), pk_cpy_out (by omega), pk_un (by omega), pk_cpy_in (by omega) (by omega), ← q1]; try (congr 1 <;> omega)
            · rw [pk_un (by omega), pk_cpy_out (by omega), pk_un (by omega), pk_cpy_in (by omega) (by omega), ← q2]; try (congr 1 <;> omega)
            · rw [pk_un (by omega), pk_cpy_out (by omega), pk_un (by omega), pk_cpy_in (by omega) (by omega), ← q3]; try (congr 1 <;> omega)
        · rw [pk_un (by omega), pk_cpy_out (by omega), pk_un (by omega), pk_cpy_out (by omega)]
      · intro w hw ih hp1 a1 s1
        have c1 : ¬ (28 : Int32) ≤ nI w := nI_ge (b := 28) hw (by decide)
        have e2 : (8 : Int32) + nI w = nI (8 + w) := nI_add 8 w
        have e3 : (12 : Int32) + nI w = nI (12 + w) := nI_add 12 w
        have v2 : vp_in (nI (8 + w)) 430 := vp_in_nI (by omega) (by decide)
        have k2 : (nI (8 + w)).toNatClampNeg = 8 + w := nI_clamp (by omega)
        have v3 : vp_in (nI (12 + w)) 430 := vp_in_nI (by omega) (by decide)
        have k3 : (nI (12 + w)).toNatClampNeg = 12 + w := nI_clamp (by omega)
        rw [ri_136_11]
        simp only [↓ri_136_12, ↓ri_136_14, ↓ri_136_17, ↓ri_136_18, ↓ri_136_20, ↓ri_136_21, ↓ri_136_22, ↓ri_136_23, ↓ri_136_25, ↓ri_136_26, ↓ri_136_27, ↓ri_136_28, ↓ri_136_29, ↓ri_136_32, Option.some.injEq, Prod.mk.injEq, exists_eq_left', exists_eq', exists_and_left, exists_and_right, true_and, and_true, true_or, or_true, and_self, and_assoc, Option.toList_some, Option.toList_none, List.cons_append, List.nil_append, ↓reduceIte, rz_x01, rz_x10, ↓if_neg c1, a1, e2, e3, v2, k2, v3, k3, nI_1]
        exact ih _ (by rw [rz_cpStep (by omega)]; exact rz_avS a1) (s1.tr (rz_sm_pa (by omega) (by omega)))
    have h0 := hL 0 (Nat.zero_le _) hp (by rw [rz_cpNil]; exact ha) rz_sm.rf
    rw [nI_0] at h0
    simp only [↓ri_136_0, ↓ri_136_1, ↓ri_136_3, ↓ri_136_4, ↓ri_136_6, ↓ri_136_9, ↓ri_136_10, Option.some.injEq, Prod.mk.injEq, exists_eq_left', exists_eq', exists_and_left, exists_and_right, true_and, and_true, true_or, or_true, and_self, and_assoc, Option.toList_some, Option.toList_none, List.cons_append, List.nil_append, ↓reduceIte, rz_x01, rz_x10, ha, rz_v7, rz_k7, h7, ↓if_pos c1]
    exact h0
/-- the front of a pile in the slots is the first of it in the list -/
theorem rz_fzY {Y : List rz_Zt} {p : Int32} {j : Nat} {y : rz_Zt} (hp : Y.Perm Z) (hw : Y.Pairwise rz_so_) (hy : Y[j]? = some y) (hyp : y.1.2.2.2.2 = p) (hf : ∀ (i : Nat) (x : rz_Zt), i < j → Y[i]? = some x → ¬ x.1.2.2.2.2 = p) : ∃ i, rz_fz Z p Z.length i ∧ Z[i]? = some y := by
  obtain ⟨i, hi⟩ := List.getElem?_of_mem (hp.mem_iff.mp (List.mem_of_getElem? hy))
  refine ⟨i, ⟨(List.getElem?_eq_some_iff.mp hi).1, y, hi, hyp, fun k x hk hx hxp => ?_⟩, hi⟩
  obtain ⟨m, hm⟩ := List.getElem?_of_mem (hp.mem_iff.mpr (List.mem_of_getElem? hx))
  obtain ⟨hj', ey⟩ := List.getElem?_eq_some_iff.mp hy
  obtain ⟨hm', ex⟩ := List.getElem?_eq_some_iff.mp hm
  rcases Nat.lt_trichotomy m j with q | q | q
  · exact absurd hxp (hf m x q hm)
  · subst q; rw [hm] at hy; cases hy; exact Nat.le_refl _
  · have := List.pairwise_iff_getElem.mp hw j m hj' hm' q
    rw [ey, ex] at this
    exact Nat.le_of_lt (this (by rw [hyp, hxp]))
theorem rz_YZ_at {S j : Nat} {e : rz_En} (h : rz_YZ L S Z) (he : L[j]? = some e) : ∃ Y : List rz_Zt, ∃ y, Y.map Prod.fst = L ∧ Y.Perm Z ∧ Y.Pairwise rz_so_ ∧ (∀ y ∈ Y, y.2 < S) ∧ Y[j]? = some y ∧ y.1 = e := by
  obtain ⟨Y, h1, h2, h3, h4⟩ := h
  have h5 := he
  rw [← h1, List.getElem?_map] at h5
  cases hy : Y[j]? with
  | none => rw [hy] at h5; cases h5
  | some y => rw [hy] at h5; exact ⟨Y, y, h1, h2, h3, h4, hy, Option.some.inj h5⟩
theorem rz_eraseMap {Y : List rz_Zt} {j : Nat} : (Y.eraseIdx j).map Prod.fst = (Y.map Prod.fst).eraseIdx j := by
  rw [List.eraseIdx_eq_take_drop_succ, List.eraseIdx_eq_take_drop_succ, List.map_append, List.map_take, List.map_drop]
/-- a state without one of its entries -/
theorem rz_YZ_er {S j : Nat} {y : rz_Zt} {Y Z2 : List rz_Zt} (h1 : Y.map Prod.fst = L) (h2 : Y.Perm Z) (h3 : Y.Pairwise rz_so_) (h4 : ∀ y ∈ Y, y.2 < S) (hy : Y[j]? = some y) (hz : (y :: Z2).Perm Z) : rz_YZ (L.eraseIdx j) S Z2 := by
  refine ⟨Y.eraseIdx j, by rw [rz_eraseMap, h1], ?_, h3.sublist (List.eraseIdx_sublist _ _), fun x hx => h4 x ((List.eraseIdx_sublist _ _).subset hx)⟩
  exact (((rz_er_perm hy).trans h2).trans hz.symm).cons_inv
/-- the first of pile 0, once the lowest pile has emptied -/
theorem rz_re0 {j : Nat} {e e1 : rz_En} (hI : rz_IE L fl ci) (hn : rz_nx L j) (he : L[j]? = some e) (he1 : (rz_re L e)[j]? = some e1) : e1.2.2.2.2 = 0 ∧ rz_reF fl e = e.2.1 ∧ ∀ (i : Nat) (x : rz_En), i < j → (rz_re L e)[i]? = some x → ¬ x.2.2.2.2 = 0 := by
  obtain ⟨c, m, g0, g1, g2, g3, g4, g5, g6⟩ := hI.low hn he
  obtain ⟨e', he', n1, n2⟩ := id hn
  rw [he] at he'
  cases he'
  have h16 := rz_b16 g2 g1
  unfold rz_re at he1 ⊢
  unfold rz_reF
  by_cases h0 : e.2.2.2.2 = 0
  · rw [if_pos h0] at he1 ⊢
    rw [if_pos h0]
    rw [he] at he1
    cases he1
    have hb0 : rz_bl (m ^^^ c) = 0 := (nI_eq (b := 0) (by omega) (by decide)).mp (g5.symm.trans h0)
    have hmc : m = c := by
      have := rz_bx.mp (Nat.le_of_eq hb0)
      simpa using this
    subst hmc
    refine ⟨h0, by rw [g3, g4], fun i x hi hx => ?_⟩
    obtain ⟨b, b1, b2, b3, b4, b5⟩ := g6 x (List.mem_of_getElem? hx)
    have hlt := n2 i x hi hx
    rw [b3, g4] at hlt
    have hmb : m < b := (nI_ltI (by omega) (by omega)).mp hlt
    have hb16 := rz_b16 b2 g1
    rw [b4]
    intro q
    have := rz_bx.mp (Nat.le_of_eq ((nI_eq (b := 0) (by omega) (by decide)).mp q))
    simp at this
    omega
  · rw [if_neg h0] at he1 ⊢
    rw [if_neg h0]
    rw [List.getElem?_map, he] at he1
    cases he1
    have hm0 : rz_bl (m ^^^ m) = 0 := by rw [Nat.xor_self]; rfl
    refine ⟨?_, rfl, fun i x hi hx => ?_⟩
    · unfold rz_mo
      rw [if_pos rfl, g4]
      show rz_pl (nI m) (nI m) = 0
      rw [rz_plN g2 g2, hm0]
      rfl
    · rw [List.getElem?_map] at hx
      cases hy : L[i]? with
      | none => rw [hy] at hx; cases hx
      | some y =>
        rw [hy] at hx
        cases hx
        obtain ⟨b, b1, b2, b3, b4, b5⟩ := g6 y (List.mem_of_getElem? hy)
        have hlt := n2 i y hi hy
        rw [b3, g4] at hlt
        have hmb : m < b := (nI_ltI (by omega) (by omega)).mp hlt
        have hb16 := rz_b16 b2 g1
        have hb17 := rz_b16 b2 g2
        unfold rz_mo
        by_cases hp1 : y.2.2.2.2 = e.2.2.2.2
        · rw [if_pos hp1, g4, b3]
          show ¬ rz_pl (nI m) (nI b) = 0
          rw [rz_plN b2 g2]
          intro q
          have := rz_bx.mp (Nat.le_of_eq ((nI_eq (b := 0) (by omega) (by decide)).mp q))
          simp at this
          omega
        · rw [if_neg hp1, b4]
          intro q
          have hq : rz_bl (b ^^^ c) = 0 := (nI_eq (b := 0) (by omega) (by decide)).mp q
          rw [g5] at h0
          exact h0 (by rw [show rz_bl (m ^^^ c) = 0 by omega]; rfl)
set_option maxHeartbeats 4000000 in
set_option maxRecDepth 100000 in
theorem m_M_comesOut {j : Nat} (ha : rz_av hp a = some (0, 430, f)) (h : rz_RW f (L, fl, am, lat, rd, laid, ci, co, tb) B) (hI : rz_IE L fl ci) (hn : rz_nxf L = some j) (hB : B + 41 < 2 ^ 30) (kk : ∀ hp' f', rz_av hp' a = some (0, 430, f') → rz_RW f' (rz_out_ (L, fl, am, lat, rd, laid, ci, co, tb)).2 (B + 41) → rz_sm a (a + 1) hp hp' → R (some (.int (rz_out_ (L, fl, am, lat, rd, laid, ci, co, tb)).1)) hp') : rz_ev (d + 4) 138 0 [some (.ref a), none, none] [] hp R := by
  have hnx := rz_nxf_some hn
  obtain ⟨e, he, -, -⟩ := id hnx
  obtain ⟨e1, he1, k1, k2, k3⟩ := rz_re_at he
  rw [rz_out_eq hn he he1] at kk
  obtain ⟨r0, -, r1⟩ := rz_re0 hI hnx he he1
  simp only [↓ri_138_0, ↓ri_138_1, Option.some.injEq, Prod.mk.injEq, exists_eq_left', exists_eq', exists_and_left, exists_and_right, true_and, and_true, true_or, or_true, and_self, and_assoc, Option.toList_some, Option.toList_none, List.cons_append, List.nil_append, ↓reduceIte, rz_x01, rz_x10]
  refine m_M_empties (d := d) ha h hI hnx he hB (fun h1 f1 a1 w1 s1 => ?_)
  obtain ⟨S, Z, hS, hH, hZ, hY⟩ := id w1
  obtain ⟨Y, y, y1, y2, y3, y4, y5, y6⟩ := rz_YZ_at hY he1
  replace y1 : Y.map Prod.fst = rz_re L e := y1
  obtain ⟨i, hfz, hzi⟩ := rz_fzY (p := 0) y2 y3 y5 (by rw [y6]; exact r0) (fun i x hi hx => r1 i x.1 hi (by rw [← y1, List.getElem?_map, hx]; rfl))
  have hi41 : i < 41 := Nat.lt_of_lt_of_le hfz.1 hZ.1
  have hz6 := hZ.2.2 i y hzi
  have ofr := fun R => m_M_frontOf (d := d + 2) a1 hZ (rz_dzY y2 y3) hfz (R := R)
  have o0 := fun R => m_M_of (d := d + 3) (i := i) (w := 0) (x := 0) a1 hi41 (by decide) rfl (R := R)
  rw [Nat.add_zero (184 + 6 * i), hz6.1, y6, k1] at o0
  simp only [↓ri_138_4, ↓ri_138_5, ↓ri_138_6, ↓ri_138_9, ↓ri_138_10, ↓ri_138_11, ↓ri_138_12, ↓ri_138_13, ↓ri_138_16, ↓ri_138_17, ↓ri_138_18, ↓ri_138_19, Option.some.injEq, Prod.mk.injEq, exists_eq_left', exists_eq', exists_and_left, exists_and_right, true_and, and_true, true_or, or_true, and_self, and_assoc, Option.toList_some, Option.toList_none, List.cons_append, List.nil_append, ↓reduceIte, rz_x01, rz_x10, ofr, o0]
  obtain ⟨q0, q2, q3, q4, q5, q6, q7, q8⟩ := hH
  refine m_M_tells (d := d + 2) a1 q7 hi41 hz6 (fun h2 f2 a2 w2 e2 s2 => ?_)
  have hZ2 : rz_ZS f2 Z := rz_ZS_hd hZ (e2 1 (by omega)) (fun j hj => e2 j (by omega))
  simp only [↓ri_138_22, ↓ri_138_23, ↓ri_138_24, Option.some.injEq, Prod.mk.injEq, exists_eq_left', exists_eq', exists_and_left, exists_and_right, true_and, and_true, true_or, or_true, and_self, and_assoc, Option.toList_some, Option.toList_none, List.cons_append, List.nil_append, ↓reduceIte, rz_x01, rz_x10]
  refine m_M_drops (d := d + 2) a2 hZ2 hzi (fun h3 f3 Z3 a3 z3 p3 e3 s3 => ?_)
  have e4 : f3 3 = co := by rw [e3 3 (by omega) (by omega), e2 3 (by omega)]; exact q3
  simp only [↓ri_138_27, ↓ri_138_28, ↓ri_138_29, ↓ri_138_30, ↓ri_138_31, ↓ri_138_32, ↓ri_138_33, ↓ri_138_34, ↓ri_138_35, Option.some.injEq, Prod.mk.injEq, exists_eq_left', exists_eq', exists_and_left, exists_and_right, true_and, and_true, true_or, or_true, and_self, and_assoc, Option.toList_some, Option.toList_none, List.cons_append, List.nil_append, ↓reduceIte, rz_x01, rz_x10, a3, rz_v3, rz_k3, e4]
  refine kk _ _ (rz_avS a3) ⟨S, Z3, hS, ⟨?_, ?_, ?_, ?_, ?_, ?_, ?_, fun i hi => ?_⟩, rz_ZS_hd z3 (pk_un (by omega)) (fun j hj => pk_un (by omega)), rz_YZ_er y1 y2 y3 y4 y5 p3⟩ (((s1.tr s2).tr s3).tr (rz_sm_pa (by omega) (by omega)))
  · rw [pk_un (by omega), e3 0 (by omega) (by omega), e2 0 (by omega)]; exact q0
  · rw [pk_un (by omega), e3 2 (by omega) (by omega), e2 2 (by omega)]; exact q2
  · exact pk_us
  · rw [pk_un (by omega), e3 4 (by omega) (by omega), e2 4 (by omega)]; exact q4
  · rw [pk_un (by omega), e3 5 (by omega) (by omega), e2 5 (by omega)]; exact q5
  · rw [pk_un (by omega), e3 6 (by omega) (by omega), e2 6 (by omega)]; exact q6
  · rw [y6] at w2
    exact rz_la_hd w2 (fun j hj hj2 => by rw [pk_un (by omega), e3 j (by omega) (by omega)])
  · rw [pk_un (by omega), e3 _ (by omega) (by omega), e2 _ (by omega)]; exact q8 i hi
end RZM6
