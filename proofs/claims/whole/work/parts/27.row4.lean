/-! RisingPilesModel: a row and a state -/
theorem rz_er_perm {α : Type} {Z : List α} {i : Nat} {y : α} (h : Z[i]? = some y) : (y :: Z.eraseIdx i).Perm Z := by
  have hi := (List.getElem?_eq_some_iff.mp h).1
  have hy := (List.getElem?_eq_some_iff.mp h).2
  rw [List.eraseIdx_eq_take_drop_succ]
  refine List.perm_middle.symm.trans (List.Perm.of_eq ?_)
  rw [← hy, List.getElem_cons_drop, List.take_append_drop]
theorem rz_set_perm {α : Type} {Z : List α} {i : Nat} {y z : α} (h : Z[i]? = some y) : (z :: Z.eraseIdx i).Perm (Z.set i z) := by
  have hi := (List.getElem?_eq_some_iff.mp h).1
  rw [List.set_eq_take_append_cons_drop, if_pos hi, List.eraseIdx_eq_take_drop_succ]
  exact List.perm_middle.symm
theorem rz_put_perm {α : Type} {Z A T : List α} {i : Nat} {y z : α} (h : Z[i]? = some y) (hp : (A ++ y :: T).Perm Z) : (A ++ z :: T).Perm (Z.set i z) := by
  have h1 : (y :: (A ++ T)).Perm (y :: Z.eraseIdx i) := (List.perm_middle.symm.trans hp).trans (rz_er_perm h).symm
  exact (List.perm_middle.trans (h1.cons_inv.cons z)).trans (rz_set_perm h)
/-- entries of a pile stand in the order of their stamps -/
def rz_so_ (x y : rz_Zt) : Prop := x.1.2.2.2.2 = y.1.2.2.2.2 → x.2 < y.2
theorem rz_dzY {Y Z : List rz_Zt} (hp : Y.Perm Z) (h : Y.Pairwise rz_so_) : rz_dz Z := by
  have h1 : Y.Pairwise (fun x y => x.1.2.2.2.2 = y.1.2.2.2.2 → ¬ x.2 = y.2) := h.imp (fun {x y} hxy q => Nat.ne_of_lt (hxy q))
  have h2 : Z.Pairwise (fun x y => x.1.2.2.2.2 = y.1.2.2.2.2 → ¬ x.2 = y.2) := h1.perm hp (fun {x y} hxy q q2 => hxy q.symm q2.symm)
  have h3 := List.pairwise_iff_getElem.mp h2
  intro i j x y hx hy hxy hst
  obtain ⟨hi, ex⟩ := List.getElem?_eq_some_iff.mp hx
  obtain ⟨hj, ey⟩ := List.getElem?_eq_some_iff.mp hy
  rcases Nat.lt_trichotomy i j with q | q | q
  · exact absurd hst (by have := h3 i j hi hj q; rw [ex, ey] at this; exact this hxy)
  · exact q
  · exact absurd hst.symm (by have := h3 j i hj hi q; rw [ex, ey] at this; exact this hxy.symm)
theorem rz_frS_ex {Z : List rz_Zt} {p : Int32} : ∀ n, n ≤ Z.length → ∃ b, rz_frS Z p n b := by
  intro n
  induction n with
  | zero => exact fun _ => ⟨-5, Or.inl ⟨rfl, fun i x hi => absurd hi (Nat.not_lt_zero _)⟩⟩
  | succ n ih =>
    intro hn
    obtain ⟨b, hb⟩ := ih (by omega)
    obtain ⟨x, hx⟩ := rz_ge (L := Z) (i := n) (by omega)
    by_cases hp1 : x.1.2.2.2.2 = p
    · rcases hb with ⟨rfl, hb⟩ | ⟨j, rfl, hj, z, hzj, hzp, hmin⟩
      · exact ⟨nI n, Or.inr ⟨n, rfl, Nat.lt_succ_self _, x, hx, hp1, fun i y hi hy hyp => by
          rcases Nat.lt_succ_iff_lt_or_eq.mp hi with q | q
          · exact absurd hyp (hb i y q hy)
          · subst q; rw [hx] at hy; cases hy; exact Nat.le_refl _⟩⟩
      · by_cases hlt : x.2 < z.2
        · exact ⟨nI n, Or.inr ⟨n, rfl, Nat.lt_succ_self _, x, hx, hp1, fun i y hi hy hyp => by
            rcases Nat.lt_succ_iff_lt_or_eq.mp hi with q | q
            · exact Nat.le_trans (Nat.le_of_lt hlt) (hmin i y q hy hyp)
            · subst q; rw [hx] at hy; cases hy; exact Nat.le_refl _⟩⟩
        · exact ⟨nI j, Or.inr ⟨j, rfl, by omega, z, hzj, hzp, fun i y hi hy hyp => by
            rcases Nat.lt_succ_iff_lt_or_eq.mp hi with q | q
            · exact hmin i y q hy hyp
            · subst q; rw [hx] at hy; cases hy; omega⟩⟩
    · refine ⟨b, ?_⟩
      rcases hb with ⟨hb1, hb⟩ | ⟨j, hbj, hj, z, hzj, hzp, hmin⟩
      · refine Or.inl ⟨hb1, fun i y hi hy => ?_⟩
        rcases Nat.lt_succ_iff_lt_or_eq.mp hi with q | q
        · exact hb i y q hy
        · subst q; rw [hx] at hy; cases hy; exact hp1
      · refine Or.inr ⟨j, hbj, by omega, z, hzj, hzp, fun i y hi hy hyp => ?_⟩
        rcases Nat.lt_succ_iff_lt_or_eq.mp hi with q | q
        · exact hmin i y q hy hyp
        · subst q; rw [hx] at hy; cases hy; exact absurd hyp hp1
theorem rz_frS_one {Z : List rz_Zt} {p b b2 : Int32} (hd : rz_dz Z) (h : rz_frS Z p Z.length b) (h2 : rz_frS Z p Z.length b2) : b = b2 := by
  rcases h with ⟨rfl, h⟩ | ⟨j, rfl, hj, z, hz, hzp, hmin⟩
  · rcases h2 with ⟨rfl, -⟩ | ⟨j, -, hj, z, hz, hzp, -⟩
    · rfl
    · exact absurd hzp (h j z hj hz)
  · rcases h2 with ⟨-, h⟩ | ⟨m, rfl, hm, y, hy, hyp, hmin2⟩
    · exact absurd hzp (h j z hj hz)
    · rw [hd j m z y hz hy (by rw [hyp, hzp]) (Nat.le_antisymm (hmin m y hm hy hyp) (hmin2 j z hj hz hzp))]
theorem rz_lp_eq {D : List rz_En} {p : Int32} (h1 : ∃ x ∈ D, x.2.2.2.2 = p) (h2 : ∀ x ∈ D, p ≤ x.2.2.2.2) (h3 : ∀ x ∈ D, ¬ x.2.2.2.2 = -5) : rz_lp D = p := by
  have hg : ∀ (D : List rz_En) (a : Int32), (∀ x ∈ D, p ≤ x.2.2.2.2) → (∀ x ∈ D, ¬ x.2.2.2.2 = -5) → (a = p ∨ ((a = -5 ∨ p ≤ a) ∧ ∃ x ∈ D, x.2.2.2.2 = p)) → ¬ p = -5 → D.foldl rz_lpS a = p := by
    intro D
    induction D with
    | nil =>
      intro a _ _ h _
      rcases h with h | ⟨-, x, hx, -⟩
      · exact h
      · cases hx
    | cons x D ih =>
      intro a h2 h3 h hp5
      have hx2 := h2 x (List.mem_cons_self)
      have hx3 := h3 x (List.mem_cons_self)
      refine ih _ (fun y hy => h2 y (List.mem_cons_of_mem _ hy)) (fun y hy => h3 y (List.mem_cons_of_mem _ hy)) ?_ hp5
      unfold rz_lpS
      rcases h with rfl | ⟨ha, y, hy, hyp⟩
      · rw [if_neg (fun q => q.elim hp5 (Int32.not_lt.mpr hx2))]
        exact Or.inl rfl
      · rcases List.mem_cons.mp hy with q | q
        · subst q
          rcases ha with ha | ha
          · rw [if_pos (Or.inl ha)]; exact Or.inl hyp
          · by_cases hlt : y.2.2.2.2 < a
            · rw [if_pos (Or.inr hlt)]; exact Or.inl hyp
            · left
              have e1 : a = p := Int32.le_antisymm (hyp ▸ Int32.not_lt.mp hlt) ha
              rw [if_neg (fun q => q.elim (fun q => hp5 (e1 ▸ q)) hlt)]
              exact e1
        · right
          refine ⟨?_, y, q, hyp⟩
          split
          · exact Or.inr hx2
          · exact ha
  obtain ⟨x, hx, hxp⟩ := h1
  exact hg D (-5) h2 h3 (Or.inr ⟨Or.inl rfl, x, hx, hxp⟩) (fun q => h3 x hx (by rw [hxp, q]))
theorem rz_mk_eq {D : List rz_En} {p k : Int32} (h1 : ∃ x ∈ D, x.2.2.2.2 = p ∧ x.2.1 = k) (h2 : ∀ x ∈ D, x.2.2.2.2 = p → k ≤ x.2.1) (hk : ¬ k = -5) : rz_mk D p = k := by
  have hg : ∀ (D : List rz_En) (a : Int32), (∀ x ∈ D, x.2.2.2.2 = p → k ≤ x.2.1) → (a = k ∨ ((a = -5 ∨ k ≤ a) ∧ ∃ x ∈ D, x.2.2.2.2 = p ∧ x.2.1 = k)) → D.foldl (rz_mkS p) a = k := by
    intro D
    induction D with
    | nil =>
      intro a _ h
      rcases h with h | ⟨-, x, hx, -⟩
      · exact h
      · cases hx
    | cons x D ih =>
      intro a h2 h
      have hx2 := h2 x (List.mem_cons_self)
      refine ih _ (fun y hy => h2 y (List.mem_cons_of_mem _ hy)) ?_
      unfold rz_mkS
      rcases h with rfl | ⟨ha, y, hy, hyp, hyk⟩
      · rw [if_neg (fun q => q.2.elim hk (Int32.not_lt.mpr (hx2 q.1)))]
        exact Or.inl rfl
      · rcases List.mem_cons.mp hy with q | q
        · subst q
          rcases ha with ha | ha
          · rw [if_pos ⟨hyp, Or.inl ha⟩]; exact Or.inl hyk
          · by_cases hlt : y.2.1 < a
            · rw [if_pos ⟨hyp, Or.inr hlt⟩]; exact Or.inl hyk
            · left
              have e1 : a = k := Int32.le_antisymm (hyk ▸ Int32.not_lt.mp hlt) ha
              rw [if_neg (fun q => q.2.elim (fun q => hk (e1 ▸ q)) hlt)]
              exact e1
        · right
          refine ⟨?_, y, q, hyp, hyk⟩
          split
          · next q2 => exact Or.inr (hx2 q2.1)
          · exact ha
  exact hg D (-5) h2 (Or.inr ⟨Or.inl rfl, h1⟩)
/-- the latest ones out, oldest first -/
def rz_la (f : Nat → Int32) (A : List rz_La) : Prop := A.length ≤ 8 ∧ f 7 = nI A.length ∧ ∀ (i : Nat) (x : rz_La), A[i]? = some x → f (8 + 4 * (A.length - 1 - i)) = x.1 ∧ f (8 + 4 * (A.length - 1 - i) + 1) = x.2.1 ∧ f (8 + 4 * (A.length - 1 - i) + 2) = x.2.2.1 ∧ f (8 + 4 * (A.length - 1 - i) + 3) = x.2.2.2
def rz_RH (f : Nat → Int32) : rz_AS → Nat → Prop := fun (_, fl, am, lat, rd, _, ci, co, tb) S => f 0 = fl ∧ f 2 = ci ∧ f 3 = co ∧ f 4 = am ∧ f 5 = tb ∧ f 6 = nI S ∧ rz_la f lat ∧ ∀ i, i < 144 → f (40 + i) = rd i
def rz_YZ (L : List rz_En) (S : Nat) (Z : List rz_Zt) : Prop := ∃ Y : List rz_Zt, Y.map Prod.fst = L ∧ Y.Perm Z ∧ Y.Pairwise rz_so_ ∧ ∀ y ∈ Y, y.2 < S
/-- a row holds a state, stamps up to B -/
def rz_RW (f : Nat → Int32) (s : rz_AS) (B : Nat) : Prop := ∃ (S : Nat) (Z : List rz_Zt), S ≤ B ∧ rz_RH f s S ∧ rz_ZS f Z ∧ rz_YZ s.1 S Z
theorem rz_RW.mono {f : Nat → Int32} {s : rz_AS} {B B2 : Nat} (h : rz_RW f s B) (hB : B ≤ B2) : rz_RW f s B2 := by
  obtain ⟨S, Z, h1, h2⟩ := h
  exact ⟨S, Z, Nat.le_trans h1 hB, h2⟩
theorem rz_la_hd {f g : Nat → Int32} {A : List rz_La} (h : rz_la f A) (hg : ∀ j, 7 ≤ j → j < 40 → g j = f j) : rz_la g A := by
  refine ⟨h.1, by rw [hg 7 (by omega) (by omega)]; exact h.2.1, fun i x hx => ?_⟩
  have hi := (List.getElem?_eq_some_iff.mp hx).1
  have h8 := h.1
  obtain ⟨g0, g1, g2, g3⟩ := h.2.2 i x hx
  exact ⟨by rw [hg _ (by omega) (by omega)]; exact g0, by rw [hg _ (by omega) (by omega)]; exact g1, by rw [hg _ (by omega) (by omega)]; exact g2, by rw [hg _ (by omega) (by omega)]; exact g3⟩
section RZM4
variable {d a : Nat} {f f2 : Nat → Int32} {hp : rz_Hp} {R : Option Value → rz_Hp → Prop} {Z : List rz_Zt} {L : List rz_En} {fl am : Int32} {lat : List rz_La} {rd : Nat → Int32} {laid ci co tb : Int32} {B : Nat}
set_option maxHeartbeats 4000000 in
set_option maxRecDepth 100000 in
theorem m_M_frontOf_ex {p : Int32} (ha : rz_av hp a = some (0, 430, f)) (hZ : rz_ZS f Z) (hd : rz_dz Z) : ∃ b, rz_frS Z p Z.length b ∧ ∀ (R : Option Value → rz_Hp → Prop), rz_ev (d + 1) 128 0 [some (.ref a), some (.int p), none, none, none] [] hp R ↔ R (some (.int b)) hp := by
  obtain ⟨b, hb⟩ := rz_frS_ex (Z := Z) (p := p) Z.length (Nat.le_refl _)
  refine ⟨b, hb, fun R => ?_⟩
  have := m_M_frontOf_loop (d := d) (R := R) ha hZ b (fun b2 hb2 => rz_frS_one hd hb2 hb) 0 (Nat.zero_le _) (-5) none (Or.inl ⟨rfl, fun i x hi => absurd hi (Nat.not_lt_zero _)⟩)
  rw [nI_0] at this
  simp only [↓ri_128_0, ↓ri_128_2, ↓ri_128_3, ↓ri_128_4, this]
theorem rz_RH_mv {S : Nat} {L2 : List rz_En} (h : rz_RH f (L, fl, am, lat, rd, laid, ci, co, tb) S) (hg : rz_hd f2 (upd (upd f 6 (nI (S + 1))) 4 (f 4 + 1))) : rz_RH f2 (L2, fl, am + 1, lat, rd, laid, ci, co, tb) (S + 1) := by
  obtain ⟨h0, h2, h3, h4, h5, h6, h7, h8⟩ := h
  refine ⟨?_, ?_, ?_, ?_, ?_, ?_, rz_la_hd h7 (fun j hj hj2 => ?_), fun i hi => ?_⟩
  · rw [hg 0 (by omega) (by omega), pk_un (by omega), pk_un (by omega), h0]
  · rw [hg 2 (by omega) (by omega), pk_un (by omega), pk_un (by omega), h2]
  · rw [hg 3 (by omega) (by omega), pk_un (by omega), pk_un (by omega), h3]
  · rw [hg 4 (by omega) (by omega), pk_us, h4]
  · rw [hg 5 (by omega) (by omega), pk_un (by omega), pk_un (by omega), h5]
  · rw [hg 6 (by omega) (by omega), pk_un (by omega), pk_us]
  · rw [hg j (by omega) (by omega), pk_un (by omega), pk_un (by omega)]
  · rw [hg _ (by omega) (by omega), pk_un (by omega), pk_un (by omega), h8 i hi]
set_option maxHeartbeats 4000000 in
set_option maxRecDepth 100000 in
theorem m_M_empties_loop {p m : Nat} {Gl : List rz_En} {amG : Int32} {hp0 : rz_Hp} (hm : m < 65536) (hB : B < 2 ^ 30) (kk : ∀ hp' f', rz_av hp' a = some (0, 430, f') → rz_RW f' (Gl, nI m, amG, lat, rd, laid, ci, co, tb) B → rz_sm a (a + 1) hp0 hp' → R none hp') : ∀ (T A : List rz_Zt) (am1 : Int32) (S : Nat) (Z1 : List rz_Zt) (f1 : Nat → Int32) (hp1 : rz_Hp) (b : Int32), rz_av hp1 a = some (0, 430, f1) → rz_RH f1 (Gl, nI m, am1, lat, rd, laid, ci, co, tb) S → rz_ZS f1 Z1 → (A ++ T).Perm Z1 → (A ++ T).Pairwise rz_so_ → (∀ y ∈ A ++ T, y.2 < S) → (∀ y ∈ A, ¬ y.1.2.2.2.2 = nI p) → (∀ y ∈ T, y.1.2.2.2.2 = nI p → (∃ b, b < 65536 ∧ y.1.2.1 = nI b) ∧ ∀ x ∈ T, ¬ rz_pl (nI m) y.1.2.1 = x.1.2.2.2.2) → A.map Prod.fst ++ T.map (fun y => rz_mo (nI p) (nI m) y.1) = Gl → am1 + nI (rz_cnt (T.map Prod.fst) (nI p)) = amG → S + T.length ≤ B → rz_sm a (a + 1) hp0 hp1 → rz_frS Z1 (nI p) Z1.length b → rz_ev (d + 3) 137 25 [some (.ref a), some (.int (nI p)), some (.int b)] [] hp1 R := by
  intro T
  induction T with
  | nil =>
    intro A am1 S Z1 f1 hp1 b ha hH hZ hpm hpw hst hA hT hG hM hSB hsm hb
    rw [List.append_nil] at hpm hpw hst
    have hb5 : b = -5 := by
      rcases hb with ⟨q, -⟩ | ⟨j, -, hj, z, hz, hzp, -⟩
      · exact q
      · exact absurd hzp (hA z (hpm.mem_iff.mpr (List.mem_of_getElem? hz)))
    subst hb5
    rw [List.map_nil, List.append_nil] at hG
    simp only [List.map_nil, show rz_cnt [] (nI p) = 0 from rfl, nI_0, Int32.add_zero] at hM
    subst hM
    have c1 : (-5 : Int32) = -5 := rfl
    rw [ri_137_25]
    simp only [↓ri_137_26, ↓ri_137_28, ↓ri_137_31, ↓ri_137_32, ↓ri_137_33, ↓ri_137_36, ↓ri_137_37, ↓ri_137_38, ↓ri_137_41, ↓ri_137_42, ↓ri_137_45, Option.some.injEq, Prod.mk.injEq, exists_eq_left', exists_eq', exists_and_left, exists_and_right, true_and, and_true, true_or, or_true, and_self, and_assoc, Option.toList_some, Option.toList_none, List.cons_append, List.nil_append, ↓reduceIte, rz_x01, rz_x10, ↓if_pos c1]
    exact kk _ _ ha ⟨S, Z1, Nat.le_trans (Nat.le_add_right _ _) hSB, hH, hZ, A, hG, hpm, hpw, hst⟩ hsm
  | cons y T ih =>
    intro A am1 S Z1 f1 hp1 b ha hH hZ hpm hpw hst hA hT hG hM hSB hsm hb
    rw [List.length_cons] at hSB
    by_cases hyp : y.1.2.2.2.2 = nI p
    · obtain ⟨⟨kb, hkb, hk⟩, hq⟩ := hT y (List.mem_cons_self) hyp
      have hyq := hq y (List.mem_cons_self)
      have hpw2 := List.pairwise_append.mp hpw
      have hpw3 := List.pairwise_cons.mp hpw2.2.1
      rcases hb with ⟨-, hb⟩ | ⟨i, rfl, hi, z, hz, hzp, hmin⟩
      · obtain ⟨i, hi⟩ := List.getElem?_of_mem (hpm.mem_iff.mp (List.mem_append_right A (List.mem_cons_self (a := y) (l := T))))
        exact absurd hyp (hb i y (List.getElem?_eq_some_iff.mp hi).1 hi)
      have hzy : z = y := by
        have hzm := hpm.mem_iff.mpr (List.mem_of_getElem? hz)
        rcases List.mem_append.mp hzm with q | q
        · exact absurd hzp (hA z q)
        · rcases List.mem_cons.mp q with q | q
          · exact q
          · have h1 := hpw3.1 z q (by rw [hyp, hzp])
            obtain ⟨i2, hi2⟩ := List.getElem?_of_mem (hpm.mem_iff.mp (List.mem_append_right A (List.mem_cons_self (a := y) (l := T))))
            have h2 := hmin i2 y (List.getElem?_eq_some_iff.mp hi2).1 hi2 hyp
            omega
      subst hzy
      have hi41 : i < 41 := Nat.lt_of_lt_of_le hi hZ.1
      have ci5 : ¬ nI i = -5 := fun q => nI_pos (show i < 2 ^ 31 by omega) (by rw [q]; decide)
      obtain ⟨h0, -, -, h4, -, h6, -⟩ := id hH
      rw [ri_137_25]
      simp only [↓ri_137_26, ↓ri_137_28, ↓ri_137_31, ↓ri_137_32, ↓ri_137_33, Option.some.injEq, Prod.mk.injEq, exists_eq_left', exists_eq', exists_and_left, exists_and_right, true_and, and_true, true_or, or_true, and_self, and_assoc, Option.toList_some, Option.toList_none, List.cons_append, List.nil_append, ↓reduceIte, rz_x01, rz_x10, ↓if_neg ci5]
      refine m_M_moves (d := d) ha hZ hz h6 (by omega) hk h0 hkb hm (fun h2 f2 a2 hZ2 hhd s2 => ?_)
      rw [h0] at hZ2
      have hH2 := rz_RH_mv (L2 := Gl) hH hhd
      have hpm2 : (A ++ ((z.1.1, z.1.2.1, z.1.2.2.1, z.1.2.2.2.1 + 1, rz_pl (nI m) z.1.2.1), S) :: T).Perm (Z1.set i ((z.1.1, z.1.2.1, z.1.2.2.1, z.1.2.2.2.1 + 1, rz_pl (nI m) z.1.2.1), S)) := rz_put_perm hz hpm
      have hpwN : (A ++ ((z.1.1, z.1.2.1, z.1.2.2.1, z.1.2.2.2.1 + 1, rz_pl (nI m) z.1.2.1), S) :: T).Pairwise rz_so_ := by
        refine List.pairwise_append.mpr ⟨hpw2.1, List.pairwise_cons.mpr ⟨fun x hx q => absurd q (hq x (List.mem_cons_of_mem _ hx)), hpw3.2⟩, fun x hx w hw => ?_⟩
        rcases List.mem_cons.mp hw with q | q
        · subst q; exact fun _ => hst x (List.mem_append_left _ hx)
        · exact hpw2.2.2 x hx w (List.mem_cons_of_mem _ q)
      obtain ⟨b2, hb2, hfr⟩ := m_M_frontOf_ex (d := d + 1) (p := nI p) a2 hZ2 (rz_dzY hpm2 hpwN)
      simp only [↓ri_137_36, ↓ri_137_37, ↓ri_137_38, ↓ri_137_41, ↓ri_137_42, Option.some.injEq, Prod.mk.injEq, exists_eq_left', exists_eq', exists_and_left, exists_and_right, true_and, and_true, true_or, or_true, and_self, and_assoc, Option.toList_some, Option.toList_none, List.cons_append, List.nil_append, ↓reduceIte, rz_x01, rz_x10, hfr]
      refine ih (A ++ [((z.1.1, z.1.2.1, z.1.2.2.1, z.1.2.2.2.1 + 1, rz_pl (nI m) z.1.2.1), S)]) (am1 + 1) (S + 1) _ f2 h2 b2 a2 hH2 hZ2 (by rw [List.append_assoc]; exact hpm2) (by rw [List.append_assoc]; exact hpwN) (fun x hx => ?_) (fun x hx => ?_) (fun x hx hxp => ?_) ?_ ?_ (by omega) (hsm.tr s2) hb2
      · rw [List.append_assoc] at hx
        rcases List.mem_append.mp hx with q | q
        · exact Nat.lt_succ_of_lt (hst x (List.mem_append_left _ q))
        · rcases List.mem_cons.mp q with q | q
          · subst q; exact Nat.lt_succ_self _
          · exact Nat.lt_succ_of_lt (hst x (List.mem_append_right _ (List.mem_cons_of_mem _ q)))
      · rcases List.mem_append.mp hx with q | q
        · exact hA x q
        · rw [List.mem_singleton] at q
          subst q
          exact fun q => hyq (q.trans hyp.symm)
      · obtain ⟨q1, q2⟩ := hT x (List.mem_cons_of_mem _ hx) hxp
        exact ⟨q1, fun w hw => q2 w (List.mem_cons_of_mem _ hw)⟩
      · rw [← hG, List.map_append, List.append_assoc, List.map_cons, List.map_cons, List.map_nil]
        unfold rz_mo
        rw [if_pos hyp]
        rfl
      · rw [← hM, List.map_cons]
        unfold rz_cnt
        rw [List.countP_cons, if_pos (decide_eq_true hyp), ← nI_1, Int32.add_assoc, Int32.add_comm 1]
    · refine ih (A ++ [y]) am1 S Z1 f1 hp1 b ha hH hZ (by rw [List.append_assoc]; exact hpm) (by rw [List.append_assoc]; exact hpw) (by rw [List.append_assoc]; exact hst) (fun x hx => ?_) (fun x hx hxp => ?_) ?_ ?_ (by omega) hsm hb
      · rcases List.mem_append.mp hx with q | q
        · exact hA x q
        · rw [List.mem_singleton] at q; subst q; exact hyp
      · obtain ⟨q1, q2⟩ := hT x (List.mem_cons_of_mem _ hx) hxp
        exact ⟨q1, fun w hw => q2 w (List.mem_cons_of_mem _ hw)⟩
      · rw [← hG, List.map_append, List.append_assoc, List.map_cons, List.map_cons, List.map_nil, rz_mo_id hyp]
        rfl
      · rw [← hM, List.map_cons]
        unfold rz_cnt
        rw [List.countP_cons, if_neg (by simpa using hyp), Nat.add_zero]
end RZM4
