/-! The law's loop: thirty acts -/
theorem rz_scr_sm {lo hi : Nat} {hp h1 : rz_Hp} (s : rz_sm lo hi hp h1) (h : hi ≤ rz_SP) : rz_scr h1 = rz_scr hp := by
  unfold rz_scr
  rw [s.2 _ (Or.inr h)]
/-- what holds at the loop's head after k rounds: P the states before the acts so far, s the state now -/
def lw_J (o w L : Nat) (xs : Nat → Int32) (N : Nat × Nat) (k : Nat) (P : List rz_AS) (s : rz_AS) (hp : rz_Hp) : Prop := P.length ≤ k ∧ lw_B k s ∧ rz_OJ o s rz_st0 (P.drop (P.length - 4)) [] 0 0 0 hp ∧ lw_W w P hp ∧ rz_scr hp = some (L, xs) ∧ hp.2 = N
/-- the same within a round, the state now written down -/
def lw_K (o w L : Nat) (xs : Nat → Int32) (N : Nat × Nat) (P : List rz_AS) (s t : rz_AS) (hist : List rz_AS) (hp : rz_Hp) : Prop := rz_OJ o t rz_st0 hist [] 0 0 0 hp ∧ lw_W w P hp ∧ rz_fv hp w 10 P.length = some (.long (rz_sn s)) ∧ rz_scr hp = some (L, xs) ∧ hp.2 = N
theorem rz_count8 {s : rz_AS} {hn tn : Nat} : rz_count_ s hn tn 8 = nI hn := by
  obtain ⟨L, fl, am, lat, rd, laid, ci, co, tb⟩ := s
  rfl
theorem rz_count1 {s : rz_AS} {hn tn : Nat} : rz_count_ s hn tn 1 = s.2.2.2.2.2.2.1 := by
  obtain ⟨L, fl, am, lat, rd, laid, ci, co, tb⟩ := s
  rfl
theorem rz_count0 {s : rz_AS} {hn tn : Nat} : rz_count_ s hn tn 0 = nI s.1.length := by
  obtain ⟨L, fl, am, lat, rd, laid, ci, co, tb⟩ := s
  rfl
theorem lw_cmp (x : Int64) : lg_cmp x x = 0 := by
  unfold lg_cmp
  rw [if_neg (by simp), if_pos rfl]
section LWA
variable {d o w L k : Nat} {xs : Nat → Int32} {N : Nat × Nat} {t : UInt32} {P : List rz_AS} {s : rz_AS} {hp1 : rz_Hp} {R : Option Value → rz_Hp → Prop} {l5 l6 l7 l8 l9 l10 : Option Value}
theorem lw_K.sm {t' : rz_AS} {hist hist' : List rz_AS} {t0 : rz_AS} {hp h1 : rz_Hp} (hw : o + 115 ≤ w) (hS : w < rz_SP) (h : lw_K o w L xs N P s t0 hist hp) (k1 : rz_OJ o t' rz_st0 hist' [] 0 0 0 h1) (s1 : rz_sm o (o + 115) hp h1) : lw_K o w L xs N P s t' hist' h1 := by
  obtain ⟨a, b, c, d, e⟩ := h
  exact ⟨k1, b.sm s1 (Or.inr hw), by rw [s1.fv (Or.inr hw)]; exact c, by rw [rz_scr_sm s1 (by omega)]; exact d, s1.1.trans e⟩
set_option maxHeartbeats 8000000 in
set_option maxRecDepth 100000 in
theorem lw_pre2 {x kind : Int32} (hw : o + 115 ≤ w) (hS : w < rz_SP) (hk : k < 30) (hJ : lw_J o w L xs N k P s hp1) (kk : ∀ (e key : Int32) (hp2 : rz_Hp), lw_K o w L xs N P s s (P.drop (P.length - 4)) hp2 → rz_ev (d + 10) 127 124 [some (.float t), some (.ref o), some (.ref w), some (.int (nI P.length)), some (.int (nI k)), some (.int x), some (.int kind), some (.int (nI (P.drop (P.length - 4)).length)), some (.int e), some (.int key), l10] [] hp2 R) : rz_ev (d + 10) 127 70 [some (.float t), some (.ref o), some (.ref w), some (.int (nI P.length)), some (.int (nI k)), some (.int x), l6, l7, l8, l9, l10] [.int kind] hp1 R := by
  obtain ⟨j1, ⟨j2a, c, hc1, hci⟩, j3, j4, j5, j6⟩ := hJ
  have hc := j3.co
  have hsn := fun R => q_sn (d := d + 4) j3 (R := R)
  have en : (nI P.length).toNatClampNeg = P.length := nI_clamp (by omega)
  have hpos : ¬ nI P.length < 0 := nI_pos (by omega)
  obtain ⟨v, hv⟩ := j4.1 P.length (by omega)
  have hex : (∃ w', rz_fv hp1 w 10 P.length = some w') = True := eq_true ⟨v, hv⟩
  simp only [↓ri_127_70, ↓ri_127_72, ↓ri_127_73, ↓ri_127_74, ↓ri_127_75, ↓ri_127_78, Option.some.injEq, Prod.mk.injEq, exists_eq_left', exists_eq', exists_and_left, exists_and_right, true_and, and_true, true_or, or_true, and_self, and_assoc, Option.toList_some, Option.toList_none, List.cons_append, List.nil_append, ↓reduceIte, rz_x01, rz_x10, hc, hsn, en, hpos, not_false_eq_true, hex]
  have hs2 : rz_sm w (w + 1) hp1 (rz_pf hp1 w P.length (.long (rz_sn s))) := rz_sm_pf (Nat.le_refl _) (Nat.lt_succ_self _)
  have hK : lw_K o w L xs N P s s (P.drop (P.length - 4)) (rz_pf hp1 w P.length (.long (rz_sn s))) := ⟨j3.sm hs2 (Or.inl hw), j4.set.1, j4.set.2 v hv, by rw [rz_scr_sm hs2 hS]; exact j5, hs2.1.trans j6⟩
  generalize rz_pf hp1 w P.length (.long (rz_sn s)) = hp2 at hK ⊢
  have kOJ := hK.1
  have hc2 := kOJ.co
  have b8 := fun (R : Option Value → rz_Hp → Prop) => (q_count (d := d + 5) (what := 8) kOJ (R := R)).trans (by rw [rz_count8])
  have b1 := fun (R : Option Value → rz_Hp → Prop) => (q_count (d := d + 5) (what := 1) kOJ (R := R)).trans (by rw [rz_count1, hci])
  have b3 := fun (R : Option Value → rz_Hp → Prop) => q_count (d := d + 5) (what := 3) kOJ (R := R)
  have z1 : ¬ nI (c + 1) = 0 := nI_ne0 (by omega) (by omega)
  have z2 : ¬ (500 : Int32) = 0 := by decide
  simp only [↓ri_127_79, ↓ri_127_80, ↓ri_127_82, ↓ri_127_85, ↓ri_127_87, ↓ri_127_89, ↓ri_127_90, ↓ri_127_91, ↓ri_127_92, ↓ri_127_93, ↓ri_127_96, ↓ri_127_97, ↓ri_127_98, ↓ri_127_101, ↓ri_127_103, ↓ri_127_104, ↓ri_127_105, ↓ri_127_108, ↓ri_127_109, ↓ri_127_110, ↓ri_127_112, ↓ri_127_114, ↓ri_127_115, ↓ri_127_118, ↓ri_127_121, ↓ri_127_122, Option.some.injEq, Prod.mk.injEq, exists_eq_left', exists_eq', exists_and_left, exists_and_right, true_and, and_true, true_or, or_true, and_self, and_assoc, Option.toList_some, Option.toList_none, List.cons_append, List.nil_append, ↓reduceIte, rz_x01, rz_x10, hc2, b8, b1, b3, nI_1, q_part, z1, z2, not_false_eq_true]
  exact kk _ _ hp2 hK
set_option maxHeartbeats 8000000 in
set_option maxRecDepth 100000 in
theorem lw_pre (hw : o + 115 ≤ w) (hS : w < rz_SP) (hL : L ≤ 260) (hk : k < 30) (hJ : lw_J o w L xs N k P s hp1) (kk : ∀ (x kind e key : Int32) (hp2 : rz_Hp), lw_K o w L xs N P s s (P.drop (P.length - 4)) hp2 → rz_ev (d + 10) 127 124 [some (.float t), some (.ref o), some (.ref w), some (.int (nI P.length)), some (.int (nI k)), some (.int x), some (.int kind), some (.int (nI (P.drop (P.length - 4)).length)), some (.int e), some (.int key), l10] [] hp2 R) : rz_ev (d + 10) 127 38 [some (.float t), some (.ref o), some (.ref w), some (.int (nI P.length)), some (.int (nI k)), l5, l6, l7, l8, l9, l10] [] hp1 R := by
  have c1 : ¬ (30 : Int32) ≤ nI k := nI_ge (b := 30) hk (by decide)
  have hdr := fun R => q_drawn (d := d + 9) (t := t) hJ.2.2.2.2.1 hL (show k < 1000 by omega) (R := R)
  rw [ri_127_38]
  by_cases h3 : k < 3
  · have c3 : ¬ (3 : Int32) ≤ nI k := nI_ge (b := 3) h3 (by decide)
    simp only [↓ri_127_40, ↓ri_127_42, ↓ri_127_45, ↓ri_127_46, ↓ri_127_48, ↓ri_127_51, ↓ri_127_53, ↓ri_127_55, ↓ri_127_56, ↓ri_127_59, ↓ri_127_60, Option.some.injEq, Prod.mk.injEq, exists_eq_left', exists_eq', exists_and_left, exists_and_right, true_and, and_true, true_or, or_true, and_self, and_assoc, Option.toList_some, Option.toList_none, List.cons_append, List.nil_append, ↓reduceIte, rz_x01, rz_x10, ↓if_neg c1, ↓if_neg c3, hdr]
    exact lw_pre2 hw hS hk hJ (fun e key hp2 hK => kk _ _ e key hp2 hK)
  · have c3 : (3 : Int32) ≤ nI k := nI_le (a := 3) (by omega) (by omega)
    have z : ¬ (10 : Int32) = 0 := by decide
    simp only [↓ri_127_40, ↓ri_127_42, ↓ri_127_45, ↓ri_127_46, ↓ri_127_48, ↓ri_127_51, ↓ri_127_53, ↓ri_127_55, ↓ri_127_56, ↓ri_127_59, ↓ri_127_60, ↓ri_127_63, ↓ri_127_65, ↓ri_127_67, Option.some.injEq, Prod.mk.injEq, exists_eq_left', exists_eq', exists_and_left, exists_and_right, true_and, and_true, true_or, or_true, and_self, and_assoc, Option.toList_some, Option.toList_none, List.cons_append, List.nil_append, ↓reduceIte, rz_x01, rz_x10, ↓if_neg c1, ↓if_pos c3, hdr, q_part, z, not_false_eq_true]
    exact lw_pre2 hw hS hk hJ (fun e key hp2 hK => kk _ _ e key hp2 hK)
set_option maxHeartbeats 8000000 in
set_option maxRecDepth 100000 in
theorem lw_tail {x kind e key done : Int32} {s' : rz_AS} {hp2 : rz_Hp} (hk : k < 30) (hPk : P.length ≤ k) (hd : done < 0 → s' = s) (hB : lw_B (k + 1) s') (hK : lw_K o w L xs N P s s' (rz_hs done s (P.drop (P.length - 4))) hp2) (ih : ∀ (P' : List rz_AS) (s2 : rz_AS) (hp3 : rz_Hp) (l5 l6 l7 l8 l9 l10 : Option Value), lw_J o w L xs N (k + 1) P' s2 hp3 → rz_ev (d + 10) 127 38 [some (.float t), some (.ref o), some (.ref w), some (.int (nI P'.length)), some (.int (nI (k + 1))), l5, l6, l7, l8, l9, l10] [] hp3 R) : rz_ev (d + 10) 127 287 [some (.float t), some (.ref o), some (.ref w), some (.int (nI P.length)), some (.int (nI k)), some (.int x), some (.int kind), some (.int (nI (P.drop (P.length - 4)).length)), some (.int e), some (.int key), l10] [.int done] hp2 R := by
  obtain ⟨j1, j2, j3, j4, j5⟩ := hK
  by_cases h0 : done < 0
  · have es := hd h0
    subst es
    have c0 : ¬ 0 ≤ done := Int32.not_le.mpr h0
    have j1' : rz_OJ o s' rz_st0 (P.drop (P.length - 4)) [] 0 0 0 hp2 := by
      unfold rz_hs at j1
      rw [if_pos h0] at j1
      exact j1
    have hc := j1'.co
    have hsn := fun R => q_sn (d := d + 4) j1' (R := R)
    have b8 := fun (R : Option Value → rz_Hp → Prop) => (q_count (d := d + 5) (what := 8) j1' (R := R)).trans (by rw [rz_count8])
    have en : (nI P.length).toNatClampNeg = P.length := nI_clamp (by omega)
    have hpos : ¬ nI P.length < 0 := nI_pos (by omega)
    have hla : ∀ Q : Int64 → Prop, (∃ v, rz_fv hp2 w 10 P.length = some (.long v) ∧ Q v) ↔ Q (rz_sn s') := fun Q => by
      rw [j3]
      constructor
      · rintro ⟨v, e, q⟩; cases e; exact q
      · intro q; exact ⟨_, rfl, q⟩
    simp only [↓ri_127_287, ↓ri_127_289, ↓ri_127_291, ↓ri_127_294, ↓ri_127_295, ↓ri_127_297, ↓ri_127_300, ↓ri_127_302, ↓ri_127_305, ↓ri_127_306, ↓ri_127_309, ↓ri_127_310, ↓ri_127_311, ↓ri_127_312, ↓ri_127_313, ↓ri_127_316, ↓ri_127_317, ↓ri_127_318, ↓ri_127_319, ↓ri_127_321, ↓ri_127_324, ↓ri_127_325, ↓ri_127_328, ↓ri_127_329, ↓ri_127_330, ↓ri_127_331, ↓ri_127_334, Option.some.injEq, Prod.mk.injEq, exists_eq_left', exists_eq', exists_and_left, exists_and_right, true_and, and_true, true_or, or_true, and_self, and_assoc, Option.toList_some, Option.toList_none, List.cons_append, List.nil_append, ↓reduceIte, rz_x01, rz_x10, ↓if_neg c0, hc, hsn, b8, en, hpos, not_false_eq_true, hla, lw_cmp, Int32.add_zero, nI_1]
    exact ih P s' hp2 _ _ _ _ _ _ ⟨by omega, hB, j1', j2, j4, j5⟩
  · have c0 : 0 ≤ done := Int32.not_lt.mp h0
    have j1' : rz_OJ o s' rz_st0 ((P ++ [s]).drop ((P ++ [s]).length - 4)) [] 0 0 0 hp2 := by
      unfold rz_hs at j1
      rw [if_neg h0, rz_rec_drop] at j1
      exact j1
    have hlen : (P ++ [s]).length = P.length + 1 := by rw [List.length_append]; rfl
    have hg := ih (P ++ [s]) s' hp2 (some (.int x)) (some (.int kind)) (some (.int (nI (P.drop (P.length - 4)).length))) (some (.int e)) (some (.int key)) (some (.int done)) ⟨by omega, hB, j1', j2.add j3, j4, j5⟩
    rw [hlen] at hg
    simp only [↓ri_127_287, ↓ri_127_289, ↓ri_127_291, ↓ri_127_318, ↓ri_127_319, ↓ri_127_321, ↓ri_127_324, ↓ri_127_325, ↓ri_127_328, ↓ri_127_329, ↓ri_127_330, ↓ri_127_331, ↓ri_127_334, Option.some.injEq, Prod.mk.injEq, exists_eq_left', exists_eq', exists_and_left, exists_and_right, true_and, and_true, true_or, or_true, and_self, and_assoc, Option.toList_some, Option.toList_none, List.cons_append, List.nil_append, ↓reduceIte, rz_x01, rz_x10, ↓if_pos c0, nI_1]
    exact hg
end LWA
