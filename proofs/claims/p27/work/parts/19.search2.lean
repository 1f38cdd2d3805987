/-! Search goes on -/
/-- an entry comes out: its town may be done by that -/
def rz_s1 (s : rz_SS) (e : rz_En) (j : Nat) : rz_SS := ((rz_re s.1 e).eraseIdx j, rz_reF s.2.1 e, rz_reM s.2.2.1 s.1 e, s.2.2.2)
def rz_s2 (s : rz_SS) (key : Int32) (t : Nat) : rz_SS := (s.1, s.2.1, s.2.2.1, upd s.2.2.2.1 t key, s.2.2.2.2.1 + 1, s.2.2.2.2.2.1, if s.2.2.2.2.2.2 < key then key else s.2.2.2.2.2.2)
def rz_so (rd : Nat → Int32) (s : rz_SS) : rz_SS := match rz_nxf s.1 with
  | none => s
  | some j => if s.2.2.2.1 (s.1.getD j (0, 0, 0, 0, 0)).2.2.1.toNatClampNeg = -5 then rz_fo rd (s.1.getD j (0, 0, 0, 0, 0)).2.2.1.toNatClampNeg (s.1.getD j (0, 0, 0, 0, 0)).2.1 12 (rz_s2 (rz_s1 s (s.1.getD j (0, 0, 0, 0, 0)) j) (s.1.getD j (0, 0, 0, 0, 0)).2.1 (s.1.getD j (0, 0, 0, 0, 0)).2.2.1.toNatClampNeg) else rz_s1 s (s.1.getD j (0, 0, 0, 0, 0)) j
theorem rz_so_eq {rd : Nat → Int32} {s : rz_SS} {j t : Nat} {e : rz_En} (hn : rz_nxf s.1 = some j) (he : s.1[j]? = some e) (ht : e.2.2.1 = nI t) (h12 : t < 12) : rz_so rd s = if s.2.2.2.1 t = -5 then rz_fo rd t e.2.1 12 (rz_s2 (rz_s1 s e j) e.2.1 t) else rz_s1 s e j := by
  unfold rz_so
  have hd : s.1.getD j (0, 0, 0, 0, 0) = e := by rw [List.getD_eq_getElem?_getD, he]; rfl
  simp only [hn, hd, ht, nI_clamp (show t < 2 ^ 31 by omega)]
/-- what holds in a search, o entries having come out -/
def rz_J (rd : Nat → Int32) (s : rz_SS) (o : Nat) : Prop := rz_kv s.1 o ∧ (∃ c, c < 65536 ∧ s.2.1 = nI c) ∧ s.1.length + o = s.2.2.2.2.2.1 ∧ s.2.2.2.2.2.1 ≤ 1 + rz_ds rd s.2.2.2.1 12
theorem rz_s1_J {rd : Nat → Int32} {s : rz_SS} {o j : Nat} {e : rz_En} (hJ : rz_J rd s o) (he : s.1[j]? = some e) (ho : o ≤ 41) : rz_kv (rz_s1 s e j).1 o ∧ (∃ c, c < 65536 ∧ (rz_s1 s e j).2.1 = nI c) ∧ (rz_s1 s e j).1.length + 1 = s.1.length := by
  obtain ⟨h1, h2, h3, h4⟩ := hJ
  have hj := (List.getElem?_eq_some_iff.mp he).1
  refine ⟨rz_kv_er (rz_kv_re h1), ?_, ?_⟩
  · show ∃ c, c < 65536 ∧ rz_reF s.2.1 e = nI c
    unfold rz_reF
    split
    · exact h2
    · obtain ⟨⟨a, ha, e1⟩, -⟩ := h1 e (List.mem_of_getElem? he)
      exact ⟨a, by omega, e1⟩
  · show ((rz_re s.1 e).eraseIdx j).length + 1 = _
    rw [List.length_eraseIdx_of_lt (by rw [rz_re_len]; exact hj), rz_re_len]
    omega
theorem rz_so_J {rd : Nat → Int32} {s : rz_SS} {o : Nat} (hrd : rz_rdo rd) (hJ : rz_J rd s o) (hne : s.1 ≠ []) : rz_J rd (rz_so rd s) (o + 1) ∧ o ≤ 40 := by
  have ho : o ≤ 40 := by
    have h5 := rz_ds_le (rd := rd) (dist := s.2.2.2.1) 12
    have h6 : rz_ds rd (fun _ => 0) 12 ≤ 40 := hrd.2
    have h7 : 0 < s.1.length := List.length_pos_iff.mpr hne
    have h8 := hJ.2.2.1
    have h9 := hJ.2.2.2
    omega
  refine ⟨?_, ho⟩
  obtain ⟨j, hn⟩ : ∃ j, rz_nxf s.1 = some j := by
    cases h : rz_nxf s.1 with
    | none => exact absurd (rz_nxf_none h) hne
    | some j => exact ⟨j, rfl⟩
  obtain ⟨e, he, -, -⟩ := rz_nxf_some hn
  obtain ⟨⟨a, ha, e1⟩, t, ht, e2⟩ := hJ.1 e (List.mem_of_getElem? he)
  rw [rz_so_eq hn he e2 ht]
  obtain ⟨g1, g2, g3⟩ := rz_s1_J hJ he (by omega)
  obtain ⟨h1, h2, h3, h4⟩ := hJ
  split
  · next hd =>
    obtain ⟨q1, q2, q3, q4⟩ := rz_fo_ds rd t e.2.1 12 (rz_s2 (rz_s1 s e j) e.2.1 t)
    obtain ⟨n1, n2, n3⟩ := rz_fo_len rd t e.2.1 12 (rz_s2 (rz_s1 s e j) e.2.1 t)
    have k5 : ¬ e.2.1 = -5 := by rw [e1]; exact fun q => nI_pos (show a < 2 ^ 31 by omega) (by rw [q]; decide)
    have hds := rz_ds_upd (rd := rd) hd k5 12
    rw [if_pos ht] at hds
    have n2' : (rz_fo rd t e.2.1 12 (rz_s2 (rz_s1 s e j) e.2.1 t)).2.2.2.2.2.1 ≤ s.2.2.2.2.2.1 + rz_od rd t 12 := n2
    have n3' : (rz_fo rd t e.2.1 12 (rz_s2 (rz_s1 s e j) e.2.1 t)).1.length + s.2.2.2.2.2.1 = (rz_fo rd t e.2.1 12 (rz_s2 (rz_s1 s e j) e.2.1 t)).2.2.2.2.2.1 + (rz_s1 s e j).1.length := n3
    have q1' : (rz_fo rd t e.2.1 12 (rz_s2 (rz_s1 s e j) e.2.1 t)).2.2.2.1 = upd s.2.2.2.1 t e.2.1 := q1
    refine ⟨rz_fo_kv (s := rz_s2 (rz_s1 s e j) e.2.1 t) hrd ht e1 ha g1 (by show o ≤ s.2.2.2.2.2.1; omega) 12 (Nat.le_refl _), ?_, by omega, ?_⟩
    · rw [q2]; exact g2
    · rw [q1', hds]; omega
  · exact ⟨rz_kv_mono g1 (Nat.le_succ _), g2, by show (rz_s1 s e j).1.length + (o + 1) = s.2.2.2.2.2.1; omega, h4⟩
set_option maxHeartbeats 4000000 in
set_option maxRecDepth 100000 in
theorem c_S_letOut {d w r o : Nat} {rd : Nat → Int32} {laid : Int32} {s : rz_SS} {hp : rz_Hp} {R : Option Value → rz_Hp → Prop} (hrd : rz_rdo rd) (hwr : r + 2 ≤ w ∨ w + 8 ≤ r) (hJ : rz_J rd s o) (hne : s.1 ≠ []) (h : rz_SR w s hp) (hR : rz_RD r rd laid hp) (kk : ∀ hp', rz_SR w (rz_so rd s) hp' → rz_sm w (w + 8) hp hp' → R none hp') : rz_ev (d + 4) 72 0 [some (.ref w), some (.ref r), none, none, none] [] hp R := by
  have ho : o ≤ 40 := (rz_so_J hrd hJ hne).2
  obtain ⟨j, hn⟩ : ∃ j, rz_nxf s.1 = some j := by
    cases h : rz_nxf s.1 with
    | none => exact absurd (rz_nxf_none h) hne
    | some j => exact ⟨j, rfl⟩
  have hnx := rz_nxf_some hn
  obtain ⟨e, he, -, -⟩ := id hnx
  obtain ⟨⟨a, ha, e1⟩, t, ht, e2⟩ := hJ.1 e (List.mem_of_getElem? he)
  rw [rz_so_eq hn he e2 ht] at kk
  obtain ⟨g1, g2, g3⟩ := rz_s1_J hJ he (by omega)
  have hcm := hJ.2.2.1
  have hds2 := hJ.2.2.2
  have hkr := rz_kv_kr hJ.1 (by omega)
  obtain ⟨L, fl, am, ds, dn, cm, gr⟩ := s
  dsimp only at hn hnx he hkr hcm hds2 g3 kk
  obtain ⟨e0, he0, i1, i2, i3⟩ := rz_re_at he
  have hj := (List.getElem?_eq_some_iff.mp he).1
  obtain ⟨⟨p0, p1, p2, p3, p4⟩, hP, f, a0, hf2⟩ := id h
  have hL := hP.1
  have hco : rz_co hp (w + 1) = some 3 := rz_co_fv hP.2.1.1
  have hq := fun R => c_P_indexOfNext (d := d + 1) hP hnx (R := R)
  simp only [↓ri_72_0, ↓ri_72_1, ↓ri_72_4, ↓ri_72_7, ↓ri_72_8, ↓ri_72_9, ↓ri_72_12, ↓ri_72_13, Option.some.injEq, Prod.mk.injEq, exists_eq_left', exists_eq', exists_and_left, exists_and_right, true_and, and_true, true_or, or_true, and_self, and_assoc, Option.toList_some, Option.toList_none, List.cons_append, List.nil_append, ↓reduceIte, rz_x01, rz_x10, p0, hco, hq]
  refine c_P_reach (d := d + 1) hP he hkr (fun h1 hP1 hs1 => ?_)
  obtain ⟨r0, r1, r2, r3, r4⟩ := rz_SRF_sm (w := w) ⟨p0, p1, p2, p3, p4⟩ hs1 (by omega)
  have hco1 : rz_co h1 (w + 1) = some 3 := rz_co_fv hP1.2.1.1
  have v1 := fun R => c_P_keyAt (d := d + 2) hP1 he0 (R := R)
  have v2 := fun R => c_P_valueAt (d := d + 2) hP1 he0 (R := R)
  rw [i2] at v1
  rw [i3, e2] at v2
  simp only [↓ri_72_16, ↓ri_72_17, ↓ri_72_20, ↓ri_72_21, ↓ri_72_24, ↓ri_72_25, ↓ri_72_26, ↓ri_72_29, ↓ri_72_30, ↓ri_72_33, ↓ri_72_35, ↓ri_72_36, ↓ri_72_39, ↓ri_72_40, Option.some.injEq, Prod.mk.injEq, exists_eq_left', exists_eq', exists_and_left, exists_and_right, true_and, and_true, true_or, or_true, and_self, and_assoc, Option.toList_some, Option.toList_none, List.cons_append, List.nil_append, ↓reduceIte, rz_x01, rz_x10, r0, hco1, v1, v2]
  refine c_P_removeAt (d := d + 2) hP1 (by rw [rz_re_len]; exact hj) (fun h2 hP2 hs2 => ?_)
  obtain ⟨t0, t1, t2, t3, t4⟩ := rz_SRF_sm (w := w) ⟨r0, r1, r2, r3, r4⟩ hs2 (by omega)
  have b0 := (hs1.tr hs2).av (a := w + 7) (by omega)
  rw [a0] at b0
  have tt := fun R => (c_C_isTown (d := d + 3) (hp := h2) (R := R)).1 (rz_town_nI ht)
  have hv : vp_in (nI t) 12 := vp_in_nI ht (by decide)
  have c1 : ¬ (1 : Int32) = 0 := by decide
  have hs12 : rz_sm w (w + 8) hp h2 := (hs1.wd (by omega) (by omega)).tr (hs2.wd (by omega) (by omega))
  by_cases hd : ds t = -5
  · simp only [if_pos hd] at kk
    have fd : f t = -5 := by rw [hf2 t ht]; exact hd
    have hco2 : rz_co h2 w = some 5 := rz_co_fv t0
    have hmx : (if gr < e.2.1 then e.2.1 else gr) = (if gr < e.2.1 then e.2.1 else gr) := rfl
    simp only [↓ri_72_43, ↓ri_72_45, ↓ri_72_48, ↓ri_72_51, ↓ri_72_52, ↓ri_72_55, ↓ri_72_57, ↓ri_72_58, ↓ri_72_60, ↓ri_72_63, ↓ri_72_64, ↓ri_72_67, ↓ri_72_69, ↓ri_72_70, ↓ri_72_71, ↓ri_72_72, ↓ri_72_73, ↓ri_72_76, ↓ri_72_77, ↓ri_72_78, ↓ri_72_81, ↓ri_72_82, ↓ri_72_83, ↓ri_72_86, ↓ri_72_87, ↓ri_72_90, ↓ri_72_93, ↓ri_72_94, ↓ri_72_96, ↓ri_72_97, ↓ri_72_98, Option.some.injEq, Prod.mk.injEq, exists_eq_left', exists_eq', exists_and_left, exists_and_right, true_and, and_true, true_or, or_true, and_self, and_assoc, Option.toList_some, Option.toList_none, List.cons_append, List.nil_append, ↓reduceIte, rz_x01, rz_x10, rz_fv_pf, rz_av_pf, rz_qv_pf, rz_ln_pf, rz_co_pf, rz_fv_pa, rz_av_pa, rz_qv_pa, rz_ln_pa, rz_co_pa, rz_fv_pq, rz_av_pq, rz_qv_pq, rz_ln_pq, rz_co_pq, Nat.reduceEqDiff, Nat.add_eq_left, Nat.left_eq_add, Nat.one_ne_zero, Option.map_some, exists_const, tt, ↓if_neg c1, t1, t2, t4, b0, hv, nI_clamp (show t < 2 ^ 31 by omega), ↓if_pos fd, hco2]
    have hs3 : rz_sm w (w + 8) h2 (rz_pf (rz_pf (rz_pa h2 (w + 7) (upd f t e.2.1)) w 2 (.int (dn + 1))) w 4 (.int (if gr < e.2.1 then e.2.1 else gr))) := ((rz_sm_pa (by omega) (by omega)).tr (rz_sm_pf (by omega) (by omega))).tr (rz_sm_pf (by omega) (by omega))
    have hs3P : rz_PL (w + 1) ((rz_re L e).eraseIdx j) (rz_reF fl e) (rz_reM am L e) (rz_pf (rz_pf (rz_pa h2 (w + 7) (upd f t e.2.1)) w 2 (.int (dn + 1))) w 4 (.int (if gr < e.2.1 then e.2.1 else gr))) := rz_PL_sm (rz_PL_sm (rz_PL_sm hP2 (rz_sm_pa (lo := w + 7) (hi := w + 8) (by omega) (by omega)) (by omega)) (rz_sm_pf (lo := w) (hi := w + 1) (by omega) (by omega)) (by omega)) (rz_sm_pf (lo := w) (hi := w + 1) (by omega) (by omega)) (by omega)
    have hdl := rz_ds_le2 (rd := rd) hd ht
    have htot := hrd.2
    refine c_S_followRoads (d := d) (a := a) (c0 := o) (s := rz_s2 (rz_s1 (L, fl, am, ds, dn, cm, gr) e j) e.2.1 t) hrd hwr ht e1 ha ho g1 (by show o ≤ cm; omega) g2 ?_ ?_ (rz_RD_sm (rz_RD_sm hR hs12 (by omega)) hs3 (by omega)) (fun h3 hS3 hs4 => ?_)
    · show (rz_s1 (L, fl, am, ds, dn, cm, gr) e j).1.length + rz_od rd t 12 ≤ 40
      omega
    · refine ⟨?_, hs3P, upd f t e.2.1, ?_, fun i hi => ?_⟩
      · show rz_SRF w (dn + 1) (nI cm) (if gr < e.2.1 then e.2.1 else gr) _
        simp only [rz_SRF, rz_fv_pf, rz_av_pf, rz_qv_pf, rz_ln_pf, rz_co_pf, rz_fv_pa, rz_av_pa, rz_qv_pa, rz_ln_pa, rz_co_pa, rz_fv_pq, rz_av_pq, rz_qv_pq, rz_ln_pq, rz_co_pq, Nat.reduceEqDiff, Nat.add_eq_left, Nat.left_eq_add, Nat.one_ne_zero, Option.map_some, exists_const, Option.some.injEq, Prod.mk.injEq, exists_eq_left', exists_eq', exists_and_left, exists_and_right, true_and, and_true, true_or, or_true, and_self, and_assoc, Option.toList_some, Option.toList_none, List.cons_append, List.nil_append, ↓reduceIte, rz_x01, rz_x10, t0, t1, t2, t3, t4]
      · simp only [rz_fv_pf, rz_av_pf, rz_qv_pf, rz_ln_pf, rz_co_pf, rz_fv_pa, rz_av_pa, rz_qv_pa, rz_ln_pa, rz_co_pa, rz_fv_pq, rz_av_pq, rz_qv_pq, rz_ln_pq, rz_co_pq, Nat.reduceEqDiff, Nat.add_eq_left, Nat.left_eq_add, Nat.one_ne_zero, Option.map_some, exists_const, Option.some.injEq, Prod.mk.injEq, exists_eq_left', exists_eq', exists_and_left, exists_and_right, true_and, and_true, true_or, or_true, and_self, and_assoc, Option.toList_some, Option.toList_none, List.cons_append, List.nil_append, ↓reduceIte, rz_x01, rz_x10, b0]
      · show upd f t e.2.1 i = upd ds t e.2.1 i
        unfold upd
        split
        · rfl
        · exact hf2 i hi
    · simp only [↓ri_72_101, Option.some.injEq, Prod.mk.injEq, exists_eq_left', exists_eq', exists_and_left, exists_and_right, true_and, and_true, true_or, or_true, and_self, and_assoc, Option.toList_some, Option.toList_none, List.cons_append, List.nil_append, ↓reduceIte, rz_x01, rz_x10]
      exact kk _ hS3 ((hs12.tr hs3).tr hs4)
  · simp only [if_neg hd] at kk
    have fd : ¬ f t = -5 := by rw [hf2 t ht]; exact hd
    simp only [↓ri_72_43, ↓ri_72_45, ↓ri_72_48, ↓ri_72_51, ↓ri_72_52, ↓ri_72_55, ↓ri_72_57, ↓ri_72_58, ↓ri_72_60, ↓ri_72_63, ↓ri_72_64, ↓ri_72_67, ↓ri_72_69, ↓ri_72_70, ↓ri_72_71, ↓ri_72_72, ↓ri_72_73, ↓ri_72_76, ↓ri_72_77, ↓ri_72_78, ↓ri_72_81, ↓ri_72_82, ↓ri_72_83, ↓ri_72_86, ↓ri_72_87, ↓ri_72_90, ↓ri_72_93, ↓ri_72_94, ↓ri_72_96, ↓ri_72_97, ↓ri_72_98, ↓ri_72_101, Option.some.injEq, Prod.mk.injEq, exists_eq_left', exists_eq', exists_and_left, exists_and_right, true_and, and_true, true_or, or_true, and_self, and_assoc, Option.toList_some, Option.toList_none, List.cons_append, List.nil_append, ↓reduceIte, rz_x01, rz_x10, tt, ↓if_neg c1, t1, b0, hv, nI_clamp (show t < 2 ^ 31 by omega), ↓if_neg fd]
    exact kk _ ⟨⟨t0, t1, t2, t3, t4⟩, hP2, f, b0, hf2⟩ hs12
/-- a search goes on to its end -/
def rz_slp (rd : Nat → Int32) : Nat → rz_SS → rz_SS
  | 0, s => s
  | n + 1, s => if s.1.length = 0 then s else rz_slp rd n (rz_so rd s)
def rz_s0 (t : Nat) : rz_SS := rz_sb t 0 ([], 0, 0, fun _ => -5, 0, 0, 0)
def rz_sch (rd : Nat → Int32) (t : Nat) : rz_SS := rz_slp rd 41 (rz_s0 t)
theorem rz_ds0 (rd : Nat → Int32) : ∀ n, rz_ds rd (fun _ => -5) n = 0 := by
  intro n
  induction n with
  | zero => rfl
  | succ n ih => rw [rz_ds_s, ih, if_pos rfl]
theorem rz_s0_J (rd : Nat → Int32) {t : Nat} (ht : t < 12) : rz_J rd (rz_s0 t) 0 := by
  refine ⟨fun x hx => ?_, ⟨0, by decide, rfl⟩, rfl, by show 0 + 1 ≤ 1 + rz_ds rd (fun _ => -5) 12; rw [rz_ds0]; decide⟩
  have hx2 : x ∈ ([(nI 0, 0, nI t, 0, rz_pl 0 0)] : List rz_En) := hx
  rw [List.mem_singleton] at hx2
  subst hx2
  exact ⟨⟨0, by decide, rfl⟩, t, ht, rfl⟩
set_option maxHeartbeats 4000000 in
set_option maxRecDepth 100000 in
theorem c_S_clear {d w : Nat} {s : rz_SS} {hp : rz_Hp} {R : Option Value → rz_Hp → Prop} (h : rz_SR w s hp) (kk : ∀ hp', rz_SR w ([], 0, 0, fun _ => -5, 0, 0, 0) hp' → rz_sm w (w + 8) hp hp' → R none hp') : rz_ev (d + 1) 70 0 [some (.ref w), none] [] hp R := by
  obtain ⟨L, fl, am, ds, dn, cm, gr⟩ := s
  obtain ⟨⟨p0, p1, p2, p3, p4⟩, hP, f, a0, hf2⟩ := id h
  have hco : rz_co hp (w + 1) = some 3 := rz_co_fv hP.2.1.1
  simp only [↓ri_70_0, ↓ri_70_1, ↓ri_70_4, ↓ri_70_7, ↓ri_70_8, ↓ri_70_9, ↓ri_70_12, ↓ri_70_13, ↓ri_70_14, ↓ri_70_17, ↓ri_70_18, ↓ri_70_19, ↓ri_70_22, ↓ri_70_23, Option.some.injEq, Prod.mk.injEq, exists_eq_left', exists_eq', exists_and_left, exists_and_right, true_and, and_true, true_or, or_true, and_self, and_assoc, Option.toList_some, Option.toList_none, List.cons_append, List.nil_append, ↓reduceIte, rz_x01, rz_x10, p0, hco]
  refine c_P_clear (d := d) hP (fun h1 hP1 hs1 => ?_)
  obtain ⟨r0, r1, r2, r3, r4⟩ := rz_SRF_sm (w := w) ⟨p0, p1, p2, p3, p4⟩ hs1 (by omega)
  have b0 := hs1.av (a := w + 7) (by omega)
  rw [a0] at b0
  simp only [↓ri_70_7, ↓ri_70_8, ↓ri_70_9, ↓ri_70_12, ↓ri_70_13, ↓ri_70_14, ↓ri_70_17, ↓ri_70_18, ↓ri_70_19, ↓ri_70_22, ↓ri_70_23, Option.some.injEq, Prod.mk.injEq, exists_eq_left', exists_eq', exists_and_left, exists_and_right, true_and, and_true, true_or, or_true, and_self, and_assoc, Option.toList_some, Option.toList_none, List.cons_append, List.nil_append, ↓reduceIte, rz_x01, rz_x10, rz_fv_pf, rz_av_pf, rz_qv_pf, rz_ln_pf, rz_co_pf, rz_fv_pa, rz_av_pa, rz_qv_pa, rz_ln_pa, rz_co_pa, rz_fv_pq, rz_av_pq, rz_qv_pq, rz_ln_pq, rz_co_pq, Nat.reduceEqDiff, Nat.add_eq_left, Nat.left_eq_add, Nat.one_ne_zero, Option.map_some, exists_const, r2, r3, r4]
  have hs2 : rz_sm w (w + 1) h1 (rz_pf (rz_pf (rz_pf h1 w 2 (.int 0)) w 3 (.int 0)) w 4 (.int 0)) := ((rz_sm_pf (by omega) (by omega)).tr (rz_sm_pf (by omega) (by omega))).tr (rz_sm_pf (by omega) (by omega))
  have hl : ∀ i, i ≤ 12 → ∀ hp1 g, rz_SRF w 0 0 0 hp1 → rz_PL (w + 1) [] 0 0 hp1 → rz_av hp1 (w + 7) = some (0, 12, g) → (∀ k, k < i → g k = -5) → rz_sm w (w + 8) hp hp1 → rz_ev (d + 1) 70 24 [some (.ref w), some (.int (nI i))] [] hp1 R := by
    refine rz_down 12 ?_ ?_
    · intro hp1 g q1 q2 q3 q4 q5
      have c1 : (12 : Int32) ≤ nI 12 := by decide
      rw [ri_70_24]
      simp only [↓ri_70_25, ↓ri_70_27, ↓ri_70_30, ↓ri_70_31, ↓ri_70_34, ↓ri_70_35, ↓ri_70_37, ↓ri_70_38, ↓ri_70_41, ↓ri_70_44, Option.some.injEq, Prod.mk.injEq, exists_eq_left', exists_eq', exists_and_left, exists_and_right, true_and, and_true, true_or, or_true, and_self, and_assoc, Option.toList_some, Option.toList_none, List.cons_append, List.nil_append, ↓reduceIte, rz_x01, rz_x10, ↓if_pos c1]
      exact kk _ ⟨q1, q2, g, q3, q4⟩ q5
    · intro i hi ih hp1 g q1 q2 q3 q4 q5
      have c1 : ¬ (12 : Int32) ≤ nI i := nI_ge (b := 12) hi (by decide)
      have hv : vp_in (nI i) 12 := vp_in_nI hi (by decide)
      obtain ⟨u0, u1, u2, u3, u4⟩ := id q1
      rw [ri_70_24]
      simp only [↓ri_70_25, ↓ri_70_27, ↓ri_70_30, ↓ri_70_31, ↓ri_70_34, ↓ri_70_35, ↓ri_70_37, ↓ri_70_38, ↓ri_70_41, Option.some.injEq, Prod.mk.injEq, exists_eq_left', exists_eq', exists_and_left, exists_and_right, true_and, and_true, true_or, or_true, and_self, and_assoc, Option.toList_some, Option.toList_none, List.cons_append, List.nil_append, ↓reduceIte, rz_x01, rz_x10, ↓if_neg c1, u1, q3, hv, nI_clamp (show i < 2 ^ 31 by omega), nI_1]
      refine ih _ (upd g i (-5)) ?_ (rz_PL_sm q2 (rz_sm_pa (lo := w + 7) (hi := w + 8) (by omega) (by omega)) (by omega)) (by simp only [rz_fv_pf, rz_av_pf, rz_qv_pf, rz_ln_pf, rz_co_pf, rz_fv_pa, rz_av_pa, rz_qv_pa, rz_ln_pa, rz_co_pa, rz_fv_pq, rz_av_pq, rz_qv_pq, rz_ln_pq, rz_co_pq, Nat.reduceEqDiff, Nat.add_eq_left, Nat.left_eq_add, Nat.one_ne_zero, Option.map_some, exists_const, Option.some.injEq, Prod.mk.injEq, exists_eq_left', exists_eq', exists_and_left, exists_and_right, true_and, and_true, true_or, or_true, and_self, and_assoc, Option.toList_some, Option.toList_none, List.cons_append, List.nil_append, ↓reduceIte, rz_x01, rz_x10, q3]) (fun k hk => ?_) (q5.tr (rz_sm_pa (by omega) (by omega)))
      · simp only [rz_SRF, rz_fv_pf, rz_av_pf, rz_qv_pf, rz_ln_pf, rz_co_pf, rz_fv_pa, rz_av_pa, rz_qv_pa, rz_ln_pa, rz_co_pa, rz_fv_pq, rz_av_pq, rz_qv_pq, rz_ln_pq, rz_co_pq, Nat.reduceEqDiff, Nat.add_eq_left, Nat.left_eq_add, Nat.one_ne_zero, Option.map_some, exists_const, Option.some.injEq, Prod.mk.injEq, exists_eq_left', exists_eq', exists_and_left, exists_and_right, true_and, and_true, true_or, or_true, and_self, and_assoc, Option.toList_some, Option.toList_none, List.cons_append, List.nil_append, ↓reduceIte, rz_x01, rz_x10, u0, u1, u2, u3, u4]
      · by_cases hki : k = i
        · subst hki; exact pk_us
        · rw [pk_un hki]; exact q4 k (by omega)
  have := hl 0 (Nat.zero_le _) (rz_pf (rz_pf (rz_pf h1 w 2 (.int 0)) w 3 (.int 0)) w 4 (.int 0)) f ?_ (rz_PL_sm hP1 hs2 (by omega)) (by simp only [rz_fv_pf, rz_av_pf, rz_qv_pf, rz_ln_pf, rz_co_pf, rz_fv_pa, rz_av_pa, rz_qv_pa, rz_ln_pa, rz_co_pa, rz_fv_pq, rz_av_pq, rz_qv_pq, rz_ln_pq, rz_co_pq, Nat.reduceEqDiff, Nat.add_eq_left, Nat.left_eq_add, Nat.one_ne_zero, Option.map_some, exists_const, b0]) (fun k hk => absurd hk (Nat.not_lt_zero _)) ((hs1.wd (by omega) (by omega)).tr (hs2.wd (by omega) (by omega)))
  · rw [nI_0] at this
    exact this
  · simp only [rz_SRF, rz_fv_pf, rz_av_pf, rz_qv_pf, rz_ln_pf, rz_co_pf, rz_fv_pa, rz_av_pa, rz_qv_pa, rz_ln_pa, rz_co_pa, rz_fv_pq, rz_av_pq, rz_qv_pq, rz_ln_pq, rz_co_pq, Nat.reduceEqDiff, Nat.add_eq_left, Nat.left_eq_add, Nat.one_ne_zero, Option.map_some, exists_const, Option.some.injEq, Prod.mk.injEq, exists_eq_left', exists_eq', exists_and_left, exists_and_right, true_and, and_true, true_or, or_true, and_self, and_assoc, Option.toList_some, Option.toList_none, List.cons_append, List.nil_append, ↓reduceIte, rz_x01, rz_x10, r0, r1, r2, r3, r4]
set_option maxHeartbeats 4000000 in
set_option maxRecDepth 100000 in
theorem c_S_findFrom {d w r t : Nat} {rd : Nat → Int32} {laid : Int32} {s : rz_SS} {hp : rz_Hp} {R : Option Value → rz_Hp → Prop} (hrd : rz_rdo rd) (hwr : r + 2 ≤ w ∨ w + 8 ≤ r) (ht : t < 12) (h : rz_SR w s hp) (hR : rz_RD r rd laid hp) (kk : ∀ hp', rz_SR w (rz_sch rd t) hp' → rz_sm w (w + 8) hp hp' → R none hp') : rz_ev (d + 5) 69 0 [some (.ref w), some (.int (nI t)), some (.ref r), none] [] hp R := by
  have hco : rz_co hp w = some 5 := by
    obtain ⟨L, fl, am, ds, dn, cm, gr⟩ := s
    exact rz_co_fv h.1.1
  have hl : ∀ n, n ≤ 41 → ∀ (s1 : rz_SS) (hp1 : rz_Hp), rz_J rd s1 (41 - n) → rz_SR w s1 hp1 → rz_sm w (w + 8) hp hp1 → (∀ hp', rz_SR w (rz_slp rd n s1) hp' → rz_sm w (w + 8) hp hp' → R none hp') → rz_ev (d + 5) 69 12 [some (.ref w), some (.int (nI t)), some (.ref r), some (.int (nI (41 - n)))] [] hp1 R := by
    intro n
    induction n with
    | zero =>
      intro _ s1 hp1 hJ h1 hs1 kk1
      have c1 : (40 : Int32) < nI (41 - 0) := by decide
      rw [ri_69_12]
      simp only [↓ri_69_13, ↓ri_69_15, ↓ri_69_18, ↓ri_69_19, ↓ri_69_22, ↓ri_69_25, ↓ri_69_28, ↓ri_69_29, ↓ri_69_30, ↓ri_69_33, ↓ri_69_36, ↓ri_69_39, Option.some.injEq, Prod.mk.injEq, exists_eq_left', exists_eq', exists_and_left, exists_and_right, true_and, and_true, true_or, or_true, and_self, and_assoc, Option.toList_some, Option.toList_none, List.cons_append, List.nil_append, ↓reduceIte, rz_x01, rz_x10, ↓if_pos c1]
      exact kk1 _ h1 hs1
    | succ n ih =>
      intro hn s1 hp1 hJ h1 hs1 kk1
      have c1 : ¬ (40 : Int32) < nI (41 - (n + 1)) := nI_nlt (b := 41 - (n + 1)) (a := 40) (by omega) (by decide)
      have hcow : rz_co hp1 w = some 5 := by
        obtain ⟨L, fl, am, ds, dn, cm, gr⟩ := s1
        exact rz_co_fv h1.1.1
      have hq : rz_fv hp1 w 5 0 = some (.ref (w + 1)) ∧ rz_co hp1 (w + 1) = some 3 ∧ ∀ R, rz_ev (d + 4) 29 0 [some (.ref (w + 1))] [] hp1 R ↔ R (some (.int (nI s1.1.length))) hp1 := by
        obtain ⟨L, fl, am, ds, dn, cm, gr⟩ := s1
        exact ⟨h1.1.1, rz_co_fv h1.2.1.2.1.1, fun R => c_P_size (d := d + 4) h1.2.1⟩
      have hle : s1.1.length ≤ 40 := by
        obtain ⟨L, fl, am, ds, dn, cm, gr⟩ := s1
        exact h1.2.1.1
      have e1 : rz_slp rd (n + 1) s1 = if s1.1.length = 0 then s1 else rz_slp rd n (rz_so rd s1) := rfl
      rw [e1] at kk1
      rw [ri_69_12]
      by_cases h0 : s1.1.length = 0
      · rw [if_pos h0] at kk1
        have c2 : nI s1.1.length ≤ 0 := by rw [h0]; decide
        simp only [↓ri_69_13, ↓ri_69_15, ↓ri_69_18, ↓ri_69_19, ↓ri_69_22, ↓ri_69_25, ↓ri_69_28, ↓ri_69_29, ↓ri_69_30, ↓ri_69_33, ↓ri_69_36, ↓ri_69_39, Option.some.injEq, Prod.mk.injEq, exists_eq_left', exists_eq', exists_and_left, exists_and_right, true_and, and_true, true_or, or_true, and_self, and_assoc, Option.toList_some, Option.toList_none, List.cons_append, List.nil_append, ↓reduceIte, rz_x01, rz_x10, ↓if_neg c1, hq, ↓if_pos c2]
        exact kk1 _ h1 hs1
      · rw [if_neg h0] at kk1
        have c2 : ¬ nI s1.1.length ≤ 0 := nI_nle (by omega) (by omega)
        have hne : s1.1 ≠ [] := fun q => h0 (by rw [q]; rfl)
        simp only [↓ri_69_13, ↓ri_69_15, ↓ri_69_18, ↓ri_69_19, ↓ri_69_22, ↓ri_69_25, ↓ri_69_28, ↓ri_69_29, ↓ri_69_30, Option.some.injEq, Prod.mk.injEq, exists_eq_left', exists_eq', exists_and_left, exists_and_right, true_and, and_true, true_or, or_true, and_self, and_assoc, Option.toList_some, Option.toList_none, List.cons_append, List.nil_append, ↓reduceIte, rz_x01, rz_x10, ↓if_neg c1, hq, ↓if_neg c2, hcow]
        refine c_S_letOut (d := d) hrd hwr hJ hne h1 (rz_RD_sm hR hs1 (by omega)) (fun h2 hS2 hs2 => ?_)
        simp only [↓ri_69_33, ↓ri_69_36, Option.some.injEq, Prod.mk.injEq, exists_eq_left', exists_eq', exists_and_left, exists_and_right, true_and, and_true, true_or, or_true, and_self, and_assoc, Option.toList_some, Option.toList_none, List.cons_append, List.nil_append, ↓reduceIte, rz_x01, rz_x10, nI_1]
        have e2 : 41 - (n + 1) + 1 = 41 - n := by omega
        rw [e2]
        have hJ2 := (rz_so_J hrd hJ hne).1
        rw [e2] at hJ2
        exact ih (by omega) _ h2 hJ2 hS2 (hs1.tr hs2) kk1
  simp only [↓ri_69_0, ↓ri_69_1, ↓ri_69_4, ↓ri_69_5, ↓ri_69_6, ↓ri_69_7, Option.some.injEq, Prod.mk.injEq, exists_eq_left', exists_eq', exists_and_left, exists_and_right, true_and, and_true, true_or, or_true, and_self, and_assoc, Option.toList_some, Option.toList_none, List.cons_append, List.nil_append, ↓reduceIte, rz_x01, rz_x10, hco]
  refine c_S_clear (d := d + 3) h (fun h1 hS1 hs1 => ?_)
  have hco1 : rz_co h1 w = some 5 := rz_co_fv hS1.1.1
  simp only [↓ri_69_4, ↓ri_69_5, ↓ri_69_6, ↓ri_69_7, Option.some.injEq, Prod.mk.injEq, exists_eq_left', exists_eq', exists_and_left, exists_and_right, true_and, and_true, true_or, or_true, and_self, and_assoc, Option.toList_some, Option.toList_none, List.cons_append, List.nil_append, ↓reduceIte, rz_x01, rz_x10, hco1]
  refine c_S_bringIn (d := d + 2) (t := t) (a := 0) (c := 0) hS1 (by decide) rfl rfl (by decide) (by decide) (fun h2 hS2 hs2 => ?_)
  simp only [↓ri_69_10, ↓ri_69_11, Option.some.injEq, Prod.mk.injEq, exists_eq_left', exists_eq', exists_and_left, exists_and_right, true_and, and_true, true_or, or_true, and_self, and_assoc, Option.toList_some, Option.toList_none, List.cons_append, List.nil_append, ↓reduceIte, rz_x01, rz_x10]
  have := hl 41 (Nat.le_refl _) (rz_s0 t) h2 (rz_s0_J rd ht) hS2 (hs1.tr hs2) kk
  exact this
