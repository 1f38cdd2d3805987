/-! RisingPilesModel: the next entry comes out -/
section RZM5
variable {d a : Nat} {f f2 : Nat → Int32} {hp : rz_Hp} {R : Option Value → rz_Hp → Prop} {Z : List rz_Zt} {L : List rz_En} {fl am : Int32} {lat : List rz_La} {rd : Nat → Int32} {laid ci co tb : Int32} {B : Nat}
theorem rz_YZ_mem {S : Nat} (h : rz_YZ L S Z) {z : rz_Zt} (hz : z ∈ Z) : z.1 ∈ L := by
  obtain ⟨Y, rfl, hp, -⟩ := h
  exact List.mem_map_of_mem (hp.mem_iff.mpr hz)
theorem rz_YZ_perm {S : Nat} (h : rz_YZ L S Z) : (Z.map Prod.fst).Perm L := by
  obtain ⟨Y, rfl, hp, -⟩ := h
  exact (hp.map _).symm
theorem rz_YZ_len {S : Nat} (h : rz_YZ L S Z) : Z.length = L.length := by
  have := (rz_YZ_perm h).length_eq
  rwa [List.length_map] at this
theorem rz_IE.lpe {ci' : Int32} {j : Nat} {e : rz_En} {D : List rz_En} (h : rz_IE L fl ci') (hn : rz_nx L j) (he : L[j]? = some e) (hD : D.Perm L) : rz_lp D = e.2.2.2.2 ∧ rz_mk D e.2.2.2.2 = e.2.1 := by
  obtain ⟨c, m, g0, g1, g2, g3, g4, g5, g6⟩ := h.low hn he
  have hm := rz_b16 g2 g1
  refine ⟨rz_lp_eq ⟨e, hD.mem_iff.mpr (List.mem_of_getElem? he), rfl⟩ (fun x hx => ?_) (fun x hx => (h.lt40 x (hD.mem_iff.mp hx)).1), rz_mk_eq ⟨e, hD.mem_iff.mpr (List.mem_of_getElem? he), rfl, rfl⟩ (fun x hx _ => ?_) (fun q => ?_)⟩
  · obtain ⟨b, b1, b2, b3, b4, b5⟩ := g6 x (hD.mem_iff.mp hx)
    have := rz_b16 b2 g1
    rw [g5, b4]
    exact nI_le b5 (by omega)
  · obtain ⟨b, b1, b2, b3, b4, b5⟩ := g6 x (hD.mem_iff.mp hx)
    rw [g4, b3]
    exact nI_le b1 (by omega)
  · rw [g4] at q
    exact nI_pos (show m < 2 ^ 31 by omega) (by rw [q]; decide)
theorem rz_YZ_dz {S : Nat} (h : rz_YZ L S Z) : rz_dz Z := by
  obtain ⟨Y, -, hp, hw, -⟩ := h
  exact rz_dzY hp hw
set_option maxHeartbeats 4000000 in
set_option maxRecDepth 100000 in
theorem m_M_empties {j : Nat} {e : rz_En} (ha : rz_av hp a = some (0, 430, f)) (h : rz_RW f (L, fl, am, lat, rd, laid, ci, co, tb) B) (hI : rz_IE L fl ci) (hn : rz_nx L j) (he : L[j]? = some e) (hB : B + 41 < 2 ^ 30) (kk : ∀ hp' f', rz_av hp' a = some (0, 430, f') → rz_RW f' (rz_re L e, rz_reF fl e, rz_reM am L e, lat, rd, laid, ci, co, tb) (B + 41) → rz_sm a (a + 1) hp hp' → R none hp') : rz_ev (d + 3) 137 0 [some (.ref a), none, none] [] hp R := by
  obtain ⟨S, Z, hS, hH, hZ, hY⟩ := id h
  obtain ⟨e1, e2⟩ := hI.lpe hn he (rz_YZ_perm hY)
  have ol := fun R => m_M_lowestPile (d := d + 1) ha hZ (R := R)
  rw [e1] at ol
  by_cases h0 : e.2.2.2.2 = 0
  · simp only [↓ri_137_0, ↓ri_137_1, ↓ri_137_4, ↓ri_137_5, ↓ri_137_6, ↓ri_137_9, Option.some.injEq, Prod.mk.injEq, exists_eq_left', exists_eq', exists_and_left, exists_and_right, true_and, and_true, true_or, or_true, and_self, and_assoc, Option.toList_some, Option.toList_none, List.cons_append, List.nil_append, ↓reduceIte, rz_x01, rz_x10, ol, ↓if_pos h0]
    refine kk _ f ha ?_ rz_sm.rf
    unfold rz_re rz_reF rz_reM
    rw [if_pos h0, if_pos h0, if_pos h0]
    exact h.mono (by omega)
  · have ok := fun R => m_M_keyIn0 (d := d + 1) (p := e.2.2.2.2) ha hZ (R := R)
    rw [e2] at ok
    obtain ⟨c, m, g0, g1, g2, g3, g4, g5, g6⟩ := hI.low hn he
    have hm16 := rz_b16 g2 g1
    have hZ1 : rz_ZS (upd f 0 (nI m)) Z := rz_ZS_hd hZ (pk_un (by omega)) (fun j hj => pk_un (by omega))
    have hH1 : rz_RH (upd f 0 (nI m)) (rz_re L e, nI m, am, lat, rd, laid, ci, co, tb) S := by
      obtain ⟨k0, k2, k3, k4, k5, k6, k7, k8⟩ := hH
      refine ⟨pk_us, by rw [pk_un (by omega)]; exact k2, by rw [pk_un (by omega)]; exact k3, by rw [pk_un (by omega)]; exact k4, by rw [pk_un (by omega)]; exact k5, by rw [pk_un (by omega)]; exact k6, rz_la_hd k7 (fun j hj _ => pk_un (by omega)), fun i hi => by rw [pk_un (by omega)]; exact k8 i hi⟩
    have hs1 : rz_sm a (a + 1) hp (rz_pa hp a (upd f 0 (nI m))) := rz_sm_pa (by omega) (by omega)
    obtain ⟨b, hb, hfr⟩ := m_M_frontOf_ex (d := d + 1) (p := nI (rz_bl (m ^^^ c))) (rz_avS (g := upd f 0 (nI m)) ha) hZ1 (rz_YZ_dz hY)
    rw [g5, g4] at ok
    rw [g5] at ol h0
    simp only [↓ri_137_0, ↓ri_137_1, ↓ri_137_4, ↓ri_137_5, ↓ri_137_6, ↓ri_137_9, ↓ri_137_10, ↓ri_137_11, ↓ri_137_12, ↓ri_137_13, ↓ri_137_14, ↓ri_137_15, ↓ri_137_18, ↓ri_137_19, ↓ri_137_20, ↓ri_137_21, ↓ri_137_24, Option.some.injEq, Prod.mk.injEq, exists_eq_left', exists_eq', exists_and_left, exists_and_right, true_and, and_true, true_or, or_true, and_self, and_assoc, Option.toList_some, Option.toList_none, List.cons_append, List.nil_append, ↓reduceIte, rz_x01, rz_x10, ol, ok, ↓if_neg h0, ha, rz_v0, rz_k0, hfr]
    obtain ⟨Y, hYL, hYp, hYw, hYs⟩ := id hY
    replace hYL : Y.map Prod.fst = L := hYL
    have hlen : Y.length ≤ 41 := by rw [hYp.length_eq]; exact hZ.1
    refine m_M_empties_loop (d := d) (B := B + 41) (p := rz_bl (m ^^^ c)) (Gl := rz_re L e) (amG := rz_reM am L e) g2 (by omega) (fun hp' f' a' h' s' => ?_) Y [] am S Z _ _ b (rz_avS ha) hH1 hZ1 hYp hYw hYs (fun y hy => absurd hy (List.not_mem_nil)) (fun y hy hyp => ?_) ?_ ?_ (by omega) hs1 hb
    · refine kk hp' f' a' ?_ s'
      unfold rz_reF
      rw [g5, if_neg h0, g4]
      exact h'
    · have hyL : y.1 ∈ L := by rw [← hYL]; exact List.mem_map_of_mem hy
      obtain ⟨k, q1, q2, q3, -⟩ := g6 y.1 hyL
      refine ⟨⟨k, q2, q3⟩, fun x hx q => ?_⟩
      have hxL : x.1 ∈ L := by rw [← hYL]; exact List.mem_map_of_mem hx
      have := hI.mv hn he (by rw [g5]; exact h0) hyL (by rw [hyp, g5]) x.1 hxL
      rw [g4, q] at this
      exact Int32.lt_irrefl this
    · unfold rz_re
      rw [g5, if_neg h0, g4, ← hYL, List.map_map]
      rfl
    · unfold rz_reM
      rw [g5, if_neg h0, hYL]
theorem rz_cpStep {f : Nat → Int32} {dst src n : Nat} (h : dst ≤ src) : upd (va_cpy f f src dst n) (dst + n) (va_cpy f f src dst n (src + n)) = va_cpy f f src dst (n + 1) := by
  funext j
  by_cases h1 : j = dst + n
  · subst h1
    rw [pk_us, pk_cpy_out (by omega), pk_cpy_in (by omega) (by omega), show src + (dst + n - dst) = src + n by omega]
  · rw [pk_un h1]
    by_cases h2 : dst ≤ j ∧ j < dst + n
    · rw [pk_cpy_in h2.1 h2.2, pk_cpy_in h2.1 (by omega)]
    · rw [pk_cpy_out (by omega), pk_cpy_out (by omega)]
theorem rz_cpNil {f : Nat → Int32} {dst src : Nat} : va_cpy f f src dst 0 = f := by
  funext j
  exact pk_cpy_out (by omega)
set_option maxHeartbeats 4000000 in
set_option maxRecDepth 100000 in
theorem m_M_drops {i : Nat} {z : rz_Zt} (ha : rz_av hp a = some (0, 430, f)) (hZ : rz_ZS f Z) (hz : Z[i]? = some z) (kk : ∀ hp' f' Z', rz_av hp' a = some (0, 430, f') → rz_ZS f' Z' → (z :: Z').Perm Z → rz_hd f' f → rz_sm a (a + 1) hp hp' → R none hp') : rz_ev (d + 1) 135 0 [some (.ref a), some (.int (nI i)), none] [] hp R := by
  have hi := (List.getElem?_eq_some_iff.mp hz).1
  have h41 := hZ.1
  obtain ⟨m, hm⟩ : ∃ m, Z.length = m + 1 := ⟨Z.length - 1, by omega⟩
  have h1 := hZ.2.1
  have hne : Z ≠ [] := fun q => by rw [q] at hi; exact absurd hi (Nat.not_lt_zero _)
  have hZU := List.dropLast_concat_getLast hne
  have hUl : Z.dropLast.length = m := by rw [List.length_dropLast]; omega
  have hpred : nI (m + 1) - 1 = nI m := nI_pred m
  have hL : ∀ w, w ≤ 6 → ∀ hp1, rz_av hp1 a = some (0, 430, va_cpy (upd f 1 (nI m)) (upd f 1 (nI m)) (184 + 6 * m) (184 + 6 * i) w) → rz_sm a (a + 1) hp hp1 → rz_ev (d + 1) 135 9 [some (.ref a), some (.int (nI i)), some (.int (nI w))] [] hp1 R := by
    refine rz_down 6 ?_ ?_
    · intro hp1 a1 s1
      have c1 : (6 : Int32) ≤ nI 6 := by decide
      rw [ri_135_9]
      simp only [↓ri_135_10, ↓ri_135_12, ↓ri_135_15, ↓ri_135_16, ↓ri_135_17, ↓ri_135_18, ↓ri_135_19, ↓ri_135_20, ↓ri_135_21, ↓ri_135_22, ↓ri_135_23, ↓ri_135_26, ↓ri_135_29, ↓ri_135_32, ↓ri_135_35, Option.some.injEq, Prod.mk.injEq, exists_eq_left', exists_eq', exists_and_left, exists_and_right, true_and, and_true, true_or, or_true, and_self, and_assoc, Option.toList_some, Option.toList_none, List.cons_append, List.nil_append, ↓reduceIte, rz_x01, rz_x10, ↓if_pos c1]
      refine kk _ _ (Z.dropLast.set i (Z.getLast hne)) a1 ⟨by rw [List.length_set]; omega, ?_, fun k x hx => ?_⟩ ?_ (fun j hj hj1 => ?_) s1
      · rw [List.length_set, hUl, pk_cpy_out (by omega), pk_us]
      · have hk := (List.getElem?_eq_some_iff.mp hx).1
        rw [List.length_set, hUl] at hk
        rw [List.getElem?_set] at hx
        have hlast : Z[m]? = some (Z.getLast hne) := by rw [List.getLast_eq_getElem, List.getElem?_eq_getElem (by omega)]; congr 1; congr 1; omega
        by_cases hik : i = k
        · subst hik
          rw [if_pos rfl, if_pos (by omega)] at hx
          cases hx
          obtain ⟨g0, g1, g2, g3, g4, g5, g6⟩ := hZ.2.2 m _ hlast
          refine ⟨?_, ?_, ?_, ?_, ?_, ?_, g6⟩
          · rw [pk_cpy_in (by omega) (by omega), show 184 + 6 * m + (184 + 6 * i - (184 + 6 * i)) = 184 + 6 * m by omega, pk_un (by omega), g0]
          · rw [pk_cpy_in (by omega) (by omega), show 184 + 6 * m + (184 + 6 * i + 1 - (184 + 6 * i)) = 184 + 6 * m + 1 by omega, pk_un (by omega), g1]
          · rw [pk_cpy_in (by omega) (by omega), show 184 + 6 * m + (184 + 6 * i + 2 - (184 + 6 * i)) = 184 + 6 * m + 2 by omega, pk_un (by omega), g2]
          · rw [pk_cpy_in (by omega) (by omega), show 184 + 6 * m + (184 + 6 * i + 3 - (184 + 6 * i)) = 184 + 6 * m + 3 by omega, pk_un (by omega), g3]
          · rw [pk_cpy_in (by omega) (by omega), show 184 + 6 * m + (184 + 6 * i + 4 - (184 + 6 * i)) = 184 + 6 * m + 4 by omega, pk_un (by omega), g4]
          · rw [pk_cpy_in (by omega) (by omega), show 184 + 6 * m + (184 + 6 * i + 5 - (184 + 6 * i)) = 184 + 6 * m + 5 by omega, pk_un (by omega), g5]
        · rw [if_neg hik, List.getElem?_dropLast, if_pos (by omega)] at hx
          obtain ⟨g0, g1, g2, g3, g4, g5, g6⟩ := hZ.2.2 k _ hx
          refine ⟨?_, ?_, ?_, ?_, ?_, ?_, g6⟩ <;> (rw [pk_cpy_out (by omega), pk_un (by omega)]; assumption)
      · by_cases him : i < m
        · have hzU : Z.dropLast[i]? = some z := by rw [List.getElem?_dropLast, if_pos (by omega)]; exact hz
          have p1 : (Z.getLast hne :: Z.dropLast.eraseIdx i).Perm (Z.dropLast.set i (Z.getLast hne)) := rz_set_perm hzU
          refine (p1.symm.cons z).trans ((List.Perm.swap _ _ _).trans (((rz_er_perm hzU).cons _).trans ((List.perm_append_singleton _ _).symm.trans (List.Perm.of_eq hZU))))
        · have hie : i = m := by omega
          subst hie
          rw [List.set_eq_of_length_le (by omega)]
          have hzl : z = Z.getLast hne := by
            have hlast : Z[i]? = some (Z.getLast hne) := by rw [List.getLast_eq_getElem, List.getElem?_eq_getElem (by omega)]; congr 1; congr 1; omega
            rw [hz] at hlast
            exact Option.some.inj hlast
          rw [hzl]
          exact (List.perm_append_singleton _ _).symm.trans (List.Perm.of_eq hZU)
      · rw [pk_cpy_out (by omega), pk_un hj1]
    · intro w hw ih hp1 a1 s1
      have c1 : ¬ (6 : Int32) ≤ nI w := nI_ge (b := 6) hw (by decide)
      have e1 : va_cpy (upd f 1 (nI m)) (upd f 1 (nI m)) (184 + 6 * m) (184 + 6 * i) w 1 = nI m := by rw [pk_cpy_out (by omega), pk_us]
      have ow := fun R => m_M_of (d := d) (i := m) (w := w) (x := nI w) a1 (by omega) hw rfl (R := R)
      rw [ri_135_9]
      simp only [↓ri_135_10, ↓ri_135_12, ↓ri_135_15, ↓ri_135_16, ↓ri_135_17, ↓ri_135_18, ↓ri_135_19, ↓ri_135_20, ↓ri_135_21, ↓ri_135_22, ↓ri_135_23, ↓ri_135_26, Option.some.injEq, Prod.mk.injEq, exists_eq_left', exists_eq', exists_and_left, exists_and_right, true_and, and_true, true_or, or_true, and_self, and_assoc, Option.toList_some, Option.toList_none, List.cons_append, List.nil_append, ↓reduceIte, rz_x01, rz_x10, ↓if_neg c1, a1, rz_v1, rz_k1, e1, ow]
      refine m_M_puts (d := d) (w := w) (x := nI w) a1 (by omega) hw rfl (fun h2 a2 s2 => ?_)
      rw [rz_cpStep (by omega)] at a2
      simp only [↓ri_135_29, ↓ri_135_32, Option.some.injEq, Prod.mk.injEq, exists_eq_left', exists_eq', exists_and_left, exists_and_right, true_and, and_true, true_or, or_true, and_self, and_assoc, Option.toList_some, Option.toList_none, List.cons_append, List.nil_append, ↓reduceIte, rz_x01, rz_x10, nI_1]
      exact ih h2 a2 (s1.tr s2)
  have h0 := hL 0 (Nat.zero_le _) (rz_pa hp a (upd f 1 (nI m))) (by rw [rz_cpNil]; exact rz_avS ha) (rz_sm_pa (by omega) (by omega))
  rw [nI_0] at h0
  rw [hm] at h1
  simp only [↓ri_135_0, ↓ri_135_1, ↓ri_135_2, ↓ri_135_3, ↓ri_135_4, ↓ri_135_5, ↓ri_135_6, ↓ri_135_7, ↓ri_135_8, Option.some.injEq, Prod.mk.injEq, exists_eq_left', exists_eq', exists_and_left, exists_and_right, true_and, and_true, true_or, or_true, and_self, and_assoc, Option.toList_some, Option.toList_none, List.cons_append, List.nil_append, ↓reduceIte, rz_x01, rz_x10, ha, rz_v1, rz_k1, h1, hpred]
  exact h0
end RZM5
