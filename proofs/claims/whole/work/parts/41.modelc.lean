/-! RisingPilesModel: shortest ways -/
def rz_OW (f : Nat → Int32) (ss : rz_SS) (B : Nat) : Prop := ∃ (lat : List rz_La) (rd : Nat → Int32) (laid co tb : Int32), rz_RW f (ss.1, ss.2.1, ss.2.2.1, lat, rd, laid, nI ss.2.2.2.2.2.1, co, tb) B
theorem rz_fo_IE {rd : Nat → Int32} {t a : Nat} {ss : rz_SS} (hrd : rz_rdo rd) (ht : t < 12) (ha : a ≤ 39960) (hfl : ¬ nI a < ss.2.1) (hI : rz_IE ss.1 ss.2.1 (nI ss.2.2.2.2.2.1)) (hcm : ss.2.2.2.2.2.1 + rz_od rd t 12 ≤ 41) : ∀ n, n ≤ 12 → rz_IE (rz_fo rd t (nI a) n ss).1 (rz_fo rd t (nI a) n ss).2.1 (nI (rz_fo rd t (nI a) n ss).2.2.2.2.2.1) := by
  intro n
  induction n with
  | zero => exact fun _ => hI
  | succ n ih =>
    intro hn
    have ih := ih (by omega)
    have hds := rz_fo_ds rd t (nI a) n ss
    have hlen := rz_fo_len rd t (nI a) n ss
    have hmo : rz_od rd t n ≤ rz_od rd t 12 := rz_od_mono (by omega)
    rw [rz_fo_s]
    by_cases h : rd (t * 12 + n) = -5 ∨ ¬ (rz_fo rd t (nI a) n ss).2.2.2.1 n = -5
    · rw [if_pos h]; exact ih
    · rw [if_neg h]
      rcases hrd.1 (t * 12 + n) (by omega) with q | ⟨b, hb, q⟩
      · exact absurd (Or.inl q) h
      · rw [q, nI_add]
        unfold rz_sb
        have hfl2 : ¬ nI (a + b) < (rz_fo rd t (nI a) n ss).2.1 := by
          rw [hds.2.1]
          intro q2
          exact hfl (Int32.lt_of_le_of_lt (nI_le (by omega) (by omega)) q2)
        have := ih.app (a := a + b) (val := nI n) (mv := 0) (by omega) hfl2 (nI_lt (b := 1000) (by omega) (by decide))
        rw [nI_1] at this
        exact this
def rz_dc (ds : Nat → Int32) : Nat → Nat
  | 0 => 0
  | n + 1 => rz_dc ds n + if ds n = -5 then 0 else 1
def rz_gm (ds : Nat → Int32) : Nat → Int32
  | 0 => 0
  | n + 1 => if rz_gm ds n < ds n then ds n else rz_gm ds n
theorem rz_dc_s (ds : Nat → Int32) (n : Nat) : rz_dc ds (n + 1) = rz_dc ds n + if ds n = -5 then 0 else 1 := rfl
theorem rz_gm_s (ds : Nat → Int32) (n : Nat) : rz_gm ds (n + 1) = if rz_gm ds n < ds n then ds n else rz_gm ds n := rfl
theorem rz_gm_0 (ds : Nat → Int32) : ∀ n, 0 ≤ rz_gm ds n := by
  intro n
  induction n with
  | zero => exact Int32.le_refl _
  | succ n ih =>
    rw [rz_gm_s]
    split
    · next h => exact Int32.le_trans ih (Int32.le_of_lt h)
    · exact ih
theorem rz_dc_upd {ds : Nat → Int32} {t : Nat} {k : Int32} (h : ds t = -5) (hk : ¬ k = -5) : ∀ n, rz_dc (upd ds t k) n = rz_dc ds n + if t < n then 1 else 0 := by
  intro n
  induction n with
  | zero => rfl
  | succ n ih =>
    rw [rz_dc_s, rz_dc_s, ih]
    by_cases q : n = t
    · subst q
      rw [pk_us, if_neg hk, if_pos h, if_neg (Nat.lt_irrefl _), if_pos (Nat.lt_succ_self _)]
    · rw [pk_un q]
      by_cases q2 : t < n
      · rw [if_pos q2, if_pos (show t < n + 1 by omega)]; omega
      · rw [if_neg q2, if_neg (show ¬ t < n + 1 by omega)]; omega
theorem rz_gm_upd {ds : Nat → Int32} {t : Nat} {k : Int32} (h : ds t = -5) : ∀ n, rz_gm (upd ds t k) n = if t < n then (if rz_gm ds n < k then k else rz_gm ds n) else rz_gm ds n := by
  intro n
  induction n with
  | zero => rfl
  | succ n ih =>
    rw [rz_gm_s, rz_gm_s, ih]
    by_cases q : n = t
    · subst q
      have h5 : ¬ rz_gm ds n < ds n := by rw [h]; exact Int32.not_lt.mpr (Int32.le_trans (by decide) (rz_gm_0 ds n))
      rw [pk_us, if_neg (Nat.lt_irrefl _), if_pos (Nat.lt_succ_self _), if_neg h5]
    · rw [pk_un q]
      by_cases q2 : t < n
      · rw [if_pos q2, if_pos (show t < n + 1 by omega)]
        by_cases l1 : rz_gm ds n < k
        · rw [if_pos l1]
          by_cases l2 : k < ds n
          · rw [if_pos l2, if_pos (Int32.lt_trans l1 l2), if_neg (fun q => Int32.lt_irrefl (Int32.lt_trans q l2))]
          · rw [if_neg l2]
            by_cases l3 : rz_gm ds n < ds n
            · rw [if_pos l3]
              by_cases l4 : ds n < k
              · rw [if_pos l4]
              · rw [if_neg l4]; exact Int32.le_antisymm (Int32.not_lt.mp l4) (Int32.not_lt.mp l2)
            · rw [if_neg l3, if_pos l1]
        · rw [if_neg l1]
          by_cases l3 : rz_gm ds n < ds n
          · rw [if_pos l3, if_neg (fun q => l1 (Int32.lt_trans l3 q))]
          · rw [if_neg l3, if_neg l1]
      · rw [if_neg q2, if_neg (show ¬ t < n + 1 by omega)]
def rz_DG (ss : rz_SS) : Prop := ss.2.2.2.2.1 = nI (rz_dc ss.2.2.2.1 12) ∧ ss.2.2.2.2.2.2 = rz_gm ss.2.2.2.1 12
section RZMH
variable {d a m lo hi n : Nat} {f f2 g : Nat → Int32} {hp h1 : rz_Hp} {R : Option Value → rz_Hp → Prop} {s s2 x : rz_AS} {hist : List rz_AS} {shot : Option rz_AS} {tx : List Int32} {ro re sp sv sh le od : Int32} {os : List rz_Or} {B B2 : Nat} {Z : List rz_Zt} {L : List rz_En} {fl am : Int32} {lat : List rz_La} {rd : Nat → Int32} {laid ci co tb : Int32}
theorem rz_MM.far (h : rz_MM m s hist shot tx ro re sp os B hp) (hr : rz_AR (m + 8) 12 h1) (q : rz_sm (m + 8) (m + 9) hp h1) : rz_MM m s hist shot tx ro re sp os B h1 := by
  obtain ⟨h0, h1, h2, h3, h4, h5, h6, h7, h8⟩ := h
  exact ⟨h0.sm q (by omega), h1.sm q (by omega), h2.sm q (by omega), h3.sm q (by omega), h4.sm q (by omega), h5.sm q (by omega), h6.sm q (by omega), h7.sm q (by omega), hr⟩
set_option maxHeartbeats 4000000 in
set_option maxRecDepth 100000 in
theorem m_M_roadsFrom {t a : Nat} {ss : rz_SS} {fo : Nat → Int32} (hrd : rz_rdo rd) (ht : t < 12) (ha : a ≤ 39960) (hfl : ¬ nI a < ss.2.1) (hI : rz_IE ss.1 ss.2.1 (nI ss.2.2.2.2.2.1)) (hlen : ss.1.length + rz_od rd t 12 ≤ 40) (hcm : ss.2.2.2.2.2.1 + rz_od rd t 12 ≤ 41) (h : rz_MM m s hist shot tx ro re sp os B2 hp) (hs : s.2.2.2.2.1 = rd) (a8 : rz_av hp (m + 8) = some (0, 12, g)) (hg : ∀ i, i < 12 → g i = ss.2.2.2.1 i) (a3 : rz_av hp (m + 3) = some (0, 430, fo)) (w : rz_OW fo ss B) (hB : B + 12 < 2 ^ 30) (kk : ∀ hp' f', rz_av hp' (m + 3) = some (0, 430, f') → rz_OW f' (rz_fo rd t (nI a) 12 ss) (B + 12) → rz_sm (m + 3) (m + 4) hp hp' → R none hp') : rz_ev (d + 3) 176 0 [some (.ref m), some (.int (nI t)), some (.int (nI a)), none, none, none] [] hp R := by
  obtain ⟨L, fl, am, lat, rd', laid, ci, co, tb⟩ := s
  replace hs : rd' = rd := hs
  subst hs
  obtain ⟨⟨f0, f1, f2, f3, f4, f5, f6, f7, f8, f9, f10, f11, f12, f13, f14⟩, ⟨f, a1, w1⟩, -⟩ := id h
  obtain ⟨S, Z, hS, ⟨-, -, -, -, -, -, -, q8⟩, -, -⟩ := id w1
  have hL : ∀ n, n ≤ 12 → ∀ hp1 f' l4 l5, rz_av hp1 (m + 3) = some (0, 430, f') → rz_OW f' (rz_fo rd' t (nI a) n ss) (B + n) → rz_sm (m + 3) (m + 4) hp hp1 → rz_ev (d + 3) 176 2 [some (.ref m), some (.int (nI t)), some (.int (nI a)), some (.int (nI n)), l4, l5] [] hp1 R := by
    refine rz_down 12 ?_ ?_
    · intro hp1 f' l4 l5 a' w' s'
      have c1 : (12 : Int32) ≤ nI 12 := by decide
      rw [ri_176_2]
      simp only [↓ri_176_3, ↓ri_176_5, ↓ri_176_58, Option.some.injEq, Prod.mk.injEq, exists_eq_left', exists_eq', exists_and_left, exists_and_right, true_and, and_true, true_or, or_true, and_self, and_assoc, Option.toList_some, Option.toList_none, List.cons_append, List.nil_append, ↓reduceIte, rz_x01, rz_x10, ↓if_pos c1]
      exact kk hp1 f' a' w' s'
    · intro n hn ih hp1 f' l4 l5 a' w' s'
      have c1 : ¬ (12 : Int32) ≤ nI n := nI_ge (b := 12) hn (by decide)
      have g0 : rz_fv hp1 m 9 0 = some (.ref (m + 1)) := by rw [s'.fv (by omega)]; exact f0
      have g2 : rz_fv hp1 m 9 2 = some (.ref (m + 3)) := by rw [s'.fv (by omega)]; exact f2
      have g14 : rz_fv hp1 m 9 14 = some (.ref (m + 8)) := by rw [s'.fv (by omega)]; exact f14
      have b1 : rz_av hp1 (m + 1) = some (0, 430, f) := by rw [s'.av (by omega)]; exact a1
      have b8 : rz_av hp1 (m + 8) = some (0, 12, g) := by rw [s'.av (by omega)]; exact a8
      have hds := rz_fo_ds rd' t (nI a) n ss
      have hln := rz_fo_len rd' t (nI a) n ss
      have hmo : rz_od rd' t n ≤ rz_od rd' t 12 := rz_od_mono (by omega)
      have hix : rz_ix (nI t) (nI n) = t * 12 + n := by unfold rz_ix; rw [nI_clamp (by omega), nI_clamp (by omega)]
      have op := fun hp R => m_M_placeOf (d := d + 2) (hp := hp) (rz_town_nI ht) (rz_town_nI hn) (R := R)
      rw [hix] at op
      have v2 : vp_in (nI (40 + (t * 12 + n))) 430 := vp_in_nI (by omega) (by decide)
      have k2 : (nI (40 + (t * 12 + n))).toNatClampNeg = 40 + (t * 12 + n) := nI_clamp (by omega)
      have v3 : vp_in (nI n) 12 := vp_in_nI hn (by decide)
      have k3 : (nI n).toNatClampNeg = n := nI_clamp (by omega)
      rw [rz_fo_s] at ih
      rw [ri_176_2]
      by_cases h5 : rd' (t * 12 + n) = -5
      · rw [if_pos (Or.inl h5)] at ih
        simp only [↓ri_176_3, ↓ri_176_5, ↓ri_176_8, ↓ri_176_9, ↓ri_176_12, ↓ri_176_13, ↓ri_176_14, ↓ri_176_17, ↓ri_176_18, ↓ri_176_20, ↓ri_176_22, ↓ri_176_24, ↓ri_176_27, ↓ri_176_28, ↓ri_176_31, ↓ri_176_32, ↓ri_176_33, ↓ri_176_35, ↓ri_176_38, ↓ri_176_39, ↓ri_176_42, ↓ri_176_43, ↓ri_176_45, ↓ri_176_46, ↓ri_176_47, ↓ri_176_50, ↓ri_176_52, ↓ri_176_55, Option.some.injEq, Prod.mk.injEq, exists_eq_left', exists_eq', exists_and_left, exists_and_right, true_and, and_true, true_or, or_true, and_self, and_assoc, Option.toList_some, Option.toList_none, List.cons_append, List.nil_append, ↓reduceIte, rz_x01, rz_x10, ↓if_neg c1, g0, op, b1, v2, k2, q8 _ (show t * 12 + n < 144 by omega), ↓if_pos h5, nI_1]
        obtain ⟨lat, rd2, laid2, co2, tb2, w2⟩ := w'
        exact ih hp1 f' _ _ a' ⟨lat, rd2, laid2, co2, tb2, w2.mono (by omega)⟩ s'
      · by_cases h6 : (rz_fo rd' t (nI a) n ss).2.2.2.1 n = -5
        · have hgn : g n = -5 := by rw [hg n hn, ← hds.1]; exact h6
          rw [if_neg (fun q => q.elim h5 (fun q => q h6))] at ih
          rcases hrd.1 (t * 12 + n) (by omega) with q | ⟨b, hb, q⟩
          · exact absurd q h5
          · have hIn := rz_fo_IE hrd ht ha hfl hI hcm n (by omega)
            obtain ⟨lat, rd2, laid2, co2, tb2, w2⟩ := w'
            rw [q, nI_add] at ih
            simp only [↓ri_176_3, ↓ri_176_5, ↓ri_176_8, ↓ri_176_9, ↓ri_176_12, ↓ri_176_13, ↓ri_176_14, ↓ri_176_17, ↓ri_176_18, ↓ri_176_20, ↓ri_176_22, ↓ri_176_24, ↓ri_176_27, ↓ri_176_28, ↓ri_176_31, ↓ri_176_32, ↓ri_176_33, ↓ri_176_35, ↓ri_176_38, ↓ri_176_39, ↓ri_176_42, ↓ri_176_43, ↓ri_176_45, ↓ri_176_46, ↓ri_176_47, Option.some.injEq, Prod.mk.injEq, exists_eq_left', exists_eq', exists_and_left, exists_and_right, true_and, and_true, true_or, or_true, and_self, and_assoc, Option.toList_some, Option.toList_none, List.cons_append, List.nil_append, ↓reduceIte, rz_x01, rz_x10, ↓if_neg c1, g0, op, b1, v2, k2, q8 _ (show t * 12 + n < 144 by omega), ↓if_neg h5, g14, b8, v3, k3, hgn, g2, q, nI_add, ↓if_neg (rz_ne5 (show b < 2 ^ 31 by omega))]
            refine m_M_comesInW (d := d) a' w2 hIn (by omega) (by omega) (by omega) (fun h2 f2' a2 w3 s2 => ?_)
            simp only [↓ri_176_50, ↓ri_176_52, ↓ri_176_55, Option.some.injEq, Prod.mk.injEq, exists_eq_left', exists_eq', exists_and_left, exists_and_right, true_and, and_true, true_or, or_true, and_self, and_assoc, Option.toList_some, Option.toList_none, List.cons_append, List.nil_append, ↓reduceIte, rz_x01, rz_x10, nI_1]
            rw [nI_1] at w3
            exact ih h2 f2' _ _ a2 ⟨lat, rd2, laid2, co2, tb2, w3⟩ (s'.tr s2)
        · have hgn : ¬ g n = -5 := by rw [hg n hn, ← hds.1]; exact h6
          rw [if_pos (Or.inr h6)] at ih
          simp only [↓ri_176_3, ↓ri_176_5, ↓ri_176_8, ↓ri_176_9, ↓ri_176_12, ↓ri_176_13, ↓ri_176_14, ↓ri_176_17, ↓ri_176_18, ↓ri_176_20, ↓ri_176_22, ↓ri_176_24, ↓ri_176_27, ↓ri_176_28, ↓ri_176_31, ↓ri_176_32, ↓ri_176_33, ↓ri_176_35, ↓ri_176_38, ↓ri_176_39, ↓ri_176_42, ↓ri_176_43, ↓ri_176_45, ↓ri_176_46, ↓ri_176_47, ↓ri_176_50, ↓ri_176_52, ↓ri_176_55, Option.some.injEq, Prod.mk.injEq, exists_eq_left', exists_eq', exists_and_left, exists_and_right, true_and, and_true, true_or, or_true, and_self, and_assoc, Option.toList_some, Option.toList_none, List.cons_append, List.nil_append, ↓reduceIte, rz_x01, rz_x10, ↓if_neg c1, g0, op, b1, v2, k2, q8 _ (show t * 12 + n < 144 by omega), ↓if_neg h5, g14, b8, v3, k3, ↓if_neg hgn, nI_1]
          obtain ⟨lat, rd2, laid2, co2, tb2, w2⟩ := w'
          exact ih hp1 f' _ _ a' ⟨lat, rd2, laid2, co2, tb2, w2.mono (by omega)⟩ s'
  have := hL 0 (Nat.zero_le _) hp fo none none a3 w rz_sm.rf
  rw [nI_0] at this
  simp only [↓ri_176_0, ↓ri_176_1]
  exact this
theorem rz_so_IE {ss : rz_SS} {o : Nat} (hrd : rz_rdo rd) (hJ : rz_J rd ss o) (hI : rz_IE ss.1 ss.2.1 (nI ss.2.2.2.2.2.1)) (hG : rz_DG ss) (hne : ss.1 ≠ []) : rz_IE (rz_so rd ss).1 (rz_so rd ss).2.1 (nI (rz_so rd ss).2.2.2.2.2.1) ∧ rz_DG (rz_so rd ss) := by
  have ho : o ≤ 40 := (rz_so_J hrd hJ hne).2
  obtain ⟨j, hn⟩ : ∃ j, rz_nxf ss.1 = some j := by
    cases h : rz_nxf ss.1 with
    | none => exact absurd (rz_nxf_none h) hne
    | some j => exact ⟨j, rfl⟩
  have hnx := rz_nxf_some hn
  obtain ⟨e, he, -, -⟩ := id hnx
  obtain ⟨⟨a, ha, e1⟩, t, ht, e2⟩ := hJ.1 e (List.mem_of_getElem? he)
  obtain ⟨ee, he1, -⟩ := rz_re_at he
  have hfl := (rz_re0 hI hnx he he1).2.1
  have hI1 : rz_IE ((rz_re ss.1 e).eraseIdx j) (rz_reF ss.2.1 e) (nI ss.2.2.2.2.2.1) := (hI.re hnx he).sub (List.eraseIdx_sublist _ _)
  rw [rz_so_eq hn he e2 ht]
  have hcm := hJ.2.2.2
  split
  · next hd =>
    have hds2 := rz_fo_ds rd t e.2.1 12 (rz_s2 (rz_s1 ss e j) e.2.1 t)
    have hle2 := rz_ds_le2 (rd := rd) hd ht
    have htot := hrd.2
    refine ⟨?_, ?_⟩
    · have := rz_fo_IE (a := a) (ss := rz_s2 (rz_s1 ss e j) e.2.1 t) hrd ht (by omega) (by
        show ¬ nI a < rz_reF ss.2.1 e
        rw [hfl, e1]; exact Int32.lt_irrefl) hI1 (by
        show ss.2.2.2.2.2.1 + rz_od rd t 12 ≤ 41
        omega) 12 (Nat.le_refl _)
      rw [← e1] at this
      exact this
    · have k5 : ¬ e.2.1 = -5 := by rw [e1]; exact rz_ne5 (by omega)
      unfold rz_DG
      rw [hds2.1, hds2.2.2.1, hds2.2.2.2]
      refine ⟨?_, ?_⟩
      · show ss.2.2.2.2.1 + 1 = nI (rz_dc (upd ss.2.2.2.1 t e.2.1) 12)
        rw [rz_dc_upd hd k5, if_pos ht, hG.1, nI_1]
      · show (if ss.2.2.2.2.2.2 < e.2.1 then e.2.1 else ss.2.2.2.2.2.2) = rz_gm (upd ss.2.2.2.1 t e.2.1) 12
        rw [rz_gm_upd hd, if_pos ht, hG.2]
  · exact ⟨hI1, hG⟩
set_option maxHeartbeats 4000000 in
set_option maxRecDepth 100000 in
theorem m_M_searches {t : Nat} (hrd : rz_rdo rd) (ht : t < 12) (h : rz_MM m s hist shot tx ro re sp os B hp) (hs : s.2.2.2.2.1 = rd) (kk : ∀ hp' f' g', rz_MM m s hist shot tx ro re sp os B hp' → rz_av hp' (m + 3) = some (0, 430, f') → rz_OW f' (rz_sch rd t) 5000 → rz_av hp' (m + 8) = some (0, 12, g') → (∀ i, i < 12 → g' i = (rz_sch rd t).2.2.2.1 i) → rz_DG (rz_sch rd t) → rz_sm m (m + 9) hp hp' → R none hp') : rz_ev (d + 5) 177 0 [some (.ref m), some (.int (nI t)), none, none, none] [] hp R := by
  -- the loop of the search
  have hL : ∀ n, n ≤ 41 → ∀ (ss : rz_SS) (hp1 : rz_Hp) (f' g' : Nat → Int32) (l3 l4 : Option Value), rz_J rd ss (41 - n) → rz_IE ss.1 ss.2.1 (nI ss.2.2.2.2.2.1) → rz_DG ss → rz_MM m s hist shot tx ro re sp os B hp1 → rz_av hp1 (m + 3) = some (0, 430, f') → rz_OW f' ss (5000 - 100 * n) → rz_av hp1 (m + 8) = some (0, 12, g') → (∀ i, i < 12 → g' i = ss.2.2.2.1 i) → rz_sm m (m + 9) hp hp1 → (∀ hp' f' g', rz_MM m s hist shot tx ro re sp os B hp' → rz_av hp' (m + 3) = some (0, 430, f') → rz_OW f' (rz_slp rd n ss) 5000 → rz_av hp' (m + 8) = some (0, 12, g') → (∀ i, i < 12 → g' i = (rz_slp rd n ss).2.2.2.1 i) → rz_DG (rz_slp rd n ss) → rz_sm m (m + 9) hp hp' → R none hp') → rz_ev (d + 5) 177 54 [some (.ref m), some (.int (nI t)), some (.int 0), l3, l4] [] hp1 R := by
    intro n
    induction n with
    | zero =>
      intro _ ss hp1 f' g' l3 l4 hJ hI hG hM a3 w a8 hg hsm kk1
      obtain ⟨f0, f1, f2, f3, f4, f5, f6, f7, f8, f9, f10, f11, f12, f13, f14⟩ := id hM.1
      obtain ⟨lat, rd2, laid2, co2, tb2, w2⟩ := id w
      have hone := w2.one.1
      replace hone : f' 1 = nI ss.1.length := hone
      have h0 : ss.1.length = 0 := by
        have q1 := hJ.2.2.1
        have q2 := hJ.2.2.2
        have q3 := rz_ds_le (rd := rd) (dist := ss.2.2.2.1) 12
        have q4 : rz_ds rd (fun _ => 0) 12 ≤ 40 := hrd.2
        omega
      have c2 : nI ss.1.length ≤ 0 := by rw [h0]; decide
      rw [ri_177_54]
      simp only [↓ri_177_55, ↓ri_177_58, ↓ri_177_59, ↓ri_177_60, ↓ri_177_139, Option.some.injEq, Prod.mk.injEq, exists_eq_left', exists_eq', exists_and_left, exists_and_right, true_and, and_true, true_or, or_true, and_self, and_assoc, Option.toList_some, Option.toList_none, List.cons_append, List.nil_append, ↓reduceIte, rz_x01, rz_x10, f2, a3, rz_v1, rz_k1, hone, ↓if_pos c2]
      exact kk1 hp1 f' g' hM a3 w a8 hg hG hsm
    | succ n ih =>
      intro hn ss hp1 f' g' l3 l4 hJ hI hG hM a3 w a8 hg hsm kk1
      obtain ⟨f0, f1, f2, f3, f4, f5, f6, f7, f8, f9, f10, f11, f12, f13, f14⟩ := id hM.1
      obtain ⟨lat, rd2, laid2, co2, tb2, w2⟩ := id w
      have hone := w2.one.1
      have h41 := w2.one.2
      replace hone : f' 1 = nI ss.1.length := hone
      replace h41 : ss.1.length ≤ 41 := h41
      have e1 : rz_slp rd (n + 1) ss = if ss.1.length = 0 then ss else rz_slp rd n (rz_so rd ss) := rfl
      rw [e1] at kk1
      by_cases h0 : ss.1.length = 0
      · rw [if_pos h0] at kk1
        have c2 : nI ss.1.length ≤ 0 := by rw [h0]; decide
        rw [ri_177_54]
        simp only [↓ri_177_55, ↓ri_177_58, ↓ri_177_59, ↓ri_177_60, ↓ri_177_139, Option.some.injEq, Prod.mk.injEq, exists_eq_left', exists_eq', exists_and_left, exists_and_right, true_and, and_true, true_or, or_true, and_self, and_assoc, Option.toList_some, Option.toList_none, List.cons_append, List.nil_append, ↓reduceIte, rz_x01, rz_x10, f2, a3, rz_v1, rz_k1, hone, ↓if_pos c2]
        exact kk1 hp1 f' g' hM a3 ⟨lat, rd2, laid2, co2, tb2, w2.mono (by omega)⟩ a8 hg hG hsm
      · rw [if_neg h0] at kk1
        have c2 : ¬ nI ss.1.length ≤ 0 := nI_nle (by omega) (by omega)
        have hne : ss.1 ≠ [] := fun q => h0 (by rw [q]; rfl)
        obtain ⟨j, hnn⟩ : ∃ j, rz_nxf ss.1 = some j := by
          cases h : rz_nxf ss.1 with
          | none => exact absurd (rz_nxf_none h) hne
          | some j => exact ⟨j, rfl⟩
        have hnx := rz_nxf_some hnn
        obtain ⟨e, he, -, -⟩ := id hnx
        obtain ⟨⟨a, ha, ek⟩, t2, ht2, ev⟩ := hJ.1 e (List.mem_of_getElem? he)
        obtain ⟨ee, hee, i1, i2, i3⟩ := rz_re_at he
        have hfl := (rz_re0 hI hnx he hee).2.1
        have hJ2 := rz_so_J hrd hJ hne
        have hIG := rz_so_IE hrd hJ hI hG hne
        have e2 : 41 - (n + 1) + 1 = 41 - n := by omega
        rw [e2] at hJ2
        have hso := rz_so_eq (rd := rd) hnn he ev ht2
        have hcm := hJ.2.2.2
        have hlo := hJ.2.2.1
        have hI1 : rz_IE ((rz_re ss.1 e).eraseIdx j) (rz_reF ss.2.1 e) (nI ss.2.2.2.2.2.1) := (hI.re hnx he).sub (List.eraseIdx_sublist _ _)
        have hlen1 : ((rz_re ss.1 e).eraseIdx j).length + 1 = ss.1.length := by
          rw [List.length_eraseIdx_of_lt (by rw [rz_re_len]; exact (List.getElem?_eq_some_iff.mp he).1), rz_re_len]; omega
        rw [ri_177_54]
        simp only [↓ri_177_55, ↓ri_177_58, ↓ri_177_59, ↓ri_177_60, ↓ri_177_63, ↓ri_177_64, ↓ri_177_67, Option.some.injEq, Prod.mk.injEq, exists_eq_left', exists_eq', exists_and_left, exists_and_right, true_and, and_true, true_or, or_true, and_self, and_assoc, Option.toList_some, Option.toList_none, List.cons_append, List.nil_append, ↓reduceIte, rz_x01, rz_x10, f2, a3, rz_v1, rz_k1, hone, ↓if_neg c2]
        refine m_M_comesOut (d := d) a3 w2 hI hnn (by omega) (fun h2 f2' a2 w3 s2 => ?_)
        rw [rz_out_eq hnn he hee] at w3 ⊢
        have g2 : rz_fv h2 m 9 2 = some (.ref (m + 3)) := by rw [s2.fv (by omega)]; exact f2
        have g14 : rz_fv h2 m 9 14 = some (.ref (m + 8)) := by rw [s2.fv (by omega)]; exact f14
        have b8 : rz_av h2 (m + 8) = some (0, 12, g') := by rw [s2.av (by omega)]; exact a8
        obtain ⟨S, Z, hS, ⟨u0, u2, u3, u4, u5, u6, ⟨l8, l7, lA⟩, u8⟩, hZ, hY⟩ := id w3
        have hlp : 0 < (((ee.1, ee.2.1, ee.2.2.1, ee.2.2.2.1) :: lat).take 8).length := by rw [List.length_take, List.length_cons]; omega
        generalize hA : (((ee.1, ee.2.1, ee.2.2.1, ee.2.2.2.1) :: lat).take 8) = A at l8 l7 lA hlp w3
        have hA0 : A[0]? = some (ee.1, ee.2.1, ee.2.2.1, ee.2.2.2.1) := by rw [← hA, List.getElem?_take_of_lt (by decide)]; rfl
        obtain ⟨-, -, r2, -⟩ := lA 0 _ hA0
        have e3 : (8 : Int32) + 4 * (nI A.length - 1) + 2 = nI (8 + 4 * (A.length - 1 - 0) + 2) := by
          rw [show (1 : Int32) = nI 1 from rfl, pk_sub (by omega), show (8 : Int32) = nI 8 from rfl, show (4 : Int32) = nI 4 from rfl, pk_mul, show (2 : Int32) = nI 2 from rfl, nI_add, nI_add]
          congr 1
        have v2 : vp_in (nI (8 + 4 * (A.length - 1 - 0) + 2)) 430 := vp_in_nI (by omega) (by decide)
        have k2 : (nI (8 + 4 * (A.length - 1 - 0) + 2)).toNatClampNeg = 8 + 4 * (A.length - 1 - 0) + 2 := nI_clamp (by omega)
        replace r2 : f2' (8 + 4 * (A.length - 1 - 0) + 2) = ee.2.2.1 := r2
        rw [i3, ev] at r2
        have c3 : ¬ e.1 < 0 := Int32.not_lt.mpr (hI.lt40 e (List.mem_of_getElem? he)).2.2.2.2
        have c3' : 0 ≤ e.1 := (hI.lt40 e (List.mem_of_getElem? he)).2.2.2.2
        have vt : vp_in (nI t2) 12 := vp_in_nI ht2 (by decide)
        have kt : (nI t2).toNatClampNeg = t2 := nI_clamp (by omega)
        have hM2 := hM.other ⟨_, a2⟩ s2
        have hsm2 : rz_sm m (m + 9) hp h2 := hsm.tr (s2.wd (by omega) (by omega))
        have w1 : rz_OW f2' (rz_s1 ss e j) (5000 - 100 * (n + 1) + 41) := ⟨A, rd2, laid2, co2 + 1, tb2, w3⟩
        by_cases hd : ss.2.2.2.1 t2 = -5
        · rw [if_pos hd] at hso
          have fd : g' t2 = -5 := by rw [hg t2 ht2]; exact hd
          have a3' : rz_av (rz_pa h2 (m + 8) (upd g' t2 (nI a))) (m + 3) = some (0, 430, f2') := by rw [rz_av_pa, if_neg (by omega)]; exact a2
          have u0' : f2' 0 = nI a := by rw [u0, hfl, ek]
          have gco : rz_co (rz_pa h2 (m + 8) (upd g' t2 (nI a))) m = some 9 := by rw [rz_co_pa]; exact rz_co_fv g2
          have gf2 : rz_fv (rz_pa h2 (m + 8) (upd g' t2 (nI a))) m 9 2 = some (.ref (m + 3)) := by rw [rz_fv_pa]; exact g2
          have s3 : rz_sm (m + 8) (m + 9) h2 (rz_pa h2 (m + 8) (upd g' t2 (nI a))) := rz_sm_pa (by omega) (by omega)
          have a8' : rz_av (rz_pa h2 (m + 8) (upd g' t2 (nI a))) (m + 8) = some (0, 12, upd g' t2 (nI a)) := rz_avS b8
          have hM3 := hM2.far ⟨_, a8'⟩ s3
          have hle2 := rz_ds_le2 (rd := rd) hd ht2
          have htot := hrd.2
          simp only [↓ri_177_70, ↓ri_177_71, ↓ri_177_72, ↓ri_177_75, ↓ri_177_77, ↓ri_177_78, ↓ri_177_79, ↓ri_177_82, ↓ri_177_84, ↓ri_177_85, ↓ri_177_86, ↓ri_177_87, ↓ri_177_88, ↓ri_177_89, ↓ri_177_90, ↓ri_177_91, ↓ri_177_92, ↓ri_177_94, ↓ri_177_95, ↓ri_177_96, ↓ri_177_99, ↓ri_177_100, ↓ri_177_103, ↓ri_177_105, ↓ri_177_106, ↓ri_177_108, ↓ri_177_111, ↓ri_177_112, ↓ri_177_115, ↓ri_177_117, ↓ri_177_118, ↓ri_177_121, ↓ri_177_122, ↓ri_177_123, ↓ri_177_124, ↓ri_177_125, ↓ri_177_127, ↓ri_177_128, ↓ri_177_131, ↓ri_177_132, ↓ri_177_133, Option.some.injEq, Prod.mk.injEq, exists_eq_left', exists_eq', exists_and_left, exists_and_right, true_and, and_true, true_or, or_true, and_self, and_assoc, Option.toList_some, Option.toList_none, List.cons_append, List.nil_append, ↓reduceIte, rz_x01, rz_x10, g2, a2, rz_v7, rz_k7, rz_v0, rz_k0, l7, e3, v2, k2, r2, ↓if_neg c3, ↓if_pos c3', g14, b8, vt, kt, ↓if_pos fd, u0', gf2, a3', gco]
          refine m_M_roadsFrom (d := d + 1) (B := 5000 - 100 * (n + 1) + 41) (a := a) (ss := rz_s2 (rz_s1 ss e j) e.2.1 t2) hrd ht2 (by omega) (by
            show ¬ nI a < rz_reF ss.2.1 e
            rw [hfl, ek]; exact Int32.lt_irrefl) hI1 (by
            show ((rz_re ss.1 e).eraseIdx j).length + rz_od rd t2 12 ≤ 40
            omega) (by
            show ss.2.2.2.2.2.1 + rz_od rd t2 12 ≤ 41
            omega) hM3 hs a8' (fun i hi => ?_) a3' w1 (by omega) (fun h4 f4' a4 w4 s4 => ?_)
          · show upd g' t2 (nI a) i = upd ss.2.2.2.1 t2 e.2.1 i
            rw [ek]
            unfold upd
            split
            · rfl
            · exact hg i hi
          · rw [← ek, ← hso] at w4
            obtain ⟨lat5, rd5, laid5, co5, tb5, w5⟩ := w4
            simp only [↓ri_177_136, Option.some.injEq, Prod.mk.injEq, exists_eq_left', exists_eq', exists_and_left, exists_and_right, true_and, and_true, true_or, or_true, and_self, and_assoc, Option.toList_some, Option.toList_none, List.cons_append, List.nil_append, ↓reduceIte, rz_x01, rz_x10]
            refine ih (by omega) (rz_so rd ss) h4 f4' (upd g' t2 (nI a)) _ _ hJ2.1 hIG.1 hIG.2 (hM3.other ⟨_, a4⟩ s4) a4 ⟨lat5, rd5, laid5, co5, tb5, w5.mono (by omega)⟩ (by rw [s4.av (by omega)]; exact a8') (fun i hi => ?_) ((hsm2.tr (s3.wd (by omega) (by omega))).tr (s4.wd (by omega) (by omega))) kk1
            rw [hso, (rz_fo_ds rd t2 e.2.1 12 (rz_s2 (rz_s1 ss e j) e.2.1 t2)).1]
            show upd g' t2 (nI a) i = upd ss.2.2.2.1 t2 e.2.1 i
            rw [ek]
            unfold upd
            split
            · rfl
            · exact hg i hi
        · rw [if_neg hd] at hso
          have fd : ¬ g' t2 = -5 := by rw [hg t2 ht2]; exact hd
          simp only [↓ri_177_70, ↓ri_177_71, ↓ri_177_72, ↓ri_177_75, ↓ri_177_77, ↓ri_177_78, ↓ri_177_79, ↓ri_177_82, ↓ri_177_84, ↓ri_177_85, ↓ri_177_86, ↓ri_177_87, ↓ri_177_88, ↓ri_177_89, ↓ri_177_90, ↓ri_177_91, ↓ri_177_92, ↓ri_177_94, ↓ri_177_95, ↓ri_177_96, ↓ri_177_99, ↓ri_177_100, ↓ri_177_103, ↓ri_177_105, ↓ri_177_106, ↓ri_177_108, ↓ri_177_136, Option.some.injEq, Prod.mk.injEq, exists_eq_left', exists_eq', exists_and_left, exists_and_right, true_and, and_true, true_or, or_true, and_self, and_assoc, Option.toList_some, Option.toList_none, List.cons_append, List.nil_append, ↓reduceIte, rz_x01, rz_x10, g2, a2, rz_v7, rz_k7, l7, e3, v2, k2, r2, ↓if_neg c3, ↓if_pos c3', g14, b8, vt, kt, ↓if_neg fd]
          obtain ⟨lat5, rd5, laid5, co5, tb5, w5⟩ := w1
          refine ih (by omega) (rz_so rd ss) h2 f2' g' _ _ hJ2.1 hIG.1 hIG.2 hM2 a2 (by rw [hso]; exact ⟨lat5, rd5, laid5, co5, tb5, w5.mono (by omega)⟩) b8 (fun i hi => by rw [hso]; exact hg i hi) hsm2 kk1
  -- the rows are cleared
  obtain ⟨p0, p1, p2, ⟨fo, a3⟩, p4, p5, p6, p7, ⟨go, a8⟩⟩ := id h
  obtain ⟨f0, f1, f2, f3, f4, f5, f6, f7, f8, f9, f10, f11, f12, f13, f14⟩ := id p0
  have hI0 : rz_IE [] 0 0 := rz_IE.nil (c := 0) (n := 0) (by decide) (by decide)
  -- the distances are cleared, and the search begins
  have hF : ∀ n, n ≤ 12 → ∀ hp1 f' g', rz_MM m s hist shot tx ro re sp os B hp1 → rz_av hp1 (m + 3) = some (0, 430, f') → (∀ i, i < 430 → f' i = 0) → rz_av hp1 (m + 8) = some (0, 12, g') → (∀ i, i < n → g' i = -5) → rz_sm m (m + 9) hp hp1 → rz_ev (d + 5) 177 24 [some (.ref m), some (.int (nI t)), some (.int (nI n)), none, none] [] hp1 R := by
    refine rz_down 12 ?_ ?_
    · intro hp1 f' g' hM b3 hf b8 hg hsm
      have c1 : (12 : Int32) ≤ nI 12 := by decide
      obtain ⟨q0, q1, q2, -⟩ := id hM.1
      have w0 : rz_RW f' ([], 0, 0, [], fun _ => 0, 0, 0, 0, 0) 0 := ⟨0, [], Nat.le_refl _, ⟨hf 0 (by omega), hf 2 (by omega), hf 3 (by omega), hf 4 (by omega), hf 5 (by omega), hf 6 (by omega), ⟨by decide, hf 7 (by omega), fun i x hx => by simp at hx⟩, fun i hi => hf _ (by omega)⟩, ⟨by decide, hf 1 (by omega), fun i z hz => by simp at hz⟩, ⟨[], rfl, List.Perm.refl _, List.Pairwise.nil, fun y hy => absurd hy (List.not_mem_nil)⟩⟩
      rw [ri_177_24]
      simp only [↓ri_177_25, ↓ri_177_27, ↓ri_177_30, ↓ri_177_31, ↓ri_177_34, ↓ri_177_35, ↓ri_177_37, ↓ri_177_38, ↓ri_177_41, ↓ri_177_44, ↓ri_177_45, ↓ri_177_48, ↓ri_177_49, ↓ri_177_50, Option.some.injEq, Prod.mk.injEq, exists_eq_left', exists_eq', exists_and_left, exists_and_right, true_and, and_true, true_or, or_true, and_self, and_assoc, Option.toList_some, Option.toList_none, List.cons_append, List.nil_append, ↓reduceIte, rz_x01, rz_x10, ↓if_pos c1, q2]
      rw [← nI_0]
      refine m_M_comesInW (d := d + 2) (b := 0) b3 w0 hI0 (by decide) (by decide) (by decide) (fun h2 f2' a2 w2 s2 => ?_)
      simp only [↓ri_177_53, Option.some.injEq, Prod.mk.injEq, exists_eq_left', exists_eq', exists_and_left, exists_and_right, true_and, and_true, true_or, or_true, and_self, and_assoc, Option.toList_some, Option.toList_none, List.cons_append, List.nil_append, ↓reduceIte, rz_x01, rz_x10]
      refine hL 41 (Nat.le_refl _) (rz_s0 t) h2 f2' g' _ _ (rz_s0_J rd ht) ?_ ⟨?_, ?_⟩ (hM.other ⟨_, a2⟩ s2) a2 ⟨[], fun _ => 0, 0, 0, 0, w2.mono (by omega)⟩ (by rw [s2.av (by omega)]; exact b8) (fun i hi => hg i hi) (hsm.tr (s2.wd (by omega) (by omega))) kk
      · exact hI0.app (a := 0) (val := nI t) (mv := 0) (by decide) (by decide) (by decide)
      · show (0 : Int32) = nI (rz_dc (fun _ => -5) 12)
        decide
      · show (0 : Int32) = rz_gm (fun _ => -5) 12
        decide
    · intro n hn ih hp1 f' g' hM b3 hf b8 hg hsm
      have c1 : ¬ (12 : Int32) ≤ nI n := nI_ge (b := 12) hn (by decide)
      obtain ⟨q0, q1, q2, q3, q4, q5, q6, q7, q8, q9, q10, q11, q12, q13, q14⟩ := id hM.1
      have v3 : vp_in (nI n) 12 := vp_in_nI hn (by decide)
      have k3 : (nI n).toNatClampNeg = n := nI_clamp (by omega)
      have s3 : rz_sm (m + 8) (m + 9) hp1 (rz_pa hp1 (m + 8) (upd g' n (-5))) := rz_sm_pa (by omega) (by omega)
      rw [ri_177_24]
      simp only [↓ri_177_25, ↓ri_177_27, ↓ri_177_30, ↓ri_177_31, ↓ri_177_34, ↓ri_177_35, ↓ri_177_37, ↓ri_177_38, ↓ri_177_41, Option.some.injEq, Prod.mk.injEq, exists_eq_left', exists_eq', exists_and_left, exists_and_right, true_and, and_true, true_or, or_true, and_self, and_assoc, Option.toList_some, Option.toList_none, List.cons_append, List.nil_append, ↓reduceIte, rz_x01, rz_x10, ↓if_neg c1, q14, b8, v3, k3, nI_1]
      refine ih _ f' (upd g' n (-5)) (hM.far ⟨_, rz_avS b8⟩ s3) (by rw [s3.av (by omega)]; exact b3) hf (rz_avS b8) (fun i hi => ?_) (hsm.tr (s3.wd (by omega) (by omega)))
      by_cases q : i = n
      · subst q; exact pk_us
      · rw [pk_un q]; exact hg i (by omega)
  have hO : ∀ n, n ≤ 430 → ∀ hp1 f', rz_MM m s hist shot tx ro re sp os B hp1 → rz_av hp1 (m + 3) = some (0, 430, f') → (∀ i, i < n → f' i = 0) → rz_av hp1 (m + 8) = some (0, 12, go) → rz_sm m (m + 9) hp hp1 → rz_ev (d + 5) 177 2 [some (.ref m), some (.int (nI t)), some (.int (nI n)), none, none] [] hp1 R := by
    refine rz_down 430 ?_ ?_
    · intro hp1 f' hM b3 hf b8 hsm
      have c1 : (430 : Int32) ≤ nI 430 := by decide
      rw [ri_177_2]
      simp only [↓ri_177_3, ↓ri_177_6, ↓ri_177_9, ↓ri_177_10, ↓ri_177_13, ↓ri_177_14, ↓ri_177_15, ↓ri_177_16, ↓ri_177_19, ↓ri_177_22, ↓ri_177_23, Option.some.injEq, Prod.mk.injEq, exists_eq_left', exists_eq', exists_and_left, exists_and_right, true_and, and_true, true_or, or_true, and_self, and_assoc, Option.toList_some, Option.toList_none, List.cons_append, List.nil_append, ↓reduceIte, rz_x01, rz_x10, ↓if_pos c1]
      have := hF 0 (Nat.zero_le _) hp1 f' go hM b3 hf b8 (fun i hi => absurd hi (Nat.not_lt_zero _)) hsm
      rw [nI_0] at this
      exact this
    · intro n hn ih hp1 f' hM b3 hf b8 hsm
      have c1 : ¬ (430 : Int32) ≤ nI n := nI_ge (b := 430) hn (by decide)
      obtain ⟨q0, q1, q2, q3, q4, q5, q6, q7, q8, q9, q10, q11, q12, q13, q14⟩ := id hM.1
      have v3 : vp_in (nI n) 430 := vp_in_nI hn (by decide)
      have k3 : (nI n).toNatClampNeg = n := nI_clamp (by omega)
      have s3 : rz_sm (m + 3) (m + 4) hp1 (rz_pa hp1 (m + 3) (upd f' n 0)) := rz_sm_pa (by omega) (by omega)
      rw [ri_177_2]
      simp only [↓ri_177_3, ↓ri_177_6, ↓ri_177_9, ↓ri_177_10, ↓ri_177_13, ↓ri_177_14, ↓ri_177_15, ↓ri_177_16, ↓ri_177_19, Option.some.injEq, Prod.mk.injEq, exists_eq_left', exists_eq', exists_and_left, exists_and_right, true_and, and_true, true_or, or_true, and_self, and_assoc, Option.toList_some, Option.toList_none, List.cons_append, List.nil_append, ↓reduceIte, rz_x01, rz_x10, ↓if_neg c1, q2, b3, v3, k3, nI_1]
      refine ih _ (upd f' n 0) (hM.other ⟨_, rz_avS b3⟩ s3) (rz_avS b3) (fun i hi => ?_) (by rw [s3.av (by omega)]; exact b8) (hsm.tr (s3.wd (by omega) (by omega)))
      by_cases q : i = n
      · subst q; exact pk_us
      · rw [pk_un q]; exact hf i (by omega)
  have := hO 0 (Nat.zero_le _) hp fo h a3 (fun i hi => absurd hi (Nat.not_lt_zero _)) a8 rz_sm.rf
  rw [nI_0] at this
  simp only [↓ri_177_0, ↓ri_177_1]
  exact this
end RZMH
