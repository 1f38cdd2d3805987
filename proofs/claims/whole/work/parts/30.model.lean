/-! RisingPilesModel: the object -/
def rz_MF (m : Nat) (sv sh le ro re sp od : Int32) (hp : rz_Hp) : Prop := rz_fv hp m 9 0 = some (.ref (m + 1)) ∧ rz_fv hp m 9 1 = some (.ref (m + 2)) ∧ rz_fv hp m 9 2 = some (.ref (m + 3)) ∧ rz_fv hp m 9 3 = some (.ref (m + 4)) ∧ rz_fv hp m 9 4 = some (.int sv) ∧ rz_fv hp m 9 5 = some (.ref (m + 5)) ∧ rz_fv hp m 9 6 = some (.int sh) ∧ rz_fv hp m 9 7 = some (.ref (m + 6)) ∧ rz_fv hp m 9 8 = some (.int le) ∧ rz_fv hp m 9 9 = some (.int ro) ∧ rz_fv hp m 9 10 = some (.int re) ∧ rz_fv hp m 9 11 = some (.int sp) ∧ rz_fv hp m 9 12 = some (.ref (m + 7)) ∧ rz_fv hp m 9 13 = some (.int od) ∧ rz_fv hp m 9 14 = some (.ref (m + 8))
def rz_RO (a : Nat) (s : rz_AS) (B : Nat) (hp : rz_Hp) : Prop := ∃ f, rz_av hp a = some (0, 430, f) ∧ rz_RW f s B
def rz_AR (a n : Nat) (hp : rz_Hp) : Prop := ∃ f, rz_av hp a = some (0, n, f)
def rz_PT (a : Nat) (hist : List rz_AS) (B : Nat) (hp : rz_Hp) : Prop := hist.length ≤ 4 ∧ ∃ f, rz_av hp a = some (0, 1720, f) ∧ ∀ (i : Nat) (x : rz_AS), hist[i]? = some x → rz_RW (fun j => f (430 * i + j)) x B
def rz_SH (a : Nat) (shot : Option rz_AS) (B : Nat) (hp : rz_Hp) : Prop := ∃ f, rz_av hp a = some (0, 430, f) ∧ ∀ x, shot = some x → rz_RW f x B
def rz_MX (a : Nat) (tx : List Int32) (hp : rz_Hp) : Prop := tx.length ≤ 60 ∧ ∃ f, rz_av hp a = some (1, 60, f) ∧ ∀ (i : Nat) (c : Int32), tx[i]? = some c → f i = c
def rz_MO (a : Nat) (os : List rz_Or) (hp : rz_Hp) : Prop := os.length ≤ 32 ∧ ∃ f, rz_av hp a = some (0, 96, f) ∧ ∀ (i : Nat) (o : rz_Or), os[i]? = some o → f (3 * i) = o.1 ∧ f (3 * i + 1) = o.2.1 ∧ f (3 * i + 2) = o.2.2
def rz_shI : Option rz_AS → Int32
  | none => 0
  | some _ => 1
def rz_MM (m : Nat) (s : rz_AS) (hist : List rz_AS) (shot : Option rz_AS) (tx : List Int32) (ro re sp : Int32) (os : List rz_Or) (B : Nat) (hp : rz_Hp) : Prop := rz_MF m (nI hist.length) (rz_shI shot) (nI tx.length) ro re sp (nI os.length) hp ∧ rz_RO (m + 1) s B hp ∧ rz_AR (m + 2) 430 hp ∧ rz_AR (m + 3) 430 hp ∧ rz_PT (m + 4) hist B hp ∧ rz_SH (m + 5) shot B hp ∧ rz_MX (m + 6) tx hp ∧ rz_MO (m + 7) os hp ∧ rz_AR (m + 8) 12 hp
section RZM7
variable {d a m lo hi n : Nat} {f f2 g : Nat → Int32} {hp h1 : rz_Hp} {R : Option Value → rz_Hp → Prop} {s s2 x : rz_AS} {hist : List rz_AS} {shot : Option rz_AS} {tx : List Int32} {ro re sp sv sh le od : Int32} {os : List rz_Or} {B B2 : Nat}
theorem rz_MF.sm (h : rz_MF m sv sh le ro re sp od hp) (q : rz_sm lo hi hp h1) (hd : m < lo ∨ hi ≤ m) : rz_MF m sv sh le ro re sp od h1 := by
  unfold rz_MF at h ⊢
  simp only [q.fv hd]
  exact h
theorem rz_RO.sm (h : rz_RO a s B hp) (q : rz_sm lo hi hp h1) (hd : a < lo ∨ hi ≤ a) : rz_RO a s B h1 := by
  obtain ⟨f, h1, h2⟩ := h
  exact ⟨f, by rw [q.av hd]; exact h1, h2⟩
theorem rz_AR.sm (h : rz_AR a n hp) (q : rz_sm lo hi hp h1) (hd : a < lo ∨ hi ≤ a) : rz_AR a n h1 := by
  obtain ⟨f, h1⟩ := h
  exact ⟨f, by rw [q.av hd]; exact h1⟩
theorem rz_PT.sm (h : rz_PT a hist B hp) (q : rz_sm lo hi hp h1) (hd : a < lo ∨ hi ≤ a) : rz_PT a hist B h1 := by
  obtain ⟨h0, f, h1, h2⟩ := h
  exact ⟨h0, f, by rw [q.av hd]; exact h1, h2⟩
theorem rz_SH.sm (h : rz_SH a shot B hp) (q : rz_sm lo hi hp h1) (hd : a < lo ∨ hi ≤ a) : rz_SH a shot B h1 := by
  obtain ⟨f, h1, h2⟩ := h
  exact ⟨f, by rw [q.av hd]; exact h1, h2⟩
theorem rz_MX.sm (h : rz_MX a tx hp) (q : rz_sm lo hi hp h1) (hd : a < lo ∨ hi ≤ a) : rz_MX a tx h1 := by
  obtain ⟨h0, f, h1, h2⟩ := h
  exact ⟨h0, f, by rw [q.av hd]; exact h1, h2⟩
theorem rz_MO.sm (h : rz_MO a os hp) (q : rz_sm lo hi hp h1) (hd : a < lo ∨ hi ≤ a) : rz_MO a os h1 := by
  obtain ⟨h0, f, h1, h2⟩ := h
  exact ⟨h0, f, by rw [q.av hd]; exact h1, h2⟩
theorem rz_RO.mono (h : rz_RO a s B hp) (hB : B ≤ B2) : rz_RO a s B2 hp := by
  obtain ⟨f, h1, h2⟩ := h
  exact ⟨f, h1, h2.mono hB⟩
theorem rz_PT.mono (h : rz_PT a hist B hp) (hB : B ≤ B2) : rz_PT a hist B2 hp := by
  obtain ⟨h0, f, h1, h2⟩ := h
  exact ⟨h0, f, h1, fun i x hx => (h2 i x hx).mono hB⟩
theorem rz_SH.mono (h : rz_SH a shot B hp) (hB : B ≤ B2) : rz_SH a shot B2 hp := by
  obtain ⟨f, h1, h2⟩ := h
  exact ⟨f, h1, fun x hx => (h2 x hx).mono hB⟩
theorem rz_MM.mono (h : rz_MM m s hist shot tx ro re sp os B hp) (hB : B ≤ B2) : rz_MM m s hist shot tx ro re sp os B2 hp := by
  obtain ⟨h0, h1, h2, h3, h4, h5, h6, h7, h8⟩ := h
  exact ⟨h0, h1.mono hB, h2, h3, h4.mono hB, h5.mono hB, h6, h7, h8⟩
/-- another row -/
theorem rz_MM.row (h : rz_MM m s hist shot tx ro re sp os B hp) (hr : rz_RO (m + 1) s2 B2 h1) (hB : B ≤ B2) (q : rz_sm (m + 1) (m + 2) hp h1) : rz_MM m s2 hist shot tx ro re sp os B2 h1 := by
  obtain ⟨h0, h1, h2, h3, h4, h5, h6, h7, h8⟩ := h
  exact ⟨h0.sm q (by omega), hr, h2.sm q (by omega), h3.sm q (by omega), (h4.sm q (by omega)).mono hB, (h5.sm q (by omega)).mono hB, h6.sm q (by omega), h7.sm q (by omega), h8.sm q (by omega)⟩
theorem rz_MM.aside (h : rz_MM m s hist shot tx ro re sp os B hp) (hr : rz_AR (m + 2) 430 h1) (q : rz_sm (m + 2) (m + 3) hp h1) : rz_MM m s hist shot tx ro re sp os B h1 := by
  obtain ⟨h0, h1, h2, h3, h4, h5, h6, h7, h8⟩ := h
  exact ⟨h0.sm q (by omega), h1.sm q (by omega), hr, h3.sm q (by omega), h4.sm q (by omega), h5.sm q (by omega), h6.sm q (by omega), h7.sm q (by omega), h8.sm q (by omega)⟩
theorem rz_MM.other (h : rz_MM m s hist shot tx ro re sp os B hp) (hr : rz_AR (m + 3) 430 h1) (q : rz_sm (m + 3) (m + 4) hp h1) : rz_MM m s hist shot tx ro re sp os B h1 := by
  obtain ⟨h0, h1, h2, h3, h4, h5, h6, h7, h8⟩ := h
  exact ⟨h0.sm q (by omega), h1.sm q (by omega), h2.sm q (by omega), hr, h4.sm q (by omega), h5.sm q (by omega), h6.sm q (by omega), h7.sm q (by omega), h8.sm q (by omega)⟩
theorem rz_RW.ext (h : rz_RW f s B) (hg : ∀ j, j < 430 → g j = f j) : rz_RW g s B := by
  obtain ⟨L, fl, am, lat, rd, laid, ci, co, tb⟩ := s
  obtain ⟨S, Z, hS, ⟨q0, q2, q3, q4, q5, q6, q7, q8⟩, hZ, hY⟩ := h
  refine ⟨S, Z, hS, ⟨by rw [hg _ (by omega)]; exact q0, by rw [hg _ (by omega)]; exact q2, by rw [hg _ (by omega)]; exact q3, by rw [hg _ (by omega)]; exact q4, by rw [hg _ (by omega)]; exact q5, by rw [hg _ (by omega)]; exact q6, rz_la_hd q7 (fun j _ hj => hg j (by omega)), fun i hi => by rw [hg _ (by omega)]; exact q8 i hi⟩, ⟨hZ.1, by rw [hg _ (by omega)]; exact hZ.2.1, fun i z hz => ?_⟩, hY⟩
  have hi := Nat.lt_of_lt_of_le (List.getElem?_eq_some_iff.mp hz).1 hZ.1
  obtain ⟨g0, g1, g2, g3, g4, g5, g6⟩ := hZ.2.2 i z hz
  exact ⟨by rw [hg _ (by omega)]; exact g0, by rw [hg _ (by omega)]; exact g1, by rw [hg _ (by omega)]; exact g2, by rw [hg _ (by omega)]; exact g3, by rw [hg _ (by omega)]; exact g4, by rw [hg _ (by omega)]; exact g5, g6⟩
set_option maxHeartbeats 4000000 in
set_option maxRecDepth 100000 in
theorem m_M_lays {b n2 p q : Nat} {x y : Int32} (ha : rz_av hp a = some (0, n, f)) (hb : rz_av hp b = some (0, n2, g)) (hab : ¬ a = b) (hx : x = nI p) (hy : y = nI q) (hp1 : p + 430 ≤ n) (hq : q + 430 ≤ n2) (hn : n < 2 ^ 20) (hn2 : n2 < 2 ^ 20) (kk : ∀ hp', rz_av hp' b = some (0, n2, va_cpy f g p q 430) → rz_sm b (b + 1) hp hp' → R none hp') : rz_ev d 119 0 [some (.ref a), some (.int x), some (.ref b), some (.int y), none] [] hp R := by
  subst hx hy
  have hL : ∀ w, w ≤ 430 → ∀ hp1, rz_av hp1 b = some (0, n2, va_cpy f g p q w) → rz_sm b (b + 1) hp hp1 → rz_ev d 119 3 [some (.ref a), some (.int (nI p)), some (.ref b), some (.int (nI q)), some (.int (nI w))] [] hp1 R := by
    refine rz_down 430 ?_ ?_
    · intro hp1 a1 s1
      have c1 : (430 : Int32) ≤ nI 430 := by decide
      rw [ri_119_3]
      simp only [↓ri_119_5, ↓ri_119_8, ↓ri_119_11, ↓ri_119_12, ↓ri_119_13, ↓ri_119_15, ↓ri_119_16, ↓ri_119_17, ↓ri_119_18, ↓ri_119_20, ↓ri_119_21, ↓ri_119_22, ↓ri_119_23, ↓ri_119_26, ↓ri_119_29, Option.some.injEq, Prod.mk.injEq, exists_eq_left', exists_eq', exists_and_left, exists_and_right, true_and, and_true, true_or, or_true, and_self, and_assoc, Option.toList_some, Option.toList_none, List.cons_append, List.nil_append, ↓reduceIte, rz_x01, rz_x10, ↓if_pos c1]
      exact kk _ a1 s1
    · intro w hw ih hp1 a1 s1
      have c1 : ¬ (430 : Int32) ≤ nI w := nI_ge (b := 430) hw (by decide)
      have v2 : vp_in (nI (p + w)) n := vp_in_nI (by omega) (by omega)
      have k2 : (nI (p + w)).toNatClampNeg = p + w := nI_clamp (by omega)
      have v3 : vp_in (nI (q + w)) n2 := vp_in_nI (by omega) (by omega)
      have k3 : (nI (q + w)).toNatClampNeg = q + w := nI_clamp (by omega)
      have a2 : rz_av hp1 a = some (0, n, f) := by rw [s1.av (by omega)]; exact ha
      rw [ri_119_3]
      simp only [↓ri_119_5, ↓ri_119_8, ↓ri_119_11, ↓ri_119_12, ↓ri_119_13, ↓ri_119_15, ↓ri_119_16, ↓ri_119_17, ↓ri_119_18, ↓ri_119_20, ↓ri_119_21, ↓ri_119_22, ↓ri_119_23, ↓ri_119_26, Option.some.injEq, Prod.mk.injEq, exists_eq_left', exists_eq', exists_and_left, exists_and_right, true_and, and_true, true_or, or_true, and_self, and_assoc, Option.toList_some, Option.toList_none, List.cons_append, List.nil_append, ↓reduceIte, rz_x01, rz_x10, ↓if_neg c1, a1, a2, nI_add, v2, k2, v3, k3, nI_1]
      refine ih _ (rz_avS (f := va_cpy f g p q w) (g := va_cpy f g p q (w + 1)) a1 |> fun h => ?_) (s1.tr (rz_sm_pa (by omega) (by omega)))
      rw [show upd (va_cpy f g p q w) (q + w) (f (p + w)) = va_cpy f g p q (w + 1) by
        funext j
        by_cases h1 : j = q + w
        · subst h1
          rw [pk_us, pk_cpy_in (by omega) (by omega), show p + (q + w - q) = p + w by omega]
        · rw [pk_un h1]
          by_cases h2 : q ≤ j ∧ j < q + w
          · rw [pk_cpy_in h2.1 h2.2, pk_cpy_in h2.1 (by omega)]
          · rw [pk_cpy_out (by omega), pk_cpy_out (by omega)]]
      exact h
  have h0 := hL 0 (Nat.zero_le _) hp (by rw [show va_cpy f g p q 0 = g from funext fun j => pk_cpy_out (by omega)]; exact hb) rz_sm.rf
  rw [nI_0] at h0
  simp only [↓ri_119_0, ↓ri_119_1]
  exact h0
set_option maxHeartbeats 4000000 in
set_option maxRecDepth 100000 in
theorem m_M_recordsRow {q : Nat} (h : rz_MM m s hist shot tx ro re sp os B hp) (hq : rz_av hp q = some (0, 430, f)) (hqm : q = m + 1 ∨ q = m + 2) (hw : rz_RW f x B) (kk : ∀ hp', rz_MM m s (rz_rec hist x) shot tx ro re sp os B hp' → rz_sm m (m + 9) hp hp' → R none hp') : rz_ev (d + 1) 120 0 [some (.ref m), some (.ref q), none] [] hp R := by
  obtain ⟨p0, p1, p2, p3, p4, p5, p6, p7, p8⟩ := h
  obtain ⟨h4, fp, a4, w4⟩ := p4
  obtain ⟨f0, f1, f2, f3, f4, f5, f6, f7, f8, f9, f10, f11, f12, f13, f14⟩ := id p0
  -- the last steps, whatever the past held
  have hB : ∀ (hp1 : rz_Hp) (l2 : Option Value) (old : List rz_AS) (fp1 : Nat → Int32), old.length ≤ 3 → rz_MF m (nI old.length) (rz_shI shot) (nI tx.length) ro re sp (nI os.length) hp1 → rz_av hp1 (m + 4) = some (0, 1720, fp1) → (∀ (i : Nat) (x : rz_AS), old[i]? = some x → rz_RW (fun j => fp1 (430 * i + j)) x B) → rz_RO (m + 1) s B hp1 → rz_AR (m + 2) 430 hp1 → rz_AR (m + 3) 430 hp1 → rz_SH (m + 5) shot B hp1 → rz_MX (m + 6) tx hp1 → rz_MO (m + 7) os hp1 → rz_AR (m + 8) 12 hp1 → rz_av hp1 q = some (0, 430, f) → rz_sm m (m + 9) hp hp1 → old ++ [x] = rz_rec hist x → rz_ev (d + 1) 120 49 [some (.ref m), some (.ref q), l2] [] hp1 R := by
    intro hp1 l2 old fp1 ho k0 k4 kw k1 k2 k3 k5 k6 k7 k8 kq ks hrec
    obtain ⟨g0, g1, g2, g3, g4, g5, g6, g7, g8, g9, g10, g11, g12, g13, g14⟩ := id k0
    have e1 : (430 : Int32) * nI old.length = nI (430 * old.length) := pk_mul 430 old.length
    simp only [↓ri_120_49, ↓ri_120_50, ↓ri_120_51, ↓ri_120_52, ↓ri_120_55, ↓ri_120_58, ↓ri_120_59, ↓ri_120_62, ↓ri_120_63, Option.some.injEq, Prod.mk.injEq, exists_eq_left', exists_eq', exists_and_left, exists_and_right, true_and, and_true, true_or, or_true, and_self, and_assoc, Option.toList_some, Option.toList_none, List.cons_append, List.nil_append, ↓reduceIte, rz_x01, rz_x10, g3, g4, e1]
    refine m_M_lays (d := d) (p := 0) kq k4 (by omega) rfl rfl (by omega) (by omega) (by decide) (by decide) (fun h2 a2 s2 => ?_)
    have g4' : rz_fv h2 m 9 4 = some (.int (nI old.length)) := by rw [s2.fv (by omega)]; exact g4
    simp only [↓ri_120_66, ↓ri_120_67, ↓ri_120_68, ↓ri_120_71, ↓ri_120_72, ↓ri_120_73, ↓ri_120_76, Option.some.injEq, Prod.mk.injEq, exists_eq_left', exists_eq', exists_and_left, exists_and_right, true_and, and_true, true_or, or_true, and_self, and_assoc, Option.toList_some, Option.toList_none, List.cons_append, List.nil_append, ↓reduceIte, rz_x01, rz_x10, g4', nI_1]
    have s3 : rz_sm m (m + 1) h2 (rz_pf h2 m 4 (.int (nI (old.length + 1)))) := rz_sm_pf (by omega) (by omega)
    have k0' := k0.sm s2 (by omega)
    obtain ⟨g0, g1, g2, g3, g4, g5, g6, g7, g8, g9, g10, g11, g12, g13, g14⟩ := id k0'
    refine kk _ ?_ (ks.tr ((s2.wd (by omega) (by omega)).tr (s3.wd (by omega) (by omega))))
    rw [← hrec]
    refine ⟨?_, (k1.sm s2 (by omega)).sm s3 (by omega), (k2.sm s2 (by omega)).sm s3 (by omega), (k3.sm s2 (by omega)).sm s3 (by omega), ⟨by rw [List.length_append]; exact Nat.succ_le_succ ho, _, by rw [s3.av (by omega)]; exact a2, fun i y hy => ?_⟩, (k5.sm s2 (by omega)).sm s3 (by omega), (k6.sm s2 (by omega)).sm s3 (by omega), (k7.sm s2 (by omega)).sm s3 (by omega), (k8.sm s2 (by omega)).sm s3 (by omega)⟩
    · rw [List.length_append]
      simp only [rz_MF, rz_fv_pf, rz_av_pf, rz_qv_pf, rz_ln_pf, rz_co_pf, rz_fv_pa, rz_av_pa, rz_qv_pa, rz_ln_pa, rz_co_pa, rz_fv_pq, rz_av_pq, rz_qv_pq, rz_ln_pq, rz_co_pq, Nat.reduceEqDiff, Nat.add_eq_left, Nat.left_eq_add, Nat.one_ne_zero, Option.map_some, exists_const, Option.some.injEq, Prod.mk.injEq, exists_eq_left', exists_eq', exists_and_left, exists_and_right, true_and, and_true, true_or, or_true, and_self, and_assoc, Option.toList_some, Option.toList_none, List.cons_append, List.nil_append, ↓reduceIte, rz_x01, rz_x10, g0, g1, g2, g3, g4, g5, g6, g7, g8, g9, g10, g11, g12, g13, g14, List.length_singleton]
    · by_cases hi : i < old.length
      · rw [List.getElem?_append_left hi] at hy
        exact (kw i y hy).ext (fun j hj => by rw [pk_cpy_out (by omega)])
      · have hl := (List.getElem?_eq_some_iff.mp hy).1
        rw [List.length_append, List.length_singleton] at hl
        have hi2 : i = old.length := by omega
        subst hi2
        rw [List.getElem?_append_right (Nat.le_refl _), Nat.sub_self] at hy
        cases hy
        exact hw.ext (fun j hj => by rw [pk_cpy_in (by omega) (by omega)]; congr 1; omega)
  by_cases h4n : hist.length < 4
  · have c1 : ¬ nI hist.length = 4 := fun q => absurd ((nI_eq (b := 4) (by omega) (by decide)).mp q) (by omega)
    simp only [↓ri_120_0, ↓ri_120_1, ↓ri_120_4, ↓ri_120_5, Option.some.injEq, Prod.mk.injEq, exists_eq_left', exists_eq', exists_and_left, exists_and_right, true_and, and_true, true_or, or_true, and_self, and_assoc, Option.toList_some, Option.toList_none, List.cons_append, List.nil_append, ↓reduceIte, rz_x01, rz_x10, f4, ↓if_neg c1]
    exact hB hp none hist fp (by omega) p0 a4 w4 p1 p2 p3 p5 p6 p7 p8 hq rz_sm.rf (by unfold rz_rec; rw [if_pos h4n])
  · have h44 : hist.length = 4 := by omega
    have c1 : nI hist.length = 4 := by rw [h44]; rfl
    have hL : ∀ w, w ≤ 1290 → ∀ hp1, rz_av hp1 (m + 4) = some (0, 1720, va_cpy fp fp 430 0 w) → rz_sm (m + 4) (m + 5) hp hp1 → rz_ev (d + 1) 120 10 [some (.ref m), some (.ref q), some (.int (nI w))] [] hp1 R := by
      refine rz_down 1290 ?_ ?_
      · intro hp1 a1 s1
        have c1 : (1290 : Int32) ≤ nI 1290 := by decide
        have g4' : rz_fv hp1 m 9 4 = some (.int (nI hist.length)) := by rw [s1.fv (by omega)]; exact f4
        have e1 : nI hist.length - 1 = nI 3 := by rw [h44]; rfl
        rw [ri_120_10]
        simp only [↓ri_120_11, ↓ri_120_14, ↓ri_120_39, ↓ri_120_40, ↓ri_120_41, ↓ri_120_44, ↓ri_120_45, ↓ri_120_46, Option.some.injEq, Prod.mk.injEq, exists_eq_left', exists_eq', exists_and_left, exists_and_right, true_and, and_true, true_or, or_true, and_self, and_assoc, Option.toList_some, Option.toList_none, List.cons_append, List.nil_append, ↓reduceIte, rz_x01, rz_x10, ↓if_pos c1, g4', e1]
        have s3 : rz_sm m (m + 1) hp1 (rz_pf hp1 m 4 (.int (nI 3))) := rz_sm_pf (by omega) (by omega)
        have k0' := p0.sm s1 (by omega)
        obtain ⟨g0, g1, g2, g3, g4, g5, g6, g7, g8, g9, g10, g11, g12, g13, g14⟩ := id k0'
        have ht3 : hist.tail.length = 3 := by rw [List.length_tail, h44]
        refine hB _ _ hist.tail (va_cpy fp fp 430 0 1290) (by omega) ?_ (by rw [s3.av (by omega)]; exact a1) (fun i y hy => ?_) ((p1.sm s1 (by omega)).sm s3 (by omega)) ((p2.sm s1 (by omega)).sm s3 (by omega)) ((p3.sm s1 (by omega)).sm s3 (by omega)) ((p5.sm s1 (by omega)).sm s3 (by omega)) ((p6.sm s1 (by omega)).sm s3 (by omega)) ((p7.sm s1 (by omega)).sm s3 (by omega)) ((p8.sm s1 (by omega)).sm s3 (by omega)) (by rw [s3.av (by omega), s1.av (by omega)]; exact hq) ((s1.wd (by omega) (by omega)).tr (s3.wd (by omega) (by omega))) (by unfold rz_rec; rw [if_neg h4n])
        · rw [ht3]
          simp only [rz_MF, rz_fv_pf, rz_av_pf, rz_qv_pf, rz_ln_pf, rz_co_pf, rz_fv_pa, rz_av_pa, rz_qv_pa, rz_ln_pa, rz_co_pa, rz_fv_pq, rz_av_pq, rz_qv_pq, rz_ln_pq, rz_co_pq, Nat.reduceEqDiff, Nat.add_eq_left, Nat.left_eq_add, Nat.one_ne_zero, Option.map_some, exists_const, Option.some.injEq, Prod.mk.injEq, exists_eq_left', exists_eq', exists_and_left, exists_and_right, true_and, and_true, true_or, or_true, and_self, and_assoc, Option.toList_some, Option.toList_none, List.cons_append, List.nil_append, ↓reduceIte, rz_x01, rz_x10, g0, g1, g2, g3, g4, g5, g6, g7, g8, g9, g10, g11, g12, g13, g14]
        · have hi := (List.getElem?_eq_some_iff.mp hy).1
          rw [List.getElem?_tail] at hy
          exact (w4 (i + 1) y hy).ext (fun j hj => by rw [pk_cpy_in (by omega) (by omega)]; congr 1; omega)
      · intro w hw ih hp1 a1 s1
        have c1 : ¬ (1290 : Int32) ≤ nI w := nI_ge (b := 1290) hw (by decide)
        have f3' : rz_fv hp1 m 9 3 = some (.ref (m + 4)) := by rw [s1.fv (by omega)]; exact f3
        have e3 : nI w + (430 : Int32) = nI (430 + w) := by rw [show (430 : Int32) = nI 430 from rfl, nI_add, Nat.add_comm]
        have v2 : vp_in (nI w) 1720 := vp_in_nI (by omega) (by decide)
        have k2 : (nI w).toNatClampNeg = w := nI_clamp (by omega)
        have v3 : vp_in (nI (430 + w)) 1720 := vp_in_nI (by omega) (by decide)
        have k3 : (nI (430 + w)).toNatClampNeg = 430 + w := nI_clamp (by omega)
        have hst : upd (va_cpy fp fp 430 0 w) w (va_cpy fp fp 430 0 w (430 + w)) = va_cpy fp fp 430 0 (w + 1) := by
          have := rz_cpStep (f := fp) (dst := 0) (src := 430) (n := w) (by omega)
          rwa [Nat.zero_add] at this
        rw [ri_120_10]
        simp only [↓ri_120_11, ↓ri_120_14, ↓ri_120_17, ↓ri_120_18, ↓ri_120_21, ↓ri_120_22, ↓ri_120_23, ↓ri_120_26, ↓ri_120_27, ↓ri_120_30, ↓ri_120_31, ↓ri_120_32, ↓ri_120_33, ↓ri_120_36, Option.some.injEq, Prod.mk.injEq, exists_eq_left', exists_eq', exists_and_left, exists_and_right, true_and, and_true, true_or, or_true, and_self, and_assoc, Option.toList_some, Option.toList_none, List.cons_append, List.nil_append, ↓reduceIte, rz_x01, rz_x10, ↓if_neg c1, f3', a1, e3, v2, k2, v3, k3, nI_1, hst]
        exact ih _ (rz_avS a1) (s1.tr (rz_sm_pa (by omega) (by omega)))
    have h0 := hL 0 (Nat.zero_le _) hp (by rw [rz_cpNil]; exact a4) rz_sm.rf
    rw [nI_0] at h0
    simp only [↓ri_120_0, ↓ri_120_1, ↓ri_120_4, ↓ri_120_5, ↓ri_120_8, ↓ri_120_9, Option.some.injEq, Prod.mk.injEq, exists_eq_left', exists_eq', exists_and_left, exists_and_right, true_and, and_true, true_or, or_true, and_self, and_assoc, Option.toList_some, Option.toList_none, List.cons_append, List.nil_append, ↓reduceIte, rz_x01, rz_x10, f4, ↓if_pos c1]
    exact h0
set_option maxHeartbeats 4000000 in
set_option maxRecDepth 100000 in
theorem m_M_records (h : rz_MM m s hist shot tx ro re sp os B hp) (kk : ∀ hp', rz_MM m s (rz_rec hist s) shot tx ro re sp os B hp' → rz_sm m (m + 9) hp hp' → R none hp') : rz_ev (d + 2) 121 0 [some (.ref m)] [] hp R := by
  obtain ⟨⟨f0, -⟩, ⟨f, a1, w1⟩, -⟩ := id h
  simp only [↓ri_121_0, ↓ri_121_1, ↓ri_121_2, ↓ri_121_5, Option.some.injEq, Prod.mk.injEq, exists_eq_left', exists_eq', exists_and_left, exists_and_right, true_and, and_true, true_or, or_true, and_self, and_assoc, Option.toList_some, Option.toList_none, List.cons_append, List.nil_append, ↓reduceIte, rz_x01, rz_x10, f0, rz_co_fv f0]
  refine m_M_recordsRow (d := d) h a1 (Or.inl rfl) w1 (fun h2 k2 s2 => ?_)
  simp only [↓ri_121_8, Option.some.injEq, Prod.mk.injEq, exists_eq_left', exists_eq', exists_and_left, exists_and_right, true_and, and_true, true_or, or_true, and_self, and_assoc, Option.toList_some, Option.toList_none, List.cons_append, List.nil_append, ↓reduceIte, rz_x01, rz_x10]
  exact kk _ k2 s2
end RZM7
