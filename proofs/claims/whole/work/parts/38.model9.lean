/-! RisingPilesModel: what is told of the state -/
theorem rz_cnt_perm {D L : List rz_En} (h : D.Perm L) (p : Int32) : rz_cnt D p = rz_cnt L p := h.countP_eq _
theorem rz_min5 {c z a b : Int32} (ha : ¬ a = c) (hb : ¬ b = c) : (if (if z = c ∨ a < z then a else z) = c ∨ b < (if z = c ∨ a < z then a else z) then b else (if z = c ∨ a < z then a else z)) = (if (if z = c ∨ b < z then b else z) = c ∨ a < (if z = c ∨ b < z then b else z) then a else (if z = c ∨ b < z then b else z)) := by
  by_cases h1 : z = c ∨ a < z
  · by_cases h2 : z = c ∨ b < z
    · simp only [if_pos h1, ↓if_pos h2, ha, hb, false_or]
      by_cases h3 : b < a
      · rw [if_pos h3, if_neg (fun q => Int32.lt_irrefl (Int32.lt_trans q h3))]
      · rw [if_neg h3]
        by_cases h4 : a < b
        · rw [if_pos h4]
        · rw [if_neg h4]
          exact Int32.le_antisymm (Int32.not_lt.mp h3) (Int32.not_lt.mp h4)
    · have h5 : ¬ z = c := fun q => h2 (Or.inl q)
      have h6 : ¬ b < z := fun q => h2 (Or.inr q)
      have h7 : a < z := h1.resolve_left h5
      have h8 : ¬ b < a := fun q => h6 (Int32.lt_trans q h7)
      simp only [if_pos h1, ↓if_neg h2, ha, false_or, ↓if_neg h8]
  · have h5 : ¬ z = c := fun q => h1 (Or.inl q)
    have h6 : ¬ a < z := fun q => h1 (Or.inr q)
    by_cases h2 : z = c ∨ b < z
    · have h7 : b < z := h2.resolve_left h5
      have h8 : ¬ a < b := fun q => h6 (Int32.lt_trans q h7)
      simp only [if_neg h1, ↓if_pos h2, hb, false_or, ↓if_neg h8]
    · simp only [if_neg h1, ↓if_neg h2]
theorem rz_mk_perm {D L : List rz_En} (h : D.Perm L) (p : Int32) (hk : ∀ x ∈ L, ¬ x.2.1 = -5) : rz_mk D p = rz_mk L p := by
  refine h.foldl_eq' (fun x hx y hy z => ?_) (-5)
  have hx5 := hk x (h.mem_iff.mp hx)
  have hy5 := hk y (h.mem_iff.mp hy)
  unfold rz_mkS
  by_cases px : x.2.2.2.2 = p
  · by_cases py : y.2.2.2.2 = p
    · simp only [px, py, true_and]
      exact rz_min5 hx5 hy5
    · simp only [py, false_and, if_false]
  · simp only [px, false_and, if_false]
theorem rz_xk_perm {D L : List rz_En} (h : D.Perm L) (p : Int32) : rz_xk D p = rz_xk L p := by
  refine h.foldl_eq' (fun x hx y hy z => ?_) (-5)
  unfold rz_xkS
  by_cases px : x.2.2.2.2 = p
  · by_cases py : y.2.2.2.2 = p
    · simp only [if_pos px, ↓if_pos py]
      by_cases lx : z < x.2.1
      · by_cases ly : z < y.2.1
        · rw [if_pos lx, if_pos ly]
          by_cases l1 : x.2.1 < y.2.1
          · rw [if_pos l1, if_neg (fun q => Int32.lt_irrefl (Int32.lt_trans q l1))]
          · rw [if_neg l1]
            by_cases l2 : y.2.1 < x.2.1
            · rw [if_pos l2]
            · rw [if_neg l2]
              exact Int32.le_antisymm (Int32.not_lt.mp l2) (Int32.not_lt.mp l1)
        · rw [if_pos lx, if_neg ly, if_pos lx, if_neg (fun q => ly (Int32.lt_trans lx q))]
      · by_cases ly : z < y.2.1
        · rw [if_neg lx, if_pos ly, if_neg (fun q => lx (Int32.lt_trans ly q))]
        · rw [if_neg lx, if_neg ly, if_neg lx]
    · simp only [if_neg py]
  · simp only [if_neg px]
theorem rz_sp_perm {D L : List rz_En} (h : D.Perm L) : rz_sp D = rz_sp L := h.foldl_eq' (fun x hx y hy z => by rw [Int32.add_assoc, Int32.add_comm x.2.2.2.2, Int32.add_assoc]) 0
theorem rz_fr_some {L : List rz_En} {p : Int32} {j : Nat} {e : rz_En} (he : L[j]? = some e) (hp : e.2.2.2.2 = p) (hf : ∀ (i : Nat) (x : rz_En), i < j → L[i]? = some x → ¬ x.2.2.2.2 = p) : rz_fr L p = e.1 := by
  unfold rz_fr
  have : L.find? (fun e => decide (e.2.2.2.2 = p)) = some e := by
    rw [List.find?_eq_some_iff_getElem]
    obtain ⟨hj, hje⟩ := List.getElem?_eq_some_iff.mp he
    refine ⟨by simpa using hp, j, hj, hje, fun i hi => ?_⟩
    simpa using hf i L[i] hi (List.getElem?_eq_getElem (by omega))
  rw [this]
theorem rz_fr_ex {L : List rz_En} {p : Int32} : (rz_fr L p = -5 ∧ ∀ x ∈ L, ¬ x.2.2.2.2 = p) ∨ ∃ j e, L[j]? = some e ∧ e.2.2.2.2 = p ∧ (∀ (i : Nat) (x : rz_En), i < j → L[i]? = some x → ¬ x.2.2.2.2 = p) ∧ rz_fr L p = e.1 := by
  cases h : L.find? (fun e => decide (e.2.2.2.2 = p)) with
  | none =>
    left
    refine ⟨by unfold rz_fr; rw [h], fun x hx => ?_⟩
    have := List.find?_eq_none.mp h x hx
    simpa using this
  | some e =>
    right
    have h2 := h
    rw [List.find?_eq_some_iff_getElem] at h2
    obtain ⟨hp, j, hj, hje, hf⟩ := h2
    refine ⟨j, e, by rw [List.getElem?_eq_getElem hj, hje], by simpa using hp, fun i x hi hx => ?_, by unfold rz_fr; rw [h]⟩
    have h3 := hf i hi
    obtain ⟨hi2, ex⟩ := List.getElem?_eq_some_iff.mp hx
    rw [ex] at h3
    simpa using h3
theorem rz_fr_cnt {L : List rz_En} {p : Int32} (hn : ∀ x ∈ L, 0 ≤ x.1) : ¬ rz_fr L p = -5 ↔ 0 < rz_cnt L p := by
  have hc : 0 < rz_cnt L p ↔ ∃ x ∈ L, x.2.2.2.2 = p := by
    unfold rz_cnt
    rw [List.countP_pos_iff]
    simp
  rw [hc]
  rcases rz_fr_ex (L := L) (p := p) with ⟨h1, h2⟩ | ⟨j, e, he, hep, -, h3⟩
  · exact ⟨fun q => absurd h1 q, fun ⟨x, hx, hxp⟩ => absurd hxp (h2 x hx)⟩
  · have := hn e (List.mem_of_getElem? he)
    exact ⟨fun _ => ⟨e, List.mem_of_getElem? he, hep⟩, fun _ q => by rw [h3] at q; rw [q] at this; exact absurd this (by decide)⟩
/-- what comes out behind r others -/
def rz_it : Nat → rz_AS → Int32
  | 0, s => (rz_out_ s).1
  | r + 1, s => rz_it r (rz_out_ s).2
/-- the rank of an entry that stands between others -/
def rz_rD (A : List rz_En) (k : Int32) (T : List rz_En) : Nat := A.countP (fun x => decide (x.2.1 ≤ k)) + T.countP (fun x => decide (x.2.1 < k))
theorem rz_rk_rD {L : List rz_En} {j : Nat} {e : rz_En} (he : L[j]? = some e) : rz_rkL L j = rz_rD (L.take j) e.2.1 (L.drop (j + 1)) := by
  have hj := (List.getElem?_eq_some_iff.mp he).1
  unfold rz_rkL rz_rk rz_rD
  simp only [he]
  have h0 : L = L.take j ++ e :: L.drop (j + 1) := by
    rw [← (List.getElem?_eq_some_iff.mp he).2, List.getElem_cons_drop, List.take_append_drop]
  have hz : L.zipIdx.take L.length = L.zipIdx := List.take_of_length_le (by rw [List.length_zipIdx]; exact Nat.le_refl _)
  rw [hz]
  conv => lhs; rw [h0]
  rw [List.zipIdx_append, List.countP_append, List.zipIdx_cons, List.countP_cons]
  have hl : (L.take j).length = j := by rw [List.length_take]; omega
  have e1 : ∀ (M : List rz_En) (o : Nat), o + M.length ≤ j → (M.zipIdx o).countP (fun q => decide (q.1.2.1 < e.2.1 ∨ (q.1.2.1 = e.2.1 ∧ q.2 < j))) = M.countP (fun x => decide (x.2.1 ≤ e.2.1)) := by
    intro M
    induction M with
    | nil => intro o _; rfl
    | cons x M ih =>
      intro o ho
      rw [List.length_cons] at ho
      rw [List.zipIdx_cons, List.countP_cons, List.countP_cons, ih (o + 1) (by omega)]
      congr 1
      by_cases q : x.2.1 ≤ e.2.1
      · have q2 : x.2.1 < e.2.1 ∨ (x.2.1 = e.2.1 ∧ o < j) := by
          by_cases q3 : x.2.1 = e.2.1
          · exact Or.inr ⟨q3, by omega⟩
          · exact Or.inl (Int32.not_le.mp (fun q4 => q3 (Int32.le_antisymm q q4)))
        rw [if_pos (by simpa using q2), if_pos (by simpa using q)]
      · have q2 : ¬ (x.2.1 < e.2.1 ∨ (x.2.1 = e.2.1 ∧ o < j)) := fun q3 => q3.elim (fun q4 => q (Int32.le_of_lt q4)) (fun q4 => q (by rw [q4.1]; exact Int32.le_refl _))
        rw [if_neg (by simpa using q2), if_neg (by simpa using q)]
  have e2 : ∀ (M : List rz_En) (o : Nat), j ≤ o → (M.zipIdx o).countP (fun q => decide (q.1.2.1 < e.2.1 ∨ (q.1.2.1 = e.2.1 ∧ q.2 < j))) = M.countP (fun x => decide (x.2.1 < e.2.1)) := by
    intro M
    induction M with
    | nil => intro o _; rfl
    | cons x M ih =>
      intro o ho
      rw [List.zipIdx_cons, List.countP_cons, List.countP_cons, ih (o + 1) (by omega)]
      congr 1
      by_cases q : x.2.1 < e.2.1
      · rw [if_pos (by simpa using Or.inl q), if_pos (by simpa using q)]
      · have q2 : ¬ (x.2.1 < e.2.1 ∨ (x.2.1 = e.2.1 ∧ o < j)) := fun q3 => q3.elim q (fun q4 => absurd q4.2 (by omega))
        rw [if_neg (by simpa using q2), if_neg (by simpa using q)]
  rw [e1 _ 0 (by omega), e2 _ _ (by omega)]
  have e3 : ¬ (e.2.1 < e.2.1 ∨ (e.2.1 = e.2.1 ∧ 0 + (L.take j).length < j)) := fun q => q.elim Int32.lt_irrefl (fun q => absurd q.2 (by omega))
  rw [if_neg (by simpa using e3), Nat.add_zero]
theorem rz_re_g (L : List rz_En) (e : rz_En) : ∃ g : rz_En → rz_En, rz_re L e = L.map g ∧ ∀ x, (g x).2.1 = x.2.1 ∧ (g x).1 = x.1 := by
  unfold rz_re
  split
  · exact ⟨id, (List.map_id _).symm, fun x => ⟨rfl, rfl⟩⟩
  · exact ⟨rz_mo e.2.2.2.2 e.2.1, rfl, fun x => ⟨(rz_mo_key _ _ x).1, (rz_mo_key _ _ x).2.1⟩⟩
theorem rz_rD_map {A T : List rz_En} {k : Int32} {g : rz_En → rz_En} (hg : ∀ x, (g x).2.1 = x.2.1 ∧ (g x).1 = x.1) : rz_rD (A.map g) k (T.map g) = rz_rD A k T := by
  unfold rz_rD
  rw [List.countP_map, List.countP_map]
  congr 2
  · funext x; simp [(hg x).1]
  · funext x; simp [(hg x).1]
theorem rz_it_rD : ∀ (r : Nat) (s : rz_AS) (A : List rz_En) (e : rz_En) (T : List rz_En), s.1 = A ++ e :: T → rz_rD A e.2.1 T = r → rz_it r s = e.1 := by
  intro r
  induction r with
  | zero =>
    intro s A e T hs hr
    obtain ⟨L, fl, am, lat, rd, laid, ci, co, tb⟩ := s
    replace hs : L = A ++ e :: T := hs
    unfold rz_rD at hr
    have hA : A.countP (fun x => decide (x.2.1 ≤ e.2.1)) = 0 := by omega
    have hT : T.countP (fun x => decide (x.2.1 < e.2.1)) = 0 := by omega
    rw [List.countP_eq_zero] at hA hT
    have he : L[A.length]? = some e := by rw [hs, List.getElem?_append_right (Nat.le_refl _), Nat.sub_self]; rfl
    have hnx : rz_nx L A.length := by
      refine ⟨e, he, fun i x hx => ?_, fun i x hi hx => ?_⟩
      · have hm := List.mem_of_getElem? hx
        rw [hs] at hm
        rcases List.mem_append.mp hm with q | q
        · have := hA x q
          exact Int32.le_of_lt (Int32.not_le.mp (by simpa using this))
        · rcases List.mem_cons.mp q with q | q
          · rw [q]; exact Int32.le_refl _
          · have := hT x q
            exact Int32.not_lt.mp (by simpa using this)
      · rw [hs, List.getElem?_append_left hi] at hx
        have := hA x (List.mem_of_getElem? hx)
        exact Int32.not_le.mp (by simpa using this)
    cases hn : rz_nxf L with
    | none =>
      have := rz_nxf_none hn
      rw [this] at he
      cases he
    | some j =>
      have hj := rz_nx_one (rz_nxf_some hn) hnx
      subst hj
      obtain ⟨e1, he1, -⟩ := rz_re_at he
      show (rz_out_ (L, fl, am, lat, rd, laid, ci, co, tb)).1 = e.1
      rw [rz_out_eq hn he he1]
  | succ r ih =>
    intro s A e T hs hr
    obtain ⟨L, fl, am, lat, rd, laid, ci, co, tb⟩ := s
    replace hs : L = A ++ e :: T := hs
    have he : L[A.length]? = some e := by rw [hs, List.getElem?_append_right (Nat.le_refl _), Nat.sub_self]; rfl
    cases hn : rz_nxf L with
    | none =>
      have := rz_nxf_none hn
      rw [this] at he
      cases he
    | some j =>
      have hnx := rz_nxf_some hn
      obtain ⟨e0, he0, n1, n2⟩ := id hnx
      obtain ⟨e1, he1, -⟩ := rz_re_at he0
      obtain ⟨g, hg, hgk⟩ := rz_re_g L e0
      show rz_it r (rz_out_ (L, fl, am, lat, rd, laid, ci, co, tb)).2 = e.1
      rw [rz_out_eq hn he0 he1, ← (hgk e).2]
      have hk0 := n1 A.length e he
      rcases Nat.lt_trichotomy j A.length with q | q | q
      · -- ahead of it
        have hA0 : A[j]? = some e0 := by rw [hs, List.getElem?_append_left q] at he0; exact he0
        have hA : A = A.take j ++ e0 :: A.drop (j + 1) := by
          rw [← (List.getElem?_eq_some_iff.mp hA0).2, List.getElem_cons_drop, List.take_append_drop]
        refine ih _ ((A.take j ++ A.drop (j + 1)).map g) (g e) (T.map g) ?_ ?_
        · show (rz_re L e0).eraseIdx j = _
          rw [hg, hs, List.map_append, List.map_cons, List.eraseIdx_append_of_lt_length (by rw [List.length_map]; exact q), List.eraseIdx_eq_take_drop_succ, List.map_append, List.map_take, List.map_drop]
        · rw [(hgk e).1, rz_rD_map hgk]
          unfold rz_rD at hr ⊢
          rw [hA, List.countP_append, List.countP_cons, if_pos (by simpa using hk0)] at hr
          rw [List.countP_append]
          omega
      · -- itself
        exfalso
        rw [q, he] at he0
        cases he0
        unfold rz_rD at hr
        have hA : A.countP (fun x => decide (x.2.1 ≤ e.2.1)) = 0 := by
          rw [List.countP_eq_zero]
          intro x hx
          obtain ⟨i, hi⟩ := List.getElem?_of_mem hx
          have hil := (List.getElem?_eq_some_iff.mp hi).1
          have := n2 i x (by omega) (by rw [hs, List.getElem?_append_left hil]; exact hi)
          simpa using Int32.not_le.mpr this
        have hT : T.countP (fun x => decide (x.2.1 < e.2.1)) = 0 := by
          rw [List.countP_eq_zero]
          intro x hx
          obtain ⟨i, hi⟩ := List.getElem?_of_mem (show x ∈ L by rw [hs]; exact List.mem_append_right _ (List.mem_cons_of_mem _ hx))
          have := n1 i x hi
          simpa using Int32.not_lt.mpr this
        omega
      · -- behind it
        have hT0 : T[j - A.length - 1]? = some e0 := by
          rw [hs, List.getElem?_append_right (by omega)] at he0
          rw [show j - A.length = (j - A.length - 1) + 1 by omega, List.getElem?_cons_succ] at he0
          exact he0
        have hlt := n2 A.length e q he
        have hT : T = T.take (j - A.length - 1) ++ e0 :: T.drop (j - A.length - 1 + 1) := by
          rw [← (List.getElem?_eq_some_iff.mp hT0).2, List.getElem_cons_drop, List.take_append_drop]
        refine ih _ (A.map g) (g e) ((T.take (j - A.length - 1) ++ T.drop (j - A.length - 1 + 1)).map g) ?_ ?_
        · show (rz_re L e0).eraseIdx j = _
          rw [hg, hs, List.map_append, List.map_cons, List.eraseIdx_append_of_length_le (by rw [List.length_map]; omega), List.length_map, show j - A.length = (j - A.length - 1) + 1 by omega, List.eraseIdx_cons_succ, List.eraseIdx_eq_take_drop_succ, List.map_append, List.map_take, List.map_drop]
          congr 2
        · rw [(hgk e).1, rz_rD_map hgk]
          unfold rz_rD at hr ⊢
          rw [hT, List.countP_append, List.countP_cons, if_pos (by simpa using hlt)] at hr
          rw [List.countP_append]
          omega
theorem rz_rD_ex : ∀ (r : Nat) (L : List rz_En), r < L.length → ∃ A e T, L = A ++ e :: T ∧ rz_rD A e.2.1 T = r := by
  intro r
  induction r with
  | zero =>
    intro L hL
    obtain ⟨j, e, he, n1, n2⟩ := rz_nx_ex (L := L) (fun q => by rw [q] at hL; exact absurd hL (Nat.lt_irrefl _))
    have h0 : L = L.take j ++ e :: L.drop (j + 1) := by
      rw [← (List.getElem?_eq_some_iff.mp he).2, List.getElem_cons_drop, List.take_append_drop]
    refine ⟨_, e, _, h0, ?_⟩
    unfold rz_rD
    have hA : (L.take j).countP (fun x => decide (x.2.1 ≤ e.2.1)) = 0 := by
      rw [List.countP_eq_zero]
      intro x hx
      obtain ⟨i, hi⟩ := List.getElem?_of_mem hx
      have hil := (List.getElem?_eq_some_iff.mp hi).1
      rw [List.length_take] at hil
      have := n2 i x (by omega) (by rw [List.getElem?_take_of_lt (by omega)] at hi; exact hi)
      simpa using Int32.not_le.mpr this
    have hT : (L.drop (j + 1)).countP (fun x => decide (x.2.1 < e.2.1)) = 0 := by
      rw [List.countP_eq_zero]
      intro x hx
      obtain ⟨i, hi⟩ := List.getElem?_of_mem (List.mem_of_mem_drop hx)
      have := n1 i x hi
      simpa using Int32.not_lt.mpr this
    omega
  | succ r ih =>
    intro L hL
    obtain ⟨j, e0, he0, n1, n2⟩ := rz_nx_ex (L := L) (fun q => by rw [q] at hL; exact absurd hL (Nat.not_lt_zero _))
    have hj := (List.getElem?_eq_some_iff.mp he0).1
    have h0 : L = L.take j ++ e0 :: L.drop (j + 1) := by
      rw [← (List.getElem?_eq_some_iff.mp he0).2, List.getElem_cons_drop, List.take_append_drop]
    obtain ⟨A, e, T, h1, h2⟩ := ih (L.take j ++ L.drop (j + 1)) (by rw [List.length_append, List.length_take, List.length_drop]; omega)
    unfold rz_rD at h2
    have hke : e0.2.1 ≤ e.2.1 := by
      have hm : e ∈ L.take j ++ L.drop (j + 1) := by rw [h1]; exact List.mem_append_right _ (List.mem_cons_self)
      have hm2 : e ∈ L := by
        rcases List.mem_append.mp hm with q | q
        · exact List.mem_of_mem_take q
        · exact List.mem_of_mem_drop q
      obtain ⟨i, hi⟩ := List.getElem?_of_mem hm2
      exact n1 i e hi
    rcases List.append_eq_append_iff.mp h1 with ⟨c, q1, q2⟩ | ⟨c, q1, q2⟩
    · -- A = take ++ c, drop = c ++ e :: T
      refine ⟨L.take j ++ e0 :: c, e, T, by rw [List.append_assoc, List.cons_append, ← q2]; exact h0, ?_⟩
      unfold rz_rD
      rw [List.countP_append, List.countP_cons, if_pos (by simpa using hke)]
      rw [q1, List.countP_append] at h2
      omega
    · -- take = A ++ c, e :: T = c ++ drop
      cases c with
      | nil =>
        rw [List.nil_append] at q2
        rw [List.append_nil] at q1
        refine ⟨L.take j ++ [e0], e, T, by rw [List.append_assoc, List.singleton_append, q2]; exact h0, ?_⟩
        unfold rz_rD
        rw [List.countP_append, q1, List.countP_cons, if_pos (by simpa using hke)]
        simp only [List.countP_nil]
        omega
      | cons c0 c =>
        rw [List.cons_append] at q2
        obtain ⟨q3, q4⟩ := List.cons.inj q2
        subst q3
        have hlt : e0.2.1 < e.2.1 := by
          refine n2 A.length e ?_ ?_
          · have := congrArg List.length q1
            rw [List.length_take, List.length_append, List.length_cons] at this
            omega
          · have hA : (L.take j)[A.length]? = some e := by rw [q1, List.getElem?_append_right (Nat.le_refl _), Nat.sub_self]; rfl
            have hl := (List.getElem?_eq_some_iff.mp hA).1
            rw [List.length_take] at hl
            rw [List.getElem?_take_of_lt (by omega)] at hA
            exact hA
        refine ⟨A, e, c ++ e0 :: L.drop (j + 1), by rw [← List.cons_append, ← List.append_assoc, ← q1]; exact h0, ?_⟩
        unfold rz_rD
        rw [List.countP_append, List.countP_cons, if_pos (by simpa using hlt)]
        rw [q4, List.countP_append] at h2
        omega
theorem rz_ranked_it {s : rz_AS} {r : Nat} (hr : r < s.1.length) (h31 : r < 2 ^ 31) : rz_ranked_ s.1 (nI r) = rz_it r s := by
  unfold rz_ranked_
  rw [if_neg (nI_pos h31), nI_clamp h31]
  cases h : rz_rj s.1 r with
  | none =>
    exfalso
    obtain ⟨A, e, T, h1, h2⟩ := rz_rD_ex r s.1 hr
    have he : s.1[A.length]? = some e := by rw [h1, List.getElem?_append_right (Nat.le_refl _), Nat.sub_self]; rfl
    unfold rz_rj at h
    have h3 := List.find?_eq_none.mp h A.length (List.mem_range.mpr (List.getElem?_eq_some_iff.mp he).1)
    have h4 := rz_rk_rD he
    have h5 : s.1.take A.length = A := by rw [h1, List.take_left']; rfl
    have h6 : s.1.drop (A.length + 1) = T := by rw [h1, ← List.drop_drop, List.drop_left']; rfl; rfl
    rw [h5, h6, h2] at h4
    exact h3 (by simpa using h4)
  | some j =>
    unfold rz_rj at h
    have h3 := List.find?_some h
    have h4 := List.mem_range.mp (List.mem_of_find?_eq_some h)
    obtain ⟨e, he⟩ := rz_ge h4
    have h5 : rz_rkL s.1 j = r := by simpa using h3
    rw [rz_rk_rD he] at h5
    have hd : s.1.getD j (0, 0, 0, 0, 0) = e := by rw [List.getD_eq_getElem?_getD, he]; rfl
    show (s.1.getD j (0, 0, 0, 0, 0)).1 = _
    rw [hd]
    refine (rz_it_rD r s (s.1.take j) e (s.1.drop (j + 1)) ?_ h5).symm
    rw [← (List.getElem?_eq_some_iff.mp he).2, List.getElem_cons_drop, List.take_append_drop]
