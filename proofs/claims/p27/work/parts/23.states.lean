/-! What holds of the states that calls lead to (rows of whole, as they stood there) -/
section PK
variable {d a i w : Nat} {f : Nat → Int32} {x v : Int32} {hp : rz_Hp} {R : Option Value → rz_Hp → Prop}
abbrev rz_Zt : Type := rz_En × Nat
end PK
theorem rz_x0 {a b : Nat} : a ^^^ b = 0 ↔ a = b := by
  constructor
  · intro h
    have : a ^^^ (a ^^^ b) = a := by rw [h, Nat.xor_zero]
    rw [← Nat.xor_assoc, Nat.xor_self, Nat.zero_xor] at this
    exact this.symm
  · rintro rfl; exact Nat.xor_self a
theorem rz_bx {a b k : Nat} : rz_bl (a ^^^ b) ≤ k ↔ a / 2 ^ k = b / 2 ^ k := by
  rw [rz_bl_le, ← rz_x0 (a := a / 2 ^ k), ← Nat.xor_div_two_pow]
  exact ⟨fun h => Nat.div_eq_of_lt h, fun h => (Nat.div_eq_zero_iff.mp h).resolve_left (Nat.ne_of_gt (Nat.pow_pos (by decide)))⟩
theorem rz_bmono {c a b : Nat} (h1 : c ≤ a) (h2 : a ≤ b) : rz_bl (a ^^^ c) ≤ rz_bl (b ^^^ c) := by
  have h := rz_bx.mp (Nat.le_refl (rz_bl (b ^^^ c)))
  refine rz_bx.mpr (Nat.le_antisymm ?_ ?_)
  · rw [← h]; exact Nat.div_le_div_right h2
  · exact Nat.div_le_div_right h1
theorem rz_bhigh {c m x : Nat} (h : rz_bl (m ^^^ c) < rz_bl (x ^^^ c)) : rz_bl (x ^^^ m) = rz_bl (x ^^^ c) := by
  have hk : ∀ k, rz_bl (m ^^^ c) ≤ k → (rz_bl (x ^^^ m) ≤ k ↔ rz_bl (x ^^^ c) ≤ k) := by
    intro k hk
    rw [rz_bx, rz_bx, rz_bx.mp hk]
  have h1 := (hk _ (Nat.le_of_lt h)).mpr (Nat.le_refl _)
  have h2 := (hk (rz_bl (x ^^^ c) - 1) (by omega)).mp
  omega
theorem rz_plN {a c : Nat} (ha : a < 65536) (hc : c < 65536) : rz_pl (nI c) (nI a) = nI (rz_bl (a ^^^ c)) := by
  unfold rz_pl
  rw [nI_clamp (by omega), nI_clamp (by omega)]
def rz_IE (L : List rz_En) (fl ci : Int32) : Prop := (∃ c n : Nat, c < 65536 ∧ fl = nI c ∧ n ≤ 1000 ∧ ci = nI n ∧ ∀ x ∈ L, ∃ a m : Nat, c ≤ a ∧ a < 65536 ∧ x.2.1 = nI a ∧ x.2.2.2.2 = nI (rz_bl (a ^^^ c)) ∧ m < n ∧ x.1 = nI m) ∧ L.Pairwise (fun x y => ¬ x.1 = y.1)
theorem rz_IE.kr {L : List rz_En} {fl ci : Int32} (h : rz_IE L fl ci) : rz_kr L := by
  obtain ⟨⟨c, n, hc, -, -, -, hx⟩, -⟩ := h
  intro x hxL
  obtain ⟨a, m, -, ha, hk, -⟩ := hx x hxL
  exact ⟨a, ha, hk⟩
theorem rz_IE.nil {c : Nat} (h : c < 65536) {n : Nat} (hn : n ≤ 1000) : rz_IE [] (nI c) (nI n) := ⟨⟨c, n, h, rfl, hn, rfl, fun x hx => absurd hx (List.not_mem_nil)⟩, List.Pairwise.nil⟩
theorem rz_IE.sub {L L2 : List rz_En} {fl ci : Int32} (h : rz_IE L fl ci) (s : L2.Sublist L) : rz_IE L2 fl ci := by
  obtain ⟨⟨c, n, hc, hf, hn, hci, hx⟩, hp⟩ := h
  exact ⟨⟨c, n, hc, hf, hn, hci, fun x hxL => hx x (s.subset hxL)⟩, hp.sublist s⟩
theorem rz_IE.app {L : List rz_En} {fl ci : Int32} {a : Nat} {val mv : Int32} (h : rz_IE L fl ci) (ha : a < 65536) (hf : ¬ nI a < fl) (hci : ci < 1000) : rz_IE (L ++ [(ci, nI a, val, mv, rz_pl fl (nI a))]) fl (ci + 1) := by
  obtain ⟨⟨c, n, hc, rfl, hn, rfl, hx⟩, hp⟩ := h
  have hn1 : n < 1000 := (nI_ltI (by omega) (by decide)).mp hci
  have hca : c ≤ a := Nat.not_lt.mp (fun q => hf (nI_lt q (by omega)))
  refine ⟨⟨c, n + 1, hc, rfl, by omega, nI_1 n, fun x hxL => ?_⟩, List.pairwise_append.mpr ⟨hp, List.pairwise_singleton _ _, fun x hxL y hy => ?_⟩⟩
  · rcases List.mem_append.mp hxL with q | q
    · obtain ⟨a, m, h1, h2, h3, h4, h5, h6⟩ := hx x q
      exact ⟨a, m, h1, h2, h3, h4, by omega, h6⟩
    · rw [List.mem_singleton] at q
      subst q
      exact ⟨a, n, hca, ha, rfl, rz_plN ha hc, by omega, rfl⟩
  · rw [List.mem_singleton] at hy
    subst hy
    obtain ⟨a, m, h1, h2, h3, h4, h5, h6⟩ := hx x hxL
    rw [h6]
    exact fun q => absurd ((nI_eq (by omega) (by omega)).mp q) (by omega)
theorem rz_IE.low {L : List rz_En} {fl ci : Int32} {j : Nat} {e : rz_En} (h : rz_IE L fl ci) (hn : rz_nx L j) (he : L[j]? = some e) : ∃ c m : Nat, c ≤ m ∧ c < 65536 ∧ m < 65536 ∧ fl = nI c ∧ e.2.1 = nI m ∧ e.2.2.2.2 = nI (rz_bl (m ^^^ c)) ∧ ∀ x ∈ L, ∃ a : Nat, m ≤ a ∧ a < 65536 ∧ x.2.1 = nI a ∧ x.2.2.2.2 = nI (rz_bl (a ^^^ c)) ∧ rz_bl (m ^^^ c) ≤ rz_bl (a ^^^ c) := by
  obtain ⟨⟨c, n, hc, hf, hn', hci, hx⟩, hp⟩ := h
  obtain ⟨e', he', h1, -⟩ := hn
  rw [he] at he'
  cases he'
  obtain ⟨m, k, a1, a2, a3, a4, a5, a6⟩ := hx e (List.mem_of_getElem? he)
  refine ⟨c, m, a1, hc, a2, hf, a3, a4, fun x hxL => ?_⟩
  obtain ⟨a, k2, b1, b2, b3, b4, b5, b6⟩ := hx x hxL
  obtain ⟨i, hi⟩ := List.getElem?_of_mem hxL
  have h2 := h1 i x hi
  rw [a3, b3] at h2
  have hma : m ≤ a := (nI_leI (by omega) (by omega)).mp h2
  exact ⟨a, hma, b2, b3, b4, rz_bmono a1 hma⟩
theorem rz_IE.re {L : List rz_En} {fl ci : Int32} {j : Nat} {e : rz_En} (h : rz_IE L fl ci) (hn : rz_nx L j) (he : L[j]? = some e) : rz_IE (rz_re L e) (rz_reF fl e) ci := by
  unfold rz_re rz_reF
  by_cases h0 : e.2.2.2.2 = 0
  · rw [if_pos h0, if_pos h0]; exact h
  · rw [if_neg h0, if_neg h0]
    obtain ⟨c, m, g0, g1, g2, g3, g4, g5, g6⟩ := h.low hn he
    obtain ⟨⟨c', n, hc', hf', hn', hci, hx⟩, hp⟩ := h
    refine ⟨⟨m, n, g2, g4, hn', hci, fun x hxL => ?_⟩, ?_⟩
    · obtain ⟨y, hy, rfl⟩ := List.mem_map.mp hxL
      obtain ⟨k1, k2, k3⟩ := rz_mo_key e.2.2.2.2 e.2.1 y
      obtain ⟨a, b1, b2, b3, b4, b5⟩ := g6 y hy
      obtain ⟨a', m', q1, q2, q3, q4, q5, q6⟩ := hx y hy
      refine ⟨a, m', b1, b2, by rw [k1]; exact b3, ?_, q5, by rw [k2]; exact q6⟩
      unfold rz_mo
      by_cases hp1 : y.2.2.2.2 = e.2.2.2.2
      · rw [if_pos hp1, b3, g4]
        exact rz_plN b2 g2
      · rw [if_neg hp1, b4, rz_bhigh (Nat.lt_of_le_of_ne b5 (fun q => hp1 (by rw [b4, g5, q])))]
    · rw [List.pairwise_map]
      refine hp.imp (fun {x y} hxy => ?_)
      rw [(rz_mo_key _ _ x).2.1, (rz_mo_key _ _ y).2.1]
      exact hxy
section PK
variable {d a : Nat} {f f2 : Nat → Int32} {hp : rz_Hp} {R : Option Value → rz_Hp → Prop} {Z : List rz_Zt}
theorem rz_avS {n : Nat} {f g : Nat → Int32} (h : rz_av hp a = some (0, n, f)) : rz_av (rz_pa hp a g) a = some (0, n, g) := by rw [rz_av_pa, if_pos rfl, h]; rfl
end PK
theorem rz_er_perm {α : Type} {Z : List α} {i : Nat} {y : α} (h : Z[i]? = some y) : (y :: Z.eraseIdx i).Perm Z := by
  have hi := (List.getElem?_eq_some_iff.mp h).1
  have hy := (List.getElem?_eq_some_iff.mp h).2
  rw [List.eraseIdx_eq_take_drop_succ]
  refine List.perm_middle.symm.trans (List.Perm.of_eq ?_)
  rw [← hy, List.getElem_cons_drop, List.take_append_drop]
def rz_IV : rz_AS → Prop := fun (L, fl, _, _, rd, laid, ci, _, _) => rz_IE L fl ci ∧ L.length ≤ 40 ∧ rz_rdo rd ∧ laid = nI (rz_tot rd)
noncomputable def rz_mayI : rz_AS → Int32 → Int32 → Int32 := haveI : (p : Prop) → Decidable p := Classical.propDecidable; fun (L, fl, _, _, _, _, ci, _, _) key val =>
  if ¬ rz_key key ∨ val < 0 ∨ 999 < val then -2 else if key < fl then -4 else if ¬ L.length < 40 ∨ 1000 ≤ ci then -3 else 0
theorem rz_IV.I0 {s : rz_AS} (h : rz_IV s) : rz_I0 s := by
  obtain ⟨L, fl, am, lat, rd, laid, ci, co, tb⟩ := s
  refine ⟨h.1.kr, ?_⟩
  obtain ⟨⟨c, n, hc, hf, -⟩, -⟩ := h.1
  exact ⟨c, hc, hf⟩
theorem rz_in_may {s : rz_AS} {key val : Int32} (h : rz_mayI s key val < 0) : rz_in_ s key val = (rz_mayI s key val, s) := by
  obtain ⟨L, fl, am, lat, rd, laid, ci, co, tb⟩ := s
  unfold rz_mayI at h ⊢
  unfold rz_in_
  by_cases h1 : ¬ rz_key key ∨ val < 0 ∨ 999 < val
  · simp only [if_pos h1]
  · by_cases h2 : key < fl
    · simp only [if_neg h1, ↓if_pos h2]
    · by_cases h3 : ¬ L.length < 40 ∨ 1000 ≤ ci
      · simp only [if_neg h1, ↓if_neg h2, ↓if_pos h3]
      · simp only [if_neg h1, ↓if_neg h2, ↓if_neg h3] at h
        exact absurd h (by decide)
theorem rz_in_ok {L : List rz_En} {fl am : Int32} {lat : List rz_La} {rd : Nat → Int32} {laid ci co tb : Int32} {key val : Int32} (h : ¬ rz_mayI (L, fl, am, lat, rd, laid, ci, co, tb) key val < 0) : rz_in_ (L, fl, am, lat, rd, laid, ci, co, tb) key val = (ci, L ++ [(ci, key, val, 0, rz_pl fl key)], fl, am, lat, rd, laid, ci + 1, co, tb) ∧ rz_key key ∧ ¬ key < fl ∧ L.length < 40 ∧ ci < 1000 := by
  unfold rz_mayI at h
  unfold rz_in_
  by_cases h1 : ¬ rz_key key ∨ val < 0 ∨ 999 < val
  · simp only [if_pos h1] at h
    exact absurd (by decide) h
  · by_cases h2 : key < fl
    · simp only [if_neg h1, ↓if_pos h2] at h
      exact absurd (by decide) h
    · by_cases h3 : ¬ L.length < 40 ∨ 1000 ≤ ci
      · simp only [if_neg h1, ↓if_neg h2, ↓if_pos h3] at h
        exact absurd (by decide) h
      · refine ⟨by simp only [if_neg h1, ↓if_neg h2, ↓if_neg h3], Classical.byContradiction (fun q => h1 (Or.inl q)), h2, Classical.byContradiction (fun q => h3 (Or.inl q)), Int32.not_le.mp (fun q => h3 (Or.inr q))⟩
theorem rz_IV_out {s : rz_AS} (h : rz_IV s) : rz_IV (rz_out_ s).2 := by
  obtain ⟨L, fl, am, lat, rd, laid, ci, co, tb⟩ := s
  cases hn : rz_nxf L with
  | none => rw [rz_nxf_none hn] at h ⊢; exact h
  | some j =>
    have hnx := rz_nxf_some hn
    obtain ⟨e, he, -, -⟩ := id hnx
    obtain ⟨e1, he1, -⟩ := rz_re_at he
    rw [rz_out_eq hn he he1]
    refine ⟨(h.1.re hnx he).sub (List.eraseIdx_sublist _ _), ?_, h.2.2⟩
    have h2 := List.Sublist.length_le (List.eraseIdx_sublist (rz_re L e) j)
    rw [rz_re_len] at h2
    exact Nat.le_trans h2 h.2.1
theorem rz_IV_in {s : rz_AS} {key val : Int32} (h : rz_IV s) : rz_IV (rz_in_ s key val).2 := by
  obtain ⟨L, fl, am, lat, rd, laid, ci, co, tb⟩ := s
  by_cases hm : rz_mayI (L, fl, am, lat, rd, laid, ci, co, tb) key val < 0
  · rw [rz_in_may hm]; exact h
  · obtain ⟨e1, hk, hfl, hl, hc⟩ := rz_in_ok hm
    obtain ⟨b, hb, rfl⟩ := rz_key_of hk
    rw [e1]
    exact ⟨h.1.app hb hfl hc, by rw [List.length_append]; exact hl, h.2.2⟩
theorem rz_IV_ut (n : Nat) (s : rz_AS) (key : Int32) (h : rz_IV s) : rz_IV (rz_ut n s key).2 := by
  induction n generalizing s with
  | zero => exact h
  | succ n ih =>
    unfold rz_ut
    split
    · exact h
    · split
      · exact h
      · exact ih _ (rz_IV_out h)
theorem rz_IV_upto {s : rz_AS} {key : Int32} (h : rz_IV s) : rz_IV (rz_upto_ s key).2 := by
  unfold rz_upto_
  by_cases hk : rz_key key
  · simp only [hk, not_true_eq_false, if_false]; exact rz_IV_ut 40 s key h
  · simp only [hk, not_false_eq_true, if_true]; exact h
noncomputable def rz_mayL : rz_AS → Int32 → Int32 → Int32 := haveI : (p : Prop) → Decidable p := Classical.propDecidable; fun (L, fl, _) n key => match rz_fi L n with
  | none => -1
  | some j => if ¬ rz_key key then -2 else if key < fl ∨ (L.getD j (0, 0, 0, 0, 0)).2.1 < key then -4 else if key = (L.getD j (0, 0, 0, 0, 0)).2.1 then -5 else 0
theorem rz_less_may {s : rz_AS} {n key : Int32} (h : rz_mayL s n key < 0) : rz_less_ s n key = (rz_mayL s n key, s) := by
  obtain ⟨L, fl, am, lat, rd, laid, ci, co, tb⟩ := s
  unfold rz_mayL at h ⊢
  unfold rz_less_
  cases hf : rz_fi L n with
  | none => simp only [hf]
  | some j =>
    simp only [hf] at h ⊢
    by_cases h1 : ¬ rz_key key
    · simp only [if_pos h1]
    · by_cases h2 : key < fl ∨ (L.getD j (0, 0, 0, 0, 0)).2.1 < key
      · simp only [if_neg h1, ↓if_pos h2]
      · by_cases h3 : key = (L.getD j (0, 0, 0, 0, 0)).2.1
        · simp only [if_neg h1, ↓if_neg h2, ↓if_pos h3]
        · simp only [if_neg h1, ↓if_neg h2, ↓if_neg h3] at h
          exact absurd h (by decide)
theorem rz_less_ok {L : List rz_En} {fl am : Int32} {lat : List rz_La} {rd : Nat → Int32} {laid ci co tb : Int32} {n key : Int32} (h : ¬ rz_mayL (L, fl, am, lat, rd, laid, ci, co, tb) n key < 0) : ∃ j e, rz_fi L n = some j ∧ L[j]? = some e ∧ e.1 = n ∧ rz_key key ∧ ¬ key < fl ∧ ¬ e.2.1 < key ∧ rz_less_ (L, fl, am, lat, rd, laid, ci, co, tb) n key = (rz_pl fl key, rz_le L j e key (rz_pl fl key), fl, if rz_pl fl key = e.2.2.2.2 then am else am + 1, lat, rd, laid, ci, co, tb) := by
  unfold rz_mayL at h
  unfold rz_less_
  cases hf : rz_fi L n with
  | none => simp only [hf] at h; exact absurd (by decide) h
  | some j =>
    obtain ⟨e, he, hen⟩ := rz_fi_some hf
    have hd : L.getD j (0, 0, 0, 0, 0) = e := by rw [List.getD_eq_getElem?_getD, he]; rfl
    simp only [hf, hd] at h ⊢
    by_cases h1 : ¬ rz_key key
    · simp only [if_pos h1] at h; exact absurd (by decide) h
    · by_cases h2 : key < fl ∨ e.2.1 < key
      · simp only [if_neg h1, ↓if_pos h2] at h; exact absurd (by decide) h
      · by_cases h3 : key = e.2.1
        · simp only [if_neg h1, ↓if_neg h2, ↓if_pos h3] at h; exact absurd (by decide) h
        · exact ⟨j, e, rfl, he, hen, Classical.byContradiction h1, fun q => h2 (Or.inl q), fun q => h2 (Or.inr q), by simp only [if_neg h1, ↓if_neg h2, ↓if_neg h3]⟩
theorem rz_IE.less {L : List rz_En} {fl ci : Int32} {j b : Nat} {e : rz_En} (h : rz_IE L fl ci) (he : L[j]? = some e) (hb : b < 65536) (hfl : ¬ nI b < fl) : rz_IE (rz_le L j e (nI b) (rz_pl fl (nI b))) fl ci := by
  obtain ⟨⟨c, n, hc, rfl, hn, rfl, hx⟩, hp⟩ := h
  have hcb : c ≤ b := Nat.not_lt.mp (fun q => hfl (nI_lt q (by omega)))
  obtain ⟨a0, m0, u1, u2, u3, u4, u5, u6⟩ := hx e (List.mem_of_getElem? he)
  have hj := (List.getElem?_eq_some_iff.mp he).1
  unfold rz_le
  by_cases hpl : rz_pl (nI c) (nI b) = e.2.2.2.2
  · rw [if_pos hpl]
    refine ⟨⟨c, n, hc, rfl, hn, rfl, fun x hxL => ?_⟩, ?_⟩
    · rcases List.mem_or_eq_of_mem_set hxL with q | q
      · exact hx x q
      · subst q
        exact ⟨b, m0, hcb, hb, rfl, by rw [← hpl]; exact rz_plN hb hc, u5, u6⟩
    · have h1 := (List.pairwise_map (f := Prod.fst) (R := fun (x y : Int32) => ¬ x = y)).mpr hp
      refine (List.pairwise_map (f := Prod.fst) (R := fun (x y : Int32) => ¬ x = y)).mp ?_
      rw [List.map_set]
      have : (L.map Prod.fst).set j e.1 = L.map Prod.fst := by
        refine List.ext_getElem? (fun i => ?_)
        rw [List.getElem?_set]
        by_cases q : j = i
        · subst q; rw [if_pos rfl, if_pos (by rw [List.length_map]; exact hj), List.getElem?_map, he]; rfl
        · rw [if_neg q]
      rw [this]
      exact h1
  · rw [if_neg hpl]
    have hsub := List.eraseIdx_sublist L j
    refine ⟨⟨c, n, hc, rfl, hn, rfl, fun x hxL => ?_⟩, List.pairwise_append.mpr ⟨hp.sublist hsub, List.pairwise_singleton _ _, fun x hxL y hy => ?_⟩⟩
    · rcases List.mem_append.mp hxL with q | q
      · exact hx x (hsub.subset q)
      · rw [List.mem_singleton] at q
        subst q
        exact ⟨b, m0, hcb, hb, rfl, rz_plN hb hc, u5, u6⟩
    · rw [List.mem_singleton] at hy
      subst hy
      have h2 := (List.pairwise_cons.mp (hp.perm (rz_er_perm he).symm (fun {x y} hxy q => hxy q.symm))).1 x hxL
      exact fun q => h2 q.symm
theorem rz_IV_less {s : rz_AS} {n key : Int32} (h : rz_IV s) : rz_IV (rz_less_ s n key).2 := by
  obtain ⟨L, fl, am, lat, rd, laid, ci, co, tb⟩ := s
  by_cases hm : rz_mayL (L, fl, am, lat, rd, laid, ci, co, tb) n key < 0
  · rw [rz_less_may hm]; exact h
  · obtain ⟨j, e, hf, he, hen, hk, h1, h2, h3⟩ := rz_less_ok hm
    obtain ⟨b, hb, rfl⟩ := rz_key_of hk
    rw [h3]
    refine ⟨h.1.less he hb h1, ?_, h.2.2⟩
    have hj := (List.getElem?_eq_some_iff.mp he).1
    have h40 := h.2.1
    show (rz_le L j e (nI b) (rz_pl fl (nI b))).length ≤ 40
    unfold rz_le
    split
    · rw [List.length_set]; exact h40
    · rw [List.length_append, List.length_eraseIdx_of_lt hj, List.length_singleton]; omega
theorem rz_IV_back {s : rz_AS} {n : Int32} (h : rz_IV s) : rz_IV (rz_back_ s n).2 := by
  obtain ⟨L, fl, am, lat, rd, laid, ci, co, tb⟩ := s
  unfold rz_back_
  cases hf : rz_fi L n with
  | none => simp only [hf]; exact h
  | some j => simp only [hf]; exact ⟨h.1.sub (List.eraseIdx_sublist _ _), Nat.le_trans (List.Sublist.length_le (List.eraseIdx_sublist L j)) h.2.1, h.2.2⟩
theorem rz_IV_do {s : rz_AS} {k a b : Int32} (h : rz_IV s) : rz_IV (rz_do_ s k a b).2 := by
  unfold rz_do_
  split
  · exact rz_IV_in h
  · split
    · exact rz_IV_out h
    · split
      · exact rz_IV_back h
      · split
        · exact rz_IV_less h
        · exact h
def rz_cn (rd : Nat → Int32) : Nat → Nat
  | 0 => 0
  | n + 1 => rz_cn rd n + if rd n = -5 then 0 else 1
theorem rz_cn_s (rd : Nat → Int32) (n : Nat) : rz_cn rd (n + 1) = rz_cn rd n + if rd n = -5 then 0 else 1 := rfl
theorem rz_cn_od (rd : Nat → Int32) (f n : Nat) : rz_cn rd (f * 12 + n) = rz_cn rd (f * 12) + rz_od rd f n := by
  induction n with
  | zero => rfl
  | succ n ih => rw [← Nat.add_assoc, rz_cn_s, ih, rz_od_s, Nat.add_assoc]
theorem rz_cn_ds (rd : Nat → Int32) (n : Nat) : rz_cn rd (n * 12) = rz_ds rd (fun _ => 0) n := by
  induction n with
  | zero => rfl
  | succ n ih =>
    have h0 : ¬ (0 : Int32) = -5 := by decide
    rw [Nat.succ_mul, rz_cn_od, ih, rz_ds_s, if_neg h0]
theorem rz_cn_tot (rd : Nat → Int32) : rz_tot rd = rz_cn rd 144 := (rz_cn_ds rd 12).symm
theorem rz_cn_ext {rd rd2 : Nat → Int32} (n : Nat) (h : ∀ i, i < n → rd i = rd2 i) : rz_cn rd n = rz_cn rd2 n := by
  induction n with
  | zero => rfl
  | succ n ih => rw [rz_cn_s, rz_cn_s, ih (fun i hi => h i (by omega)), h n (by omega)]
theorem rz_cn_upd {rd : Nat → Int32} {i : Nat} {v : Int32} : ∀ n, i < n → rz_cn (upd rd i v) n + (if rd i = -5 then 0 else 1) = rz_cn rd n + (if v = -5 then 0 else 1) := by
  intro n
  induction n with
  | zero => intro h; exact absurd h (Nat.not_lt_zero _)
  | succ n ih =>
    intro h
    rw [rz_cn_s, rz_cn_s]
    by_cases hi : i = n
    · subst hi
      rw [pk_us, rz_cn_ext (rd := upd rd i v) (rd2 := rd) i (fun j hj => pk_un (by omega))]
      omega
    · have := ih (by omega)
      rw [pk_un (show ¬ n = i by omega)]
      omega
section PK
variable {d a m lo hi n : Nat} {f f2 g : Nat → Int32} {hp h1 : rz_Hp} {R : Option Value → rz_Hp → Prop} {s s2 x : rz_AS} {hist : List rz_AS} {shot : Option rz_AS} {tx : List Int32} {ro re sp sv sh le od : Int32} {os : List rz_Or} {B B2 : Nat} {Z : List rz_Zt} {L : List rz_En} {fl am : Int32} {lat : List rz_La} {rd : Nat → Int32} {laid ci co tb : Int32}
theorem rz_IV_lay {x y len : Int32} (h : rz_rdo rd) (hl : laid = nI (rz_tot rd)) : rz_rdo (rz_lay_ rd laid x y len).2.1 ∧ (rz_lay_ rd laid x y len).2.2 = nI (rz_tot (rz_lay_ rd laid x y len).2.1) := by
  unfold rz_lay_
  by_cases h1 : ¬ (rz_town x ∧ rz_town y)
  · simp only [if_pos h1]; exact ⟨h, hl⟩
  · by_cases h2 : len < 0 ∨ 999 < len ∨ x = y
    · simp only [if_neg h1, ↓if_pos h2]; exact ⟨h, hl⟩
    · by_cases h3 : rd (rz_ix x y) = len
      · simp only [if_neg h1, ↓if_neg h2, ↓if_pos h3]; exact ⟨h, hl⟩
      · by_cases h4 : rd (rz_ix x y) = -5 ∧ 40 ≤ laid
        · simp only [if_neg h1, ↓if_neg h2, ↓if_neg h3, ↓if_pos h4]; exact ⟨h, hl⟩
        · have hxy := Classical.byContradiction h1
          have hix := (rz_ix_of hxy.1 hxy.2).1
          obtain ⟨b, hb, rfl⟩ := nI_of2 (M := 999) (n := 999) (by decide) (fun q => h2 (Or.inl q)) (Int32.not_lt.mp (fun q => h2 (Or.inr (Or.inl q))))
          have hb5 : ¬ nI b = -5 := fun q => nI_pos (show b < 2 ^ 31 by omega) (by rw [q]; decide)
          have hu := rz_cn_upd (rd := rd) (v := nI b) 144 hix
          rw [if_neg hb5] at hu
          simp only [if_neg h1, ↓if_neg h2, ↓if_neg h3, ↓if_neg h4]
          have ht := h.2
          rw [rz_cn_tot] at ht hl
          refine ⟨⟨fun i hi => ?_, ?_⟩, ?_⟩
          · by_cases hii : i = rz_ix x y
            · subst hii; rw [pk_us]; exact Or.inr ⟨b, hb, rfl⟩
            · rw [pk_un hii]; exact h.1 i hi
          · rw [rz_cn_tot]
            by_cases h5 : rd (rz_ix x y) = -5
            · rw [if_pos h5] at hu
              have : ¬ rz_cn rd 144 = 40 := fun q => h4 ⟨h5, by rw [hl, q]; decide⟩
              omega
            · rw [if_neg h5] at hu; omega
          · rw [rz_cn_tot]
            by_cases h5 : rd (rz_ix x y) = -5
            · rw [if_pos h5] at hu ⊢
              rw [hl, nI_1, ← hu, Nat.add_zero]
            · rw [if_neg h5] at hu ⊢
              exact hl.trans (congrArg nI (by omega))
theorem rz_IV_road {x y len : Int32} (h : rz_IV s) : rz_IV (rz_road_ s x y len).2 := by
  obtain ⟨L, fl, am, lat, rd, laid, ci, co, tb⟩ := s
  exact ⟨h.1, h.2.1, rz_IV_lay h.2.2.1 h.2.2.2⟩
theorem rz_IV_unroad {x y : Int32} (h : rz_IV s) : rz_IV (rz_unroad_ s x y).2 := by
  obtain ⟨L, fl, am, lat, rd, laid, ci, co, tb⟩ := s
  obtain ⟨h1, h2, h3, h4⟩ := h
  refine ⟨h1, h2, ?_⟩
  show rz_rdo (rz_rem_ rd laid x y).2.1 ∧ (rz_rem_ rd laid x y).2.2 = nI (rz_tot (rz_rem_ rd laid x y).2.1)
  unfold rz_rem_
  by_cases h5 : rz_lor rd x y = -5
  · simp only [if_pos h5]; exact ⟨h3, h4⟩
  · simp only [if_neg h5]
    have hxy : rz_town x ∧ rz_town y := by
      refine Classical.byContradiction (fun q => h5 ?_)
      unfold rz_lor
      exact if_neg q
    have hlo : rz_lor rd x y = rd (rz_ix x y) := by unfold rz_lor; exact if_pos hxy
    rw [hlo] at h5
    have hix := (rz_ix_of hxy.1 hxy.2).1
    have hu := rz_cn_upd (rd := rd) (v := -5) 144 hix
    rw [if_neg h5, if_pos rfl] at hu
    have ht := h3.2
    rw [rz_cn_tot] at ht h4
    refine ⟨⟨fun i hi => ?_, ?_⟩, ?_⟩
    · by_cases hii : i = rz_ix x y
      · subst hii; rw [pk_us]; exact Or.inl rfl
      · rw [pk_un hii]; exact h3.1 i hi
    · rw [rz_cn_tot]; omega
    · rw [rz_cn_tot, h4, ← Nat.add_zero (rz_cn rd 144), ← hu]
      exact nI_pred _
end PK
