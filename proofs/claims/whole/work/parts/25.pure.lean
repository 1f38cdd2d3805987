/-! piles and orders of a row, without a program -/
theorem rz_x0 {a b : Nat} : a ^^^ b = 0 ↔ a = b := by
  constructor
  · intro h
    have : a ^^^ (a ^^^ b) = a := by rw [h, Nat.xor_zero]
    rw [← Nat.xor_assoc, Nat.xor_self, Nat.zero_xor] at this
    exact this.symm
  · rintro rfl; exact Nat.xor_self a
theorem rz_bx {a b k : Nat} : rz_bl (a ^^^ b) ≤ k ↔ a / 2 ^ k = b / 2 ^ k := by
  rw [rz_bl_le, ← rz_x0 (a := a / 2 ^ k), ← Nat.xor_div_two_pow]
  exact ⟨fun h => Nat.div_eq_of_lt h, fun h => (Nat.div_eq_zero_iff.mp h).resolve_left (Nat.ne_of_gt (Nat.pow_pos (by decide)))⟩
theorem rz_bmono {c a b : Nat} (h1 : c ≤ a) (h2 : a ≤ b) : rz_bl (a ^^^ c) ≤ rz_bl (b ^^^ c) := by
  have h := rz_bx.mp (Nat.le_refl (rz_bl (b ^^^ c)))
  refine rz_bx.mpr (Nat.le_antisymm ?_ ?_)
  · rw [← h]; exact Nat.div_le_div_right h2
  · exact Nat.div_le_div_right h1
theorem rz_bsplit {p : Nat} (x : Nat) : x / 2 ^ (p + 1) = x / 2 ^ p / 2 := by rw [Nat.pow_succ, Nat.div_div_eq_div_mul]
/-- the lowest pile moves lower -/
theorem rz_blow {c m x : Nat} (h0 : 0 < rz_bl (m ^^^ c)) (h : rz_bl (x ^^^ c) = rz_bl (m ^^^ c)) : rz_bl (x ^^^ m) < rz_bl (m ^^^ c) := by
  obtain ⟨p, hp⟩ : ∃ p, rz_bl (m ^^^ c) = p + 1 := ⟨rz_bl (m ^^^ c) - 1, by omega⟩
  have a1 := rz_bx.mp (Nat.le_of_eq hp)
  have a2 := rz_bx.mp (Nat.le_of_eq (h.trans hp))
  have b1 : ¬ m / 2 ^ p = c / 2 ^ p := fun q => by have := rz_bx.mpr q; omega
  have b2 : ¬ x / 2 ^ p = c / 2 ^ p := fun q => by have := rz_bx.mpr q; omega
  rw [rz_bsplit, rz_bsplit c] at a1
  rw [rz_bsplit, rz_bsplit c] at a2
  have : rz_bl (x ^^^ m) ≤ p := rz_bx.mpr (by omega)
  omega
/-- higher piles stay -/
theorem rz_bhigh {c m x : Nat} (h : rz_bl (m ^^^ c) < rz_bl (x ^^^ c)) : rz_bl (x ^^^ m) = rz_bl (x ^^^ c) := by
  have hk : ∀ k, rz_bl (m ^^^ c) ≤ k → (rz_bl (x ^^^ m) ≤ k ↔ rz_bl (x ^^^ c) ≤ k) := by
    intro k hk
    rw [rz_bx, rz_bx, rz_bx.mp hk]
  have h1 := (hk _ (Nat.le_of_lt h)).mpr (Nat.le_refl _)
  have h2 := (hk (rz_bl (x ^^^ c) - 1) (by omega)).mp
  omega
theorem rz_b16 {a c : Nat} (ha : a < 65536) (hc : c < 65536) : rz_bl (a ^^^ c) ≤ 16 := rz_bl_le.mpr (Nat.xor_lt_two_pow (n := 16) ha hc)
theorem rz_plN {a c : Nat} (ha : a < 65536) (hc : c < 65536) : rz_pl (nI c) (nI a) = nI (rz_bl (a ^^^ c)) := by
  unfold rz_pl
  rw [nI_clamp (by omega), nI_clamp (by omega)]
/-- entries of a state: keys in range and not below the floor, piles as they must be, numbers given once -/
def rz_IE (L : List rz_En) (fl ci : Int32) : Prop := (∃ c n : Nat, c < 65536 ∧ fl = nI c ∧ n ≤ 1000 ∧ ci = nI n ∧ ∀ x ∈ L, ∃ a m : Nat, c ≤ a ∧ a < 65536 ∧ x.2.1 = nI a ∧ x.2.2.2.2 = nI (rz_bl (a ^^^ c)) ∧ m < n ∧ x.1 = nI m) ∧ L.Pairwise (fun x y => ¬ x.1 = y.1)
theorem rz_IE.kr {L : List rz_En} {fl ci : Int32} (h : rz_IE L fl ci) : rz_kr L := by
  obtain ⟨⟨c, n, hc, -, -, -, hx⟩, -⟩ := h
  intro x hxL
  obtain ⟨a, m, -, ha, hk, -⟩ := hx x hxL
  exact ⟨a, ha, hk⟩
theorem rz_IE.nil {c : Nat} (h : c < 65536) {n : Nat} (hn : n ≤ 1000) : rz_IE [] (nI c) (nI n) := ⟨⟨c, n, h, rfl, hn, rfl, fun x hx => absurd hx (List.not_mem_nil)⟩, List.Pairwise.nil⟩
theorem rz_IE.sub {L L2 : List rz_En} {fl ci : Int32} (h : rz_IE L fl ci) (s : L2.Sublist L) : rz_IE L2 fl ci := by
  obtain ⟨⟨c, n, hc, hf, hn, hci, hx⟩, hp⟩ := h
  exact ⟨⟨c, n, hc, hf, hn, hci, fun x hxL => hx x (s.subset hxL)⟩, hp.sublist s⟩
theorem rz_IE.app {L : List rz_En} {fl ci : Int32} {a : Nat} {val mv : Int32} (h : rz_IE L fl ci) (ha : a < 65536) (hf : ¬ nI a < fl) (hci : ci < 1000) : rz_IE (L ++ [(ci, nI a, val, mv, rz_pl fl (nI a))]) fl (ci + 1) := by
  obtain ⟨⟨c, n, hc, rfl, hn, rfl, hx⟩, hp⟩ := h
  have hn1 : n < 1000 := (nI_ltI (by omega) (by decide)).mp hci
  have hca : c ≤ a := Nat.not_lt.mp (fun q => hf (nI_lt q (by omega)))
  refine ⟨⟨c, n + 1, hc, rfl, by omega, nI_1 n, fun x hxL => ?_⟩, List.pairwise_append.mpr ⟨hp, List.pairwise_singleton _ _, fun x hxL y hy => ?_⟩⟩
  · rcases List.mem_append.mp hxL with q | q
    · obtain ⟨a, m, h1, h2, h3, h4, h5, h6⟩ := hx x q
      exact ⟨a, m, h1, h2, h3, h4, by omega, h6⟩
    · rw [List.mem_singleton] at q
      subst q
      exact ⟨a, n, hca, ha, rfl, rz_plN ha hc, by omega, rfl⟩
  · rw [List.mem_singleton] at hy
    subst hy
    obtain ⟨a, m, h1, h2, h3, h4, h5, h6⟩ := hx x hxL
    rw [h6]
    exact fun q => absurd ((nI_eq (by omega) (by omega)).mp q) (by omega)
theorem rz_mo_id {p fl : Int32} {x : rz_En} (h : ¬ x.2.2.2.2 = p) : rz_mo p fl x = x := if_neg h
/-- the next entry: its pile is the lowest -/
theorem rz_IE.low {L : List rz_En} {fl ci : Int32} {j : Nat} {e : rz_En} (h : rz_IE L fl ci) (hn : rz_nx L j) (he : L[j]? = some e) : ∃ c m : Nat, c ≤ m ∧ c < 65536 ∧ m < 65536 ∧ fl = nI c ∧ e.2.1 = nI m ∧ e.2.2.2.2 = nI (rz_bl (m ^^^ c)) ∧ ∀ x ∈ L, ∃ a : Nat, m ≤ a ∧ a < 65536 ∧ x.2.1 = nI a ∧ x.2.2.2.2 = nI (rz_bl (a ^^^ c)) ∧ rz_bl (m ^^^ c) ≤ rz_bl (a ^^^ c) := by
  obtain ⟨⟨c, n, hc, hf, hn', hci, hx⟩, hp⟩ := h
  obtain ⟨e', he', h1, -⟩ := hn
  rw [he] at he'
  cases he'
  obtain ⟨m, k, a1, a2, a3, a4, a5, a6⟩ := hx e (List.mem_of_getElem? he)
  refine ⟨c, m, a1, hc, a2, hf, a3, a4, fun x hxL => ?_⟩
  obtain ⟨a, k2, b1, b2, b3, b4, b5, b6⟩ := hx x hxL
  obtain ⟨i, hi⟩ := List.getElem?_of_mem hxL
  have h2 := h1 i x hi
  rw [a3, b3] at h2
  have hma : m ≤ a := (nI_leI (by omega) (by omega)).mp h2
  exact ⟨a, hma, b2, b3, b4, rz_bmono a1 hma⟩
theorem rz_nI17 {a b : Nat} (ha : a ≤ 16) (hb : b ≤ 16) : nI a = nI b ↔ a = b := nI_eq (by omega) (by omega)
/-- what moves goes below the pile that empties -/
theorem rz_IE.mv {L : List rz_En} {fl ci : Int32} {j : Nat} {e x : rz_En} (h : rz_IE L fl ci) (hn : rz_nx L j) (he : L[j]? = some e) (h0 : ¬ e.2.2.2.2 = 0) (hx : x ∈ L) (hp : x.2.2.2.2 = e.2.2.2.2) : (∀ y ∈ L, rz_pl e.2.1 x.2.1 < y.2.2.2.2) := by
  obtain ⟨c, m, g0, g1, g2, g3, g4, g5, g6⟩ := h.low hn he
  obtain ⟨a, b1, b2, b3, b4, b5⟩ := g6 x hx
  intro y hy
  obtain ⟨a', c1, c2, c3, c4, c5⟩ := g6 y hy
  rw [b3, g4, c4, rz_plN b2 g2]
  have hb := rz_b16 b2 g1
  have hm := rz_b16 g2 g1
  have hy16 := rz_b16 c2 g1
  rw [b4, g5, rz_nI17 hb hm] at hp
  rw [g5] at h0
  have h1 : 0 < rz_bl (m ^^^ c) := Nat.pos_of_ne_zero (fun q => h0 (by rw [q]; rfl))
  have := rz_blow h1 hp
  exact nI_lt (by omega) (by omega)
theorem rz_IE.re {L : List rz_En} {fl ci : Int32} {j : Nat} {e : rz_En} (h : rz_IE L fl ci) (hn : rz_nx L j) (he : L[j]? = some e) : rz_IE (rz_re L e) (rz_reF fl e) ci := by
  unfold rz_re rz_reF
  by_cases h0 : e.2.2.2.2 = 0
  · rw [if_pos h0, if_pos h0]; exact h
  · rw [if_neg h0, if_neg h0]
    obtain ⟨c, m, g0, g1, g2, g3, g4, g5, g6⟩ := h.low hn he
    obtain ⟨⟨c', n, hc', hf', hn', hci, hx⟩, hp⟩ := h
    refine ⟨⟨m, n, g2, g4, hn', hci, fun x hxL => ?_⟩, ?_⟩
    · obtain ⟨y, hy, rfl⟩ := List.mem_map.mp hxL
      obtain ⟨k1, k2, k3⟩ := rz_mo_key e.2.2.2.2 e.2.1 y
      obtain ⟨a, b1, b2, b3, b4, b5⟩ := g6 y hy
      obtain ⟨a', m', q1, q2, q3, q4, q5, q6⟩ := hx y hy
      refine ⟨a, m', b1, b2, by rw [k1]; exact b3, ?_, q5, by rw [k2]; exact q6⟩
      unfold rz_mo
      by_cases hp1 : y.2.2.2.2 = e.2.2.2.2
      · rw [if_pos hp1, b3, g4]
        exact rz_plN b2 g2
      · rw [if_neg hp1, b4, rz_bhigh (Nat.lt_of_le_of_ne b5 (fun q => hp1 (by rw [b4, g5, q])))]
    · rw [List.pairwise_map]
      refine hp.imp (fun {x y} hxy => ?_)
      rw [(rz_mo_key _ _ x).2.1, (rz_mo_key _ _ y).2.1]
      exact hxy
theorem rz_IE.lt40 {L : List rz_En} {fl ci : Int32} (h : rz_IE L fl ci) : ∀ x ∈ L, ¬ x.2.2.2.2 = -5 ∧ -5 < x.2.1 ∧ 0 ≤ x.2.2.2.2 ∧ 0 ≤ x.2.1 ∧ 0 ≤ x.1 := by
  obtain ⟨⟨c, n, hc, hf, hn, hci, hx⟩, hp⟩ := h
  intro x hxL
  obtain ⟨a, m, h1, h2, h3, h4, h5, h6⟩ := hx x hxL
  have hb := rz_b16 h2 hc
  rw [h3, h4, h6]
  refine ⟨fun q => nI_pos (show rz_bl (a ^^^ c) < 2 ^ 31 by omega) (by rw [q]; decide), Int32.lt_of_lt_of_le (by decide) (nI_pos' (n := a) (by omega)), nI_pos' (by omega), nI_pos' (by omega), nI_pos' (by omega)⟩
