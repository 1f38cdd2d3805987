/-! The law's own run: acts by the script -/
noncomputable def rz_sn (s : rz_AS) : Int64 := rz_seen s s.2.2.2.2.2.2.1.toNatClampNeg
theorem q_sn {d o : Nat} {nw sn : rz_AS} {hist : List rz_AS} {tx : List Int32} {tk ro re : Int32} {hp : rz_Hp} {R : Option Value → rz_Hp → Prop} (h : rz_OJ o nw sn hist tx tk ro re hp) : rz_ev (d + 5) 119 0 [some (.ref o), none, none, none] [] hp R ↔ R (some (.long (rz_sn nw))) hp := by
  obtain ⟨c, hc1, hci, -⟩ := h.2.1.1.ci
  have e : rz_sn nw = rz_seen nw c := by
    unfold rz_sn
    rw [hci, nI_clamp (by omega)]
  rw [e]
  exact q_seen h hc1 hci
/-- how much is in the piles, and how many came in, after k rounds -/
def lw_B (k : Nat) (s : rz_AS) : Prop := s.1.length ≤ k ∧ ∃ c : Nat, c ≤ k ∧ s.2.2.2.2.2.2.1 = nI c
theorem lw_B.s {k : Nat} {s : rz_AS} (h : lw_B k s) : lw_B (k + 1) s := by
  obtain ⟨h1, c, h2, h3⟩ := h
  exact ⟨by omega, c, by omega, h3⟩
/-- no more entries, and none came in -/
def lw_le (s t : rz_AS) : Prop := t.1.length ≤ s.1.length ∧ t.2.2.2.2.2.2.1 = s.2.2.2.2.2.2.1
theorem lw_le.B {k : Nat} {s t : rz_AS} (h : lw_le s t) (b : lw_B k s) : lw_B (k + 1) t := by
  obtain ⟨h1, c, h2, h3⟩ := b
  exact ⟨Nat.le_trans h.1 (by omega), c, by omega, h.2.trans h3⟩
theorem lw_B_in {k : Nat} {s : rz_AS} {key val : Int32} (h : lw_B k s) : lw_B (k + 1) (rz_in_ s key val).2 := by
  obtain ⟨h1, c, h2, h3⟩ := h
  obtain ⟨L, fl, am, lat, rd, laid, ci, co, tb⟩ := s
  have h1 : L.length ≤ k := h1
  have h3 : ci = nI c := h3
  unfold rz_in_
  dsimp only
  split
  · exact ⟨by show L.length ≤ k + 1; omega, c, by omega, h3⟩
  · split
    · exact ⟨by show L.length ≤ k + 1; omega, c, by omega, h3⟩
    · split
      · exact ⟨by show L.length ≤ k + 1; omega, c, by omega, h3⟩
      · refine ⟨?_, c + 1, by omega, ?_⟩
        · show (L ++ [_]).length ≤ k + 1
          rw [List.length_append, List.length_singleton]
          omega
        · show ci + 1 = nI (c + 1)
          rw [h3, nI_1]
theorem lw_le_out {s : rz_AS} : lw_le s (rz_out_ s).2 := by
  obtain ⟨L, fl, am, lat, rd, laid, ci, co, tb⟩ := s
  unfold rz_out_
  dsimp only
  split
  · exact ⟨Nat.le_refl _, rfl⟩
  · split
    · refine ⟨?_, rfl⟩
      show ((rz_re L _).eraseIdx _).length ≤ L.length
      exact Nat.le_trans (List.Sublist.length_le (List.eraseIdx_sublist _ _)) (Nat.le_of_eq (rz_re_len _ _))
    · exact ⟨Nat.le_refl _, rfl⟩
theorem lw_le_ut (n : Nat) (s : rz_AS) (key : Int32) : lw_le s (rz_ut n s key).2 := by
  induction n generalizing s with
  | zero => exact ⟨Nat.le_refl _, rfl⟩
  | succ n ih =>
    unfold rz_ut
    split
    · exact ⟨Nat.le_refl _, rfl⟩
    · split
      · exact ⟨Nat.le_refl _, rfl⟩
      · have h1 := lw_le_out (s := s)
        have h2 := ih (rz_out_ s).2
        exact ⟨Nat.le_trans h2.1 h1.1, h2.2.trans h1.2⟩
theorem lw_le_upto {s : rz_AS} {key : Int32} : lw_le s (rz_upto_ s key).2 := by
  unfold rz_upto_
  by_cases hk : rz_key key
  · simp only [hk, not_true_eq_false, if_false]; exact lw_le_ut 40 s key
  · simp only [hk, not_false_eq_true, if_true]; exact ⟨Nat.le_refl _, rfl⟩
theorem lw_le_back {s : rz_AS} {n : Int32} : lw_le s (rz_back_ s n).2 := by
  obtain ⟨L, fl, am, lat, rd, laid, ci, co, tb⟩ := s
  unfold rz_back_
  dsimp only
  split
  · exact ⟨Nat.le_refl _, rfl⟩
  · exact ⟨List.Sublist.length_le (List.eraseIdx_sublist L _), rfl⟩
theorem lw_le_less {s : rz_AS} {n key : Int32} : lw_le s (rz_less_ s n key).2 := by
  obtain ⟨L, fl, am, lat, rd, laid, ci, co, tb⟩ := s
  unfold rz_less_
  dsimp only
  cases hf : rz_fi L n with
  | none => exact ⟨Nat.le_refl _, rfl⟩
  | some j =>
    dsimp only
    obtain ⟨e, he, -⟩ := rz_fi_some hf
    have hj := (List.getElem?_eq_some_iff.mp he).1
    split
    · exact ⟨Nat.le_refl _, rfl⟩
    · split
      · exact ⟨Nat.le_refl _, rfl⟩
      · split
        · exact ⟨Nat.le_refl _, rfl⟩
        · refine ⟨?_, rfl⟩
          show (rz_le L j _ key _).length ≤ L.length
          unfold rz_le
          split
          · rw [List.length_set]; exact Nat.le_refl _
          · rw [List.length_append, List.length_eraseIdx_of_lt hj, List.length_singleton]; omega
theorem lw_le_road {s : rz_AS} {x y len : Int32} : lw_le s (rz_road_ s x y len).2 := by
  obtain ⟨L, fl, am, lat, rd, laid, ci, co, tb⟩ := s
  exact ⟨Nat.le_refl _, rfl⟩
theorem lw_le_unroad {s : rz_AS} {x y : Int32} : lw_le s (rz_unroad_ s x y).2 := by
  obtain ⟨L, fl, am, lat, rd, laid, ci, co, tb⟩ := s
  exact ⟨Nat.le_refl _, rfl⟩
/-- the latest n states -/
theorem rz_rec_drop {P : List rz_AS} {s : rz_AS} : rz_rec (P.drop (P.length - 4)) s = (P ++ [s]).drop ((P ++ [s]).length - 4) := by
  rw [List.length_append, List.length_singleton]
  unfold rz_rec
  by_cases h : P.length < 4
  · rw [show P.length - 4 = 0 by omega, show P.length + 1 - 4 = 0 by omega, List.drop_zero, List.drop_zero, if_pos h]
  · rw [if_neg (by rw [List.length_drop]; omega), List.tail_drop, List.drop_append_of_le_length (by omega), show P.length - 4 + 1 = P.length + 1 - 4 by omega]
/-- what the law wrote down of the states so far -/
def lw_W (w : Nat) (P : List rz_AS) (hp : rz_Hp) : Prop := (∀ j, j < 64 → ∃ v, rz_fv hp w 10 j = some v) ∧ ∀ (j : Nat) (s : rz_AS), P[j]? = some s → rz_fv hp w 10 j = some (.long (rz_sn s))
theorem lw_W.sm {w lo hi : Nat} {P : List rz_AS} {hp h1 : rz_Hp} (h : lw_W w P hp) (s : rz_sm lo hi hp h1) (hd : w < lo ∨ hi ≤ w) : lw_W w P h1 :=
  ⟨fun j hj => by obtain ⟨v, e⟩ := h.1 j hj; exact ⟨v, by rw [s.fv hd]; exact e⟩, fun j t hj => by rw [s.fv hd]; exact h.2 j t hj⟩
theorem lw_W.set {w : Nat} {P : List rz_AS} {s : rz_AS} {hp : rz_Hp} (h : lw_W w P hp) : lw_W w P (rz_pf hp w P.length (.long (rz_sn s))) ∧ ∀ v, rz_fv hp w 10 P.length = some v → rz_fv (rz_pf hp w P.length (.long (rz_sn s))) w 10 P.length = some (.long (rz_sn s)) := by
  refine ⟨⟨fun j hj => ?_, fun j t hj => ?_⟩, fun v hv => ?_⟩
  · obtain ⟨v, e⟩ := h.1 j hj
    rw [rz_fv_pf, if_pos rfl]
    by_cases hjp : j = P.length
    · rw [if_pos hjp, e]; exact ⟨_, rfl⟩
    · rw [if_neg hjp]; exact ⟨v, e⟩
  · have hlt := (List.getElem?_eq_some_iff.mp hj).1
    rw [rz_fv_pf, if_pos rfl, if_neg (by omega)]
    exact h.2 j t hj
  · rw [rz_fv_pf, if_pos rfl, if_pos rfl, hv]
    rfl
theorem lw_W.add {w : Nat} {P : List rz_AS} {s : rz_AS} {hp : rz_Hp} (h : lw_W w P hp) (hs : rz_fv hp w 10 P.length = some (.long (rz_sn s))) : lw_W w (P ++ [s]) hp := by
  refine ⟨h.1, fun j t hj => ?_⟩
  by_cases hjp : j < P.length
  · rw [List.getElem?_append_left hjp] at hj
    exact h.2 j t hj
  · rw [List.getElem?_append_right (by omega)] at hj
    have h0 : j - P.length = 0 := by have := (List.getElem?_eq_some_iff.mp hj).1; simp at this; omega
    rw [h0] at hj
    cases hj
    rw [show j = P.length by omega]
    exact hs
