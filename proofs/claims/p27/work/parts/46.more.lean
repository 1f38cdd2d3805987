/-! An error leaves all as it was; no road leads from a town to itself -/
def rz_IW (s : rz_AS) : Prop := rz_IV s ∧ s.2.2.2.2.1 78 = -5
theorem rz_IV.ci {s : rz_AS} (h : rz_IV s) : ∃ n : Nat, n ≤ 1000 ∧ s.2.2.2.2.2.2.1 = nI n ∧ ∀ x ∈ s.1, ∃ m : Nat, m < n ∧ x.1 = nI m := by
  obtain ⟨L, fl, am, lat, rd, laid, ci, co, tb⟩ := s
  obtain ⟨⟨⟨c, n, h1, h2, h3, h4, h5⟩, -⟩, -⟩ := h
  refine ⟨n, h3, h4, fun x hx => ?_⟩
  obtain ⟨a, m, -, -, -, -, g1, g2⟩ := h5 x hx
  exact ⟨m, g1, g2⟩
theorem rz_neg_in {s : rz_AS} {key val : Int32} (h : rz_IV s) (hn : (rz_in_ s key val).1 < 0) : (rz_in_ s key val).2 = s := by
  obtain ⟨n, hn1, hn2, -⟩ := h.ci
  obtain ⟨L, fl, am, lat, rd, laid, ci, co, tb⟩ := s
  have hn2 : ci = nI n := hn2
  subst hn2
  unfold rz_in_ at hn ⊢
  dsimp only at hn ⊢
  split
  · rfl
  · next h1 =>
    rw [if_neg h1] at hn
    split
    · rfl
    · next h2 =>
      rw [if_neg h2] at hn
      split
      · rfl
      · next h3 =>
        rw [if_neg h3] at hn
        exact absurd hn (nI_pos (by omega))
theorem rz_neg_out {s : rz_AS} (h : rz_IV s) (hn : (rz_out_ s).1 < 0) : (rz_out_ s).2 = s := by
  obtain ⟨n, hn1, hn2, hn3⟩ := h.ci
  obtain ⟨L, fl, am, lat, rd, laid, ci, co, tb⟩ := s
  cases hx : rz_nxf L with
  | none => rw [rz_nxf_none hx]; rfl
  | some j =>
    obtain ⟨e, he, -, -⟩ := rz_nxf_some hx
    obtain ⟨e1, he1, -⟩ := rz_re_at he
    rw [rz_out_eq hx he he1] at hn
    obtain ⟨m, g1, g2⟩ := hn3 e (List.mem_of_getElem? he)
    have hn : e.1 < 0 := hn
    rw [g2] at hn
    exact absurd hn (nI_pos (by omega))
theorem rz_neg_upto {s : rz_AS} {key : Int32} (hn : (rz_upto_ s key).1 < 0) : (rz_upto_ s key).2 = s := by
  unfold rz_upto_ at hn ⊢
  by_cases hk : rz_key key
  · simp only [hk, not_true_eq_false, if_false] at hn ⊢
    have hle := rz_ut_le 40 s key
    unfold rz_uA at hn
    by_cases h0 : (rz_ut 40 s key).1 = 0
    · unfold rz_ut at h0 ⊢
      split
      · rfl
      · next j hj =>
        split
        · rfl
        · next h2 =>
          simp only [hj, ↓if_neg h2] at h0
          exact absurd h0 (Nat.succ_ne_zero _)
    · rw [if_neg h0] at hn
      exact absurd hn (nI_pos (by omega))
  · simp only [hk, not_false_eq_true, if_true]
theorem rz_neg_less {s : rz_AS} {n key : Int32} (hn : (rz_less_ s n key).1 < 0) : (rz_less_ s n key).2 = s := by
  obtain ⟨L, fl, am, lat, rd, laid, ci, co, tb⟩ := s
  unfold rz_less_ at hn ⊢
  dsimp only at hn ⊢
  cases hf : rz_fi L n with
  | none => rfl
  | some j =>
    simp only [hf] at hn ⊢
    split
    · rfl
    · next h1 =>
      rw [if_neg h1] at hn
      split
      · rfl
      · next h2 =>
        rw [if_neg h2] at hn
        split
        · rfl
        · next h3 =>
          rw [if_neg h3] at hn
          have hn : rz_pl fl key < 0 := hn
          refine absurd hn ?_
          unfold rz_pl
          refine nI_pos ?_
          unfold rz_bl
          split
          · omega
          · have h1 := Int32.toNatClampNeg_lt key
            have h2 := Int32.toNatClampNeg_lt fl
            have h3 : key.toNatClampNeg ^^^ fl.toNatClampNeg < 2 ^ 31 := Nat.xor_lt_two_pow h1 h2
            have h4 := (Nat.log2_lt (by assumption)).mpr h3
            omega
theorem rz_neg_back {s : rz_AS} {n : Int32} (h : rz_IV s) (hn : (rz_back_ s n).1 < 0) : (rz_back_ s n).2 = s := by
  obtain ⟨L, fl, am, lat, rd, laid, ci, co, tb⟩ := s
  unfold rz_back_ at hn ⊢
  dsimp only at hn ⊢
  cases hf : rz_fi L n with
  | none => rfl
  | some j =>
    simp only [hf] at hn
    obtain ⟨e, he, -⟩ := rz_fi_some hf
    have hg : L.getD j (0, 0, 0, 0, 0) = e := by rw [List.getD_eq_getElem?_getD, he]; rfl
    rw [hg] at hn
    obtain ⟨⟨⟨c, n', h1, h2, h3, h4, h5⟩, -⟩, -⟩ := h
    obtain ⟨a, m, -, g0, g1, -⟩ := h5 e (List.mem_of_getElem? he)
    rw [g1] at hn
    exact absurd hn (nI_pos (by omega))
theorem rz_neg_road {s : rz_AS} {x y len : Int32} (h : rz_IV s) (hn : (rz_road_ s x y len).1 < 0) : (rz_road_ s x y len).2 = s := by
  obtain ⟨L, fl, am, lat, rd, laid, ci, co, tb⟩ := s
  obtain ⟨-, -, hr, hl⟩ := h
  have h40 := hr.2
  unfold rz_road_ rz_lay_ at hn ⊢
  dsimp only at hn ⊢
  split
  · rfl
  · next h1 =>
    rw [if_neg h1] at hn
    split
    · rfl
    · next h2 =>
      rw [if_neg h2] at hn
      split
      · rfl
      · next h3 =>
        rw [if_neg h3] at hn
        split
        · rfl
        · next h4 =>
          rw [if_neg h4] at hn
          dsimp only at hn
          split at hn
          · rw [hl, nI_1] at hn
            exact absurd hn (nI_pos (by omega))
          · rw [hl] at hn
            exact absurd hn (nI_pos (by omega))
theorem rz_neg_unroad {s : rz_AS} {x y : Int32} (h : rz_IV s) (hn : (rz_unroad_ s x y).1 < 0) : (rz_unroad_ s x y).2 = s := by
  obtain ⟨L, fl, am, lat, rd, laid, ci, co, tb⟩ := s
  obtain ⟨-, -, hr, hl⟩ := h
  unfold rz_unroad_ rz_rem_ at hn ⊢
  dsimp only at hn ⊢
  split
  · rfl
  · next h1 =>
    rw [if_neg h1] at hn
    dsimp only at hn
    unfold rz_lor at h1 hn
    by_cases h2 : rz_town x ∧ rz_town y
    · rw [if_pos h2] at h1 hn
      rcases hr.1 _ (rz_ix_of h2.1 h2.2).1 with q | ⟨a, q1, q2⟩
      · exact absurd q h1
      · rw [q2] at hn
        exact absurd hn (nI_pos (by omega))
    · rw [if_neg h2] at h1
      exact absurd rfl h1
/-! the roads stay as they are where entries come and go -/
theorem rz_rd_in {s : rz_AS} {key val : Int32} : (rz_in_ s key val).2.2.2.2.2.1 = s.2.2.2.2.1 := by
  obtain ⟨L, fl, am, lat, rd, laid, ci, co, tb⟩ := s
  unfold rz_in_
  dsimp only
  split
  · rfl
  · split
    · rfl
    · split <;> rfl
theorem rz_rd_out {s : rz_AS} : (rz_out_ s).2.2.2.2.2.1 = s.2.2.2.2.1 := by
  obtain ⟨L, fl, am, lat, rd, laid, ci, co, tb⟩ := s
  unfold rz_out_
  dsimp only
  split
  · rfl
  · split <;> rfl
theorem rz_rd_ut (n : Nat) (s : rz_AS) (key : Int32) : (rz_ut n s key).2.2.2.2.2.1 = s.2.2.2.2.1 := by
  induction n generalizing s with
  | zero => rfl
  | succ n ih =>
    unfold rz_ut
    split
    · rfl
    · split
      · rfl
      · exact (ih _).trans rz_rd_out
theorem rz_rd_upto {s : rz_AS} {key : Int32} : (rz_upto_ s key).2.2.2.2.2.1 = s.2.2.2.2.1 := by
  unfold rz_upto_
  by_cases hk : rz_key key
  · simp only [hk, not_true_eq_false, if_false]; exact rz_rd_ut 40 s key
  · simp only [hk, not_false_eq_true, if_true]
theorem rz_rd_less {s : rz_AS} {n key : Int32} : (rz_less_ s n key).2.2.2.2.2.1 = s.2.2.2.2.1 := by
  obtain ⟨L, fl, am, lat, rd, laid, ci, co, tb⟩ := s
  unfold rz_less_
  dsimp only
  split
  · rfl
  · split
    · rfl
    · split
      · rfl
      · split <;> rfl
theorem rz_rd_back {s : rz_AS} {n : Int32} : (rz_back_ s n).2.2.2.2.2.1 = s.2.2.2.2.1 := by
  obtain ⟨L, fl, am, lat, rd, laid, ci, co, tb⟩ := s
  unfold rz_back_
  dsimp only
  split <;> rfl
theorem rz_rd_do {s : rz_AS} {k a b : Int32} : (rz_do_ s k a b).2.2.2.2.2.1 = s.2.2.2.2.1 := by
  unfold rz_do_
  split
  · exact rz_rd_in
  · split
    · exact rz_rd_out
    · split
      · exact rz_rd_back
      · split
        · exact rz_rd_less
        · rfl
theorem rz_ix66 {x y : Int32} (hx : rz_town x) (hy : rz_town y) (h : rz_ix x y = 78) : x = y := by
  obtain ⟨a, ha, rfl⟩ := rz_town_of hx
  obtain ⟨b, hb, rfl⟩ := rz_town_of hy
  unfold rz_ix at h
  rw [nI_clamp (by omega), nI_clamp (by omega)] at h
  have : a = b := by omega
  rw [this]
theorem rz_IW_in {s : rz_AS} {key val : Int32} (h : rz_IW s) : rz_IW (rz_in_ s key val).2 := ⟨rz_IV_in h.1, by rw [rz_rd_in]; exact h.2⟩
theorem rz_IW_out {s : rz_AS} (h : rz_IW s) : rz_IW (rz_out_ s).2 := ⟨rz_IV_out h.1, by rw [rz_rd_out]; exact h.2⟩
theorem rz_IW_upto {s : rz_AS} {key : Int32} (h : rz_IW s) : rz_IW (rz_upto_ s key).2 := ⟨rz_IV_upto h.1, by rw [rz_rd_upto]; exact h.2⟩
theorem rz_IW_less {s : rz_AS} {n key : Int32} (h : rz_IW s) : rz_IW (rz_less_ s n key).2 := ⟨rz_IV_less h.1, by rw [rz_rd_less]; exact h.2⟩
theorem rz_IW_back {s : rz_AS} {n : Int32} (h : rz_IW s) : rz_IW (rz_back_ s n).2 := ⟨rz_IV_back h.1, by rw [rz_rd_back]; exact h.2⟩
theorem rz_IW_do {s : rz_AS} {k a b : Int32} (h : rz_IW s) : rz_IW (rz_do_ s k a b).2 := ⟨rz_IV_do h.1, by rw [rz_rd_do]; exact h.2⟩
theorem rz_IW_road {s : rz_AS} {x y len : Int32} (h : rz_IW s) : rz_IW (rz_road_ s x y len).2 := by
  refine ⟨rz_IV_road h.1, ?_⟩
  obtain ⟨h1, h2⟩ := h
  obtain ⟨L, fl, am, lat, rd, laid, ci, co, tb⟩ := s
  have h2 : rd 78 = -5 := h2
  show (rz_lay_ rd laid x y len).2.1 78 = -5
  unfold rz_lay_
  split
  · exact h2
  · next g1 =>
    split
    · exact h2
    · next g2 =>
      split
      · exact h2
      · split
        · exact h2
        · have g3 := Classical.byContradiction g1
          show upd rd (rz_ix x y) len 78 = -5
          rw [pk_un (fun q => g2 (Or.inr (Or.inr (rz_ix66 g3.1 g3.2 q.symm))))]
          exact h2
theorem rz_IW_unroad {s : rz_AS} {x y : Int32} (h : rz_IW s) : rz_IW (rz_unroad_ s x y).2 := by
  refine ⟨rz_IV_unroad h.1, ?_⟩
  obtain ⟨h1, h2⟩ := h
  obtain ⟨L, fl, am, lat, rd, laid, ci, co, tb⟩ := s
  have h2 : rd 78 = -5 := h2
  show (rz_rem_ rd laid x y).2.1 78 = -5
  unfold rz_rem_
  split
  · exact h2
  · show upd rd (rz_ix x y) (-5) 78 = -5
    unfold upd
    split
    · rfl
    · exact h2
