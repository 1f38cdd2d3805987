/-! both sides, step by step -/
theorem rz_sm.ex {lo hi : Nat} {hp h1 : rz_Hp} (s : rz_sm lo hi hp h1) : rz_ex lo hp h1 := ⟨fun j hj => s.2 j (Or.inl hj), by rw [s.1]; exact Nat.le_refl _⟩
section RZBB
variable {lo hi o m : Nat} {hp h1 : rz_Hp} {nw bf sn : rz_AS} {hist : List rz_AS} {tx : List Int32} {os mos : List rz_Or} {pl sp : Int32} {ss : rz_SS} {tk ro re mro mre : Int32} {shot : Option rz_AS} {B : Nat} {s : rz_AS}
theorem rz_RP.sm (h : rz_RP o nw bf sn hist tx os pl ss tk ro re hp) (q : rz_sm lo hi hp h1) (hd : o + 115 ≤ lo) : rz_RP o nw bf sn hist tx os pl ss tk ro re h1 := by
  obtain ⟨a, b, c, d, e, f, g, i⟩ := h
  exact ⟨rz_RF_sm a q (by omega), rz_ST_sm b q (by omega), rz_ST_sm c q (by omega), rz_ST_sm d q (by omega), rz_HI_sm e q (by omega), rz_TX_sm f q (by omega), rz_OR_sm g q (by omega), rz_SR_sm i q (by omega)⟩
theorem rz_MM.sm (h : rz_MM m s hist shot tx mro mre sp mos B hp) (q : rz_sm lo hi hp h1) (hd : hi ≤ m) : rz_MM m s hist shot tx mro mre sp mos B h1 := by
  obtain ⟨h0, h1, h2, h3, h4, h5, h6, h7, h8⟩ := h
  exact ⟨h0.sm q (by omega), h1.sm q (by omega), h2.sm q (by omega), h3.sm q (by omega), h4.sm q (by omega), h5.sm q (by omega), h6.sm q (by omega), h7.sm q (by omega), h8.sm q (by omega)⟩
/-- what is refused stands alike on both sides -/
def rz_rf2 (ro re mro mre : Int32) : Prop := (re = 0 ∧ mro = -5 ∧ mre = -5) ∨ (re < 0 ∧ mro = ro ∧ mre = re)
/-- both sides hold the same -/
def rz_JN (B : Nat) (hp : rz_Hp) : Prop := ∃ (nw bf sn : rz_AS) (hist : List rz_AS) (shot : Option rz_AS) (tx : List Int32) (os mos : List rz_Or) (pl sp : Int32) (ss : rz_SS) (ro re mro mre : Int32), rz_RP 0 nw bf sn hist tx os pl ss (rz_shI shot) ro re hp ∧ rz_MM 115 nw hist shot tx mro mre sp mos B hp ∧ rz_IV nw ∧ (∀ x ∈ hist, rz_IV x) ∧ (∀ x, shot = some x → sn = x ∧ rz_IV x) ∧ (∀ c ∈ tx, 0 ≤ c) ∧ rz_rf2 ro re mro mre
/-- one call on each side, the same answer, and both hold the same again -/
def rz_two (B : Nat) (hp : rz_Hp) (kc km : Nat) (ac am : List (Option Value)) : Prop := ∃ (r : Int32) (h1 h2 : rz_Hp), rz_ev 9 kc 0 ac [] hp (fun r' h' => r' = some (.int r) ∧ h' = h1) ∧ h1.2 = hp.2 ∧ rz_co h1 115 = some 9 ∧ rz_ev 9 km 0 am [] h1 (fun r' h' => r' = some (.int r) ∧ h' = h2) ∧ h2.2 = hp.2 ∧ rz_JN (B + 2000) h2
theorem rz_two_of {kc km : Nat} {ac am : List (Option Value)} (h : rz_ev 9 kc 0 ac [] hp (fun r' h1 => ∃ r, r' = some (.int r) ∧ h1.2 = hp.2 ∧ rz_co h1 115 = some 9 ∧ rz_ev 9 km 0 am [] h1 (fun r2 h2 => r2 = some (.int r) ∧ h2.2 = h1.2 ∧ rz_JN (B + 2000) h2))) : rz_two B hp kc km ac am := by
  obtain ⟨n, h⟩ := h
  obtain ⟨r', h1, ⟨r, e1, e2, e3, n2, h2⟩, -, -, hg⟩ := rz_go_one _ _ _ _ _ _ _ _ h
  obtain ⟨r2, hp2, ⟨f1, f2, f3⟩, -, -, hg2⟩ := rz_go_one _ _ _ _ _ _ _ _ h2
  exact ⟨r, h1, hp2, ⟨n, hg _ ⟨e1, rfl⟩⟩, e2, e3, ⟨n2, hg2 _ ⟨f1, rfl⟩⟩, by rw [f2, e2], f3⟩
theorem rz_hs_IV {r : Int32} {x : rz_AS} (hx : rz_IV x) (hh : ∀ y ∈ hist, rz_IV y) : ∀ y ∈ rz_hs r x hist, rz_IV y := by
  unfold rz_hs rz_rec
  intro y hy
  split at hy
  · exact hh y hy
  · rcases List.mem_append.mp hy with q | q
    · split at q
      · exact hh y q
      · exact hh y (List.mem_of_mem_tail q)
    · rw [List.mem_singleton] at q; subst q; exact hx
theorem rz_rec_IV {x : rz_AS} (hx : rz_IV x) (hh : ∀ y ∈ hist, rz_IV y) : ∀ y ∈ rz_rec hist x, rz_IV y := by
  have := rz_hs_IV (r := 0) hx hh
  unfold rz_hs at this
  rwa [if_neg (show ¬ (0 : Int32) < 0 by decide)] at this
theorem j_comeIn {a b : Int32} (h : rz_JN B hp) (hB : B < 2 ^ 27) : rz_two B hp 88 141 [some (.ref 0), some (.int a), some (.int b)] [some (.ref 115), some (.int a), some (.int b), none] := by
  obtain ⟨nw, bf, sn, hist, shot, tx, os, mos, pl, sp, ss, ro, re, mro, mre, hC, hM, hI, hh, hs, hc, hr⟩ := h
  refine rz_two_of (c_C_comeIn (d := 3) hI.I0 hC (fun h1 k1 s1 => ⟨_, rfl, s1.1, rz_co_fv (hM.sm s1 (by omega)).1.1, m_M_comeIn (d := 6) (hM.sm s1 (by omega)) hI (by omega) (fun h2 k2 s2 => ⟨rfl, s2.1, ?_⟩)⟩))
  exact ⟨_, _, _, _, _, _, _, _, _, _, _, _, _, _, _, k1.sm s2 (by omega), k2, rz_IV_in hI, rz_hs_IV hI hh, hs, hc, hr⟩
theorem j_comeOut (h : rz_JN B hp) (hB : B < 2 ^ 27) : rz_two B hp 89 142 [some (.ref 0)] [some (.ref 115)] := by
  obtain ⟨nw, bf, sn, hist, shot, tx, os, mos, pl, sp, ss, ro, re, mro, mre, hC, hM, hI, hh, hs, hc, hr⟩ := h
  refine rz_two_of (c_C_comeOut (d := 3) hI.I0 hC (fun h1 k1 s1 => ⟨_, rfl, s1.1, rz_co_fv (hM.sm s1 (by omega)).1.1, m_M_comeOut (d := 4) (hM.sm s1 (by omega)) hI (by omega) (fun h2 k2 s2 => ⟨rfl, s2.1, ?_⟩)⟩))
  exact ⟨_, _, _, _, _, _, _, _, _, _, _, _, _, _, _, k1.sm s2 (by omega), k2, rz_IV_out hI, rz_hs_IV hI hh, hs, hc, hr⟩
theorem j_upTo {a : Int32} (h : rz_JN B hp) (hB : B < 2 ^ 27) : rz_two B hp 90 144 [some (.ref 0), some (.int a)] [some (.ref 115), some (.int a), none, none] := by
  obtain ⟨nw, bf, sn, hist, shot, tx, os, mos, pl, sp, ss, ro, re, mro, mre, hC, hM, hI, hh, hs, hc, hr⟩ := h
  refine rz_two_of (c_C_comeOutUpTo (d := 3) hI.I0 hC (fun h1 k1 s1 => ⟨_, rfl, s1.1, rz_co_fv (hM.sm s1 (by omega)).1.1, m_M_comeOutUpTo (d := 4) (hM.sm s1 (by omega)) hI (by omega) (fun h2 k2 s2 => ⟨rfl, s2.1, ?_⟩)⟩))
  exact ⟨_, _, _, _, _, _, _, _, _, _, _, _, _, _, _, k1.sm s2 (by omega), k2, rz_IV_upto hI, rz_hs_IV hI hh, hs, hc, hr⟩
theorem j_less {a b : Int32} (h : rz_JN B hp) (hB : B < 2 ^ 27) : rz_two B hp 91 147 [some (.ref 0), some (.int a), some (.int b)] [some (.ref 115), some (.int a), some (.int b), none] := by
  obtain ⟨nw, bf, sn, hist, shot, tx, os, mos, pl, sp, ss, ro, re, mro, mre, hC, hM, hI, hh, hs, hc, hr⟩ := h
  refine rz_two_of (c_C_less (d := 3) hI.I0 hC (fun h1 k1 s1 => ⟨_, rfl, s1.1, rz_co_fv (hM.sm s1 (by omega)).1.1, m_M_less (d := 5) (hM.sm s1 (by omega)) hI (by omega) (fun h2 k2 s2 => ⟨rfl, s2.1, ?_⟩)⟩))
  exact ⟨_, _, _, _, _, _, _, _, _, _, _, _, _, _, _, k1.sm s2 (by omega), k2, rz_IV_less hI, rz_hs_IV hI hh, hs, hc, hr⟩
theorem j_takeBack {a : Int32} (h : rz_JN B hp) : rz_two B hp 92 149 [some (.ref 0), some (.int a)] [some (.ref 115), some (.int a)] := by
  obtain ⟨nw, bf, sn, hist, shot, tx, os, mos, pl, sp, ss, ro, re, mro, mre, hC, hM, hI, hh, hs, hc, hr⟩ := h
  refine rz_two_of (c_C_takeBack (d := 3) hI.I0 hC (fun h1 k1 s1 => ⟨_, rfl, s1.1, rz_co_fv (hM.sm s1 (by omega)).1.1, m_M_takeBack (d := 6) (hM.sm s1 (by omega)) hI (fun h2 k2 s2 => ⟨rfl, s2.1, ?_⟩)⟩))
  exact ⟨_, _, _, _, _, _, _, _, _, _, _, _, _, _, _, k1.sm s2 (by omega), k2, rz_IV_back hI, rz_hs_IV hI hh, hs, hc, hr⟩
theorem j_road {a b c : Int32} (h : rz_JN B hp) : rz_two B hp 93 153 [some (.ref 0), some (.int a), some (.int b), some (.int c)] [some (.ref 115), some (.int a), some (.int b), some (.int c), none] := by
  obtain ⟨nw, bf, sn, hist, shot, tx, os, mos, pl, sp, ss, ro, re, mro, mre, hC, hM, hI, hh, hs, hc, hr⟩ := h
  refine rz_two_of (c_C_road (d := 3) hC (fun h1 k1 s1 => ⟨_, rfl, s1.1, rz_co_fv (hM.sm s1 (by omega)).1.1, m_M_road (d := 6) (hM.sm s1 (by omega)) hI (fun h2 k2 s2 => ⟨rfl, s2.1, ?_⟩)⟩))
  exact ⟨_, _, _, _, _, _, _, _, _, _, _, _, _, _, _, k1.sm s2 (by omega), k2, rz_IV_road hI, rz_hs_IV hI hh, hs, hc, hr⟩
theorem j_unroad {a b : Int32} (h : rz_JN B hp) : rz_two B hp 94 154 [some (.ref 0), some (.int a), some (.int b)] [some (.ref 115), some (.int a), some (.int b), none] := by
  obtain ⟨nw, bf, sn, hist, shot, tx, os, mos, pl, sp, ss, ro, re, mro, mre, hC, hM, hI, hh, hs, hc, hr⟩ := h
  refine rz_two_of (c_C_unroad (d := 3) hC (fun h1 k1 s1 => ⟨_, rfl, s1.1, rz_co_fv (hM.sm s1 (by omega)).1.1, m_M_unroad (d := 6) (hM.sm s1 (by omega)) hI (fun h2 k2 s2 => ⟨rfl, s2.1, ?_⟩)⟩))
  exact ⟨_, _, _, _, _, _, _, _, _, _, _, _, _, _, _, k1.sm s2 (by omega), k2, rz_IV_unroad hI, rz_hs_IV hI hh, hs, hc, hr⟩
theorem j_type {c : Int32} (hcc : vp_nar .char c = c) (h0 : 0 ≤ c) (h : rz_JN B hp) : rz_two B hp 95 155 [some (.ref 0), some (.int c)] [some (.ref 115), some (.int c)] := by
  obtain ⟨nw, bf, sn, hist, shot, tx, os, mos, pl, sp, ss, ro, re, mro, mre, hC, hM, hI, hh, hs, hc, hr⟩ := h
  refine rz_two_of (c_C_type (d := 8) hcc hC (fun h1 k1 s1 => ⟨_, rfl, s1.1, rz_co_fv (hM.sm s1 (by omega)).1.1, m_M_type (d := 9) hcc (hM.sm s1 (by omega)) (fun h2 k2 s2 => ⟨rfl, s2.1, ?_⟩)⟩))
  refine ⟨_, _, _, _, _, _, _, _, _, _, _, _, _, _, _, k1.sm s2 (by omega), k2.mono (by omega), hI, hh, hs, ?_, hr⟩
  unfold rz_type_
  split
  · intro x hx
    rcases List.mem_append.mp hx with q | q
    · exact hc x q
    · rw [List.mem_singleton] at q; subst q; exact h0
  · exact hc
theorem j_clearText (h : rz_JN B hp) : rz_two B hp 96 156 [some (.ref 0)] [some (.ref 115), none] := by
  obtain ⟨nw, bf, sn, hist, shot, tx, os, mos, pl, sp, ss, ro, re, mro, mre, hC, hM, hI, hh, hs, hc, hr⟩ := h
  refine rz_two_of (c_C_clearText (d := 8) hC (fun h1 k1 s1 => ⟨_, rfl, s1.1, rz_co_fv (hM.sm s1 (by omega)).1.1, m_M_clearText (d := 9) (hM.sm s1 (by omega)) (fun h2 k2 s2 => ⟨rfl, s2.1, ?_⟩)⟩))
  exact ⟨_, _, _, _, _, _, _, _, _, _, _, _, _, _, _, k1.sm s2 (by omega), k2.mono (by omega), hI, hh, hs, fun x hx => absurd hx (List.not_mem_nil), hr⟩
end RZBB
