/-! both sides go on -/
theorem rz_pw_neg : ∀ (os : List rz_Or) (i : Nat) (s : rz_AS) (k : Nat) (er : Int32) (s' : rz_AS), rz_pw os i s = (some (k, er), s') → er < 0 := by
  intro os
  induction os with
  | nil => intro i s k er s' h; cases h
  | cons o os ih =>
    intro i s k er s' h
    have hun : rz_pw (o :: os) i s = if (rz_do_ s o.1 o.2.1 o.2.2).1 < 0 ∧ ¬ (rz_do_ s o.1 o.2.1 o.2.2).1 = -5 then (some (i, (rz_do_ s o.1 o.2.1 o.2.2).1), s) else rz_pw os (i + 1) (rz_do_ s o.1 o.2.1 o.2.2).2 := rfl
    rw [hun] at h
    by_cases q : (rz_do_ s o.1 o.2.1 o.2.2).1 < 0 ∧ ¬ (rz_do_ s o.1 o.2.1 o.2.2).1 = -5
    · rw [if_pos q] at h
      injection h with h1 h2
      injection h1 with h1
      injection h1 with h1 h3
      rw [← h3]; exact q.1
    · rw [if_neg q] at h
      exact ih _ _ _ _ _ h
theorem rz_pw_IV : ∀ (os : List rz_Or) (i : Nat) (s : rz_AS) (s' : rz_AS), rz_IV s → rz_pw os i s = (none, s') → rz_IV s' := by
  intro os
  induction os with
  | nil => intro i s s' hI h; cases h; exact hI
  | cons o os ih =>
    intro i s s' hI h
    have hun : rz_pw (o :: os) i s = if (rz_do_ s o.1 o.2.1 o.2.2).1 < 0 ∧ ¬ (rz_do_ s o.1 o.2.1 o.2.2).1 = -5 then (some (i, (rz_do_ s o.1 o.2.1 o.2.2).1), s) else rz_pw os (i + 1) (rz_do_ s o.1 o.2.1 o.2.2).2 := rfl
    rw [hun] at h
    by_cases q : (rz_do_ s o.1 o.2.1 o.2.2).1 < 0 ∧ ¬ (rz_do_ s o.1 o.2.1 o.2.2).1 = -5
    · rw [if_pos q] at h
      injection h with h1 h2
      cases h1
    · rw [if_neg q] at h
      exact ih _ _ _ (rz_IV_do hI) h
theorem rz_RF_ex {lo o : Nat} {tk ro re : Int32} {hp h1 : rz_Hp} (h : rz_RF o tk ro re hp) (s : rz_ex lo hp h1) (hd : o < lo) : rz_RF o tk ro re h1 := by
  obtain ⟨p0, p1, p2, p3, p4, p5, p6, p7, p8, p9⟩ := h
  exact ⟨s.fv hd p0, s.fv hd p1, s.fv hd p2, s.fv hd p3, s.fv hd p4, s.fv hd p5, s.fv hd p6, s.fv hd p7, s.fv hd p8, s.fv hd p9⟩
theorem rz_SR_ex {lo w : Nat} {s : rz_SS} {hp h1 : rz_Hp} (h : rz_SR w s hp) (q : rz_ex lo hp h1) (hd : w + 8 ≤ lo) : rz_SR w s h1 := by
  obtain ⟨L, fl, am, ds, dn, cm, gr⟩ := s
  obtain ⟨⟨p0, p1, p2, p3, p4⟩, hP, f, a0, hf⟩ := h
  exact ⟨⟨q.fv (by omega) p0, q.fv (by omega) p1, q.fv (by omega) p2, q.fv (by omega) p3, q.fv (by omega) p4⟩, rz_PL_ex hP q (by omega), f, q.av (by omega) a0, hf⟩
section RZBC
variable {hp h1 : rz_Hp} {B : Nat}
theorem rz_JN.mono {B2 : Nat} (h : rz_JN B hp) (hB : B ≤ B2) : rz_JN B2 hp := by
  obtain ⟨nw, bf, sn, hist, shot, tx, os, mos, pl, sp, ss, ro, re, mro, mre, hC, hM, hI, hh, hs, hc, hr⟩ := h
  exact ⟨_, _, _, _, _, _, _, _, _, _, _, _, _, _, _, hC, hM.mono hB, hI, hh, hs, hc, hr⟩
theorem j_perform (h : rz_JN B hp) (hB : B < 2 ^ 27) : rz_two B hp 97 164 [some (.ref 0), none, none, none] [some (.ref 115), none, none] := by
  obtain ⟨nw, bf, sn, hist, shot, tx, os, mos, pl, sp, ss, ro, re, mro, mre, hC, hM, hI, hh, hs, hc, hr⟩ := h
  refine rz_two_of (c_C_perform (d := 3) hI.I0 hC (fun h1 os' pl' j hj k1 s1 => ?_) (fun h1 pl' nw' hj hw k1 s1 => ?_) (fun h1 pl' i er nw' hj hw k1 s1 => ?_))
  · refine ⟨_, rfl, s1.1, rz_co_fv (hM.sm s1 (by omega)).1.1, m_M_perform (d := 3) hc (hM.sm s1 (by omega)) hI (by omega) (fun h2 sp' mos' j2 hj2 k2 s2 => ?_) (fun h2 sp' mos' nw2 hj2 => ?_) (fun h2 sp' mos' i er nw2 hj2 => ?_)⟩
    · rw [hj] at hj2
      cases hj2
      exact ⟨rfl, s2.1, _, _, _, _, _, _, _, _, _, _, _, _, _, _, _, k1.sm s2 (by omega), k2, hI, hh, hs, hc, hr⟩
    · rw [hj] at hj2; cases hj2
    · rw [hj] at hj2; cases hj2
  · refine ⟨_, rfl, s1.1, rz_co_fv (hM.sm s1 (by omega)).1.1, m_M_perform (d := 3) hc (hM.sm s1 (by omega)) hI (by omega) (fun h2 sp' mos' j2 hj2 => ?_) (fun h2 sp' mos' nw2 hj2 hw2 k2 s2 => ?_) (fun h2 sp' mos' i er nw2 hj2 hw2 => ?_)⟩
    · rw [hj] at hj2; cases hj2
    · rw [hw] at hw2
      cases hw2
      exact ⟨rfl, s2.1, _, _, _, _, _, _, _, _, _, _, _, _, _, _, _, k1.sm s2 (by omega), k2, rz_pw_IV _ _ _ _ hI hw, rz_rec_IV hI hh, hs, hc, hr⟩
    · rw [hw] at hw2; cases hw2
  · refine ⟨_, rfl, s1.1, rz_co_fv (hM.sm s1 (by omega)).1.1, m_M_perform (d := 3) hc (hM.sm s1 (by omega)) hI (by omega) (fun h2 sp' mos' j2 hj2 => ?_) (fun h2 sp' mos' nw2 hj2 hw2 => ?_) (fun h2 sp' mos' i2 er2 nw2 hj2 hw2 k2 s2 => ?_)⟩
    · rw [hj] at hj2; cases hj2
    · rw [hw] at hw2; cases hw2
    · have her := rz_pw_neg _ _ _ _ _ _ hw
      rw [hw] at hw2
      cases hw2
      exact ⟨rfl, s2.1, _, _, _, _, _, _, _, _, _, _, _, _, _, _, _, k1.sm s2 (by omega), k2, hI, hh, hs, hc, Or.inr ⟨her, rfl, rfl⟩⟩
theorem j_refusal {a : Int32} (h : rz_JN B hp) : rz_two B hp 98 165 [some (.ref 0), some (.int a)] [some (.ref 115), some (.int a)] := by
  have hJ := h
  obtain ⟨nw, bf, sn, hist, shot, tx, os, mos, pl, sp, ss, ro, re, mro, mre, hC, hM, hI, hh, hs, hc, hr⟩ := h
  refine rz_two_of ((c_C_refusal (d := 9) hC).mpr ⟨_, rfl, rfl, rz_co_fv hM.1.1, (m_M_refusal (d := 9) hM).mpr ⟨?_, rfl, hJ.mono (by omega)⟩⟩)
  have e : (if a = 0 then mro else if a = 1 then mre else -2) = rz_refu a ro re := by
    unfold rz_refu
    by_cases h0 : a = 0
    · subst h0
      rw [if_pos rfl, if_neg (by decide)]
      rcases hr with ⟨r1, r2, r3⟩ | ⟨r1, r2, r3⟩
      · rw [if_pos r1, r2]
      · rw [if_neg (fun q => by rw [q] at r1; exact absurd r1 (by decide)), if_pos rfl, r2]
    · by_cases h1 : a = 1
      · subst h1
        rw [if_neg h0, if_pos rfl, if_neg (by decide)]
        rcases hr with ⟨r1, r2, r3⟩ | ⟨r1, r2, r3⟩
        · rw [if_pos r1, r3]
        · rw [if_neg (fun q => by rw [q] at r1; exact absurd r1 (by decide)), if_neg h0, r3]
      · rw [if_neg h0, if_neg h1, if_pos]
        by_cases q : a < 0
        · exact Or.inl q
        · right
          obtain ⟨k, hk, rfl⟩ := nI_of q
          have k0 : ¬ k = 0 := fun q => h0 (by rw [q]; rfl)
          have k1 : ¬ k = 1 := fun q => h1 (by rw [q]; rfl)
          exact nI_lt (a := 1) (by omega) hk
  rw [e]
theorem j_undo (h : rz_JN B hp) : rz_two B hp 99 122 [some (.ref 0)] [some (.ref 115)] := by
  obtain ⟨nw, bf, sn, hist, shot, tx, os, mos, pl, sp, ss, ro, re, mro, mre, hC, hM, hI, hh, hs, hc, hr⟩ := h
  refine rz_two_of (c_C_undo (d := 4) hC (fun h1 nw' hn k1 s1 => ⟨_, rfl, s1.1, rz_co_fv (hM.sm s1 (by omega)).1.1, m_M_undo (d := 8) (hM.sm s1 (by omega)) (fun h2 k2 s2 => ⟨rfl, s2.1, ?_⟩)⟩))
  have e : hist.getLast?.getD nw = nw' := by
    rcases hn with ⟨rfl, rfl⟩ | q
    · rfl
    · rw [q]; rfl
  rw [e] at k2
  refine ⟨_, _, _, _, _, _, _, _, _, _, _, _, _, _, _, k1.sm s2 (by omega), k2.mono (by omega), ?_, fun x hx => hh x (List.dropLast_subset _ hx), hs, hc, hr⟩
  rcases hn with ⟨rfl, rfl⟩ | q
  · exact hI
  · exact hh _ (List.mem_of_getLast? q)
theorem j_keep (h : rz_JN B hp) : rz_two B hp 100 123 [some (.ref 0)] [some (.ref 115)] := by
  obtain ⟨nw, bf, sn, hist, shot, tx, os, mos, pl, sp, ss, ro, re, mro, mre, hC, hM, hI, hh, hs, hc, hr⟩ := h
  refine rz_two_of (c_C_keep (d := 5) hC (fun h1 k1 s1 => ⟨_, rfl, s1.1, rz_co_fv (hM.sm s1 (by omega)).1.1, m_M_keep (d := 8) (hM.sm s1 (by omega)) (fun h2 k2 s2 => ⟨rfl, s2.1, ?_⟩)⟩))
  exact ⟨_, _, _, _, some nw, _, _, _, _, _, _, _, _, _, _, k1.sm s2 (by omega), k2.mono (by omega), hI, hh, fun x hx => by cases hx; exact ⟨rfl, hI⟩, hc, hr⟩
theorem j_restore (h : rz_JN B hp) : rz_two B hp 101 124 [some (.ref 0)] [some (.ref 115)] := by
  have hJ := h
  obtain ⟨nw, bf, sn, hist, shot, tx, os, mos, pl, sp, ss, ro, re, mro, mre, hC, hM, hI, hh, hs, hc, hr⟩ := h
  cases shot with
  | none =>
    refine rz_two_of (c_C_restore (d := 3) hC (fun _ => ⟨_, rfl, rfl, rz_co_fv hM.1.1, m_M_restore (d := 6) hM (fun _ => ⟨rfl, rfl, hJ.mono (by omega)⟩) (fun x hx => by cases hx)⟩) (fun q => absurd rfl q))
  | some y =>
    obtain ⟨rfl, hy⟩ := hs y rfl
    refine rz_two_of (c_C_restore (d := 3) hC (fun q => absurd q (show ¬ (1 : Int32) = 0 by decide)) (fun _ h1 k1 s1 => ⟨_, rfl, s1.1, rz_co_fv (hM.sm s1 (by omega)).1.1, m_M_restore (d := 6) (hM.sm s1 (by omega)) (fun q => by cases q) (fun x hx h2 k2 s2 => ?_)⟩))
    cases hx
    exact ⟨rfl, s2.1, _, _, _, _, some sn, _, _, _, _, _, _, _, _, _, _, k1.sm s2 (by omega), k2.mono (by omega), hy, rz_rec_IV hI hh, fun x hx => by cases hx; exact ⟨rfl, hy⟩, hc, hr⟩
theorem j_entry {a b : Int32} (h : rz_JN B hp) : rz_two B hp 102 167 [some (.ref 0), some (.int a), some (.int b), none] [some (.ref 115), some (.int a), some (.int b), none] := by
  have hJ := h
  obtain ⟨nw, bf, sn, hist, shot, tx, os, mos, pl, sp, ss, ro, re, mro, mre, hC, hM, hI, hh, hs, hc, hr⟩ := h
  exact rz_two_of ((c_C_entry (d := 5) hC).mpr ⟨_, rfl, rfl, rz_co_fv hM.1.1, (m_M_entry (d := 7) hM hI).mpr ⟨rfl, rfl, hJ.mono (by omega)⟩⟩)
theorem j_pile {a b : Int32} (h : rz_JN B hp) : rz_two B hp 103 168 [some (.ref 0), some (.int a), some (.int b)] [some (.ref 115), some (.int a), some (.int b), none] := by
  have hJ := h
  obtain ⟨nw, bf, sn, hist, shot, tx, os, mos, pl, sp, ss, ro, re, mro, mre, hC, hM, hI, hh, hs, hc, hr⟩ := h
  exact rz_two_of ((c_C_pile (d := 6) hC).mpr ⟨_, rfl, rfl, rz_co_fv hM.1.1, (m_M_pile (d := 7) hM hI).mpr ⟨rfl, rfl, hJ.mono (by omega)⟩⟩)
theorem j_next {a : Int32} (h : rz_JN B hp) (hB : B < 2 ^ 27) : rz_two B hp 104 170 [some (.ref 0), some (.int a), none] [some (.ref 115), some (.int a)] := by
  obtain ⟨nw, bf, sn, hist, shot, tx, os, mos, pl, sp, ss, ro, re, mro, mre, hC, hM, hI, hh, hs, hc, hr⟩ := h
  refine rz_two_of ((c_C_next (d := 5) hC).mpr ⟨_, rfl, rfl, rz_co_fv hM.1.1, m_M_next (d := 3) hM hI (by omega) (fun h2 k2 s2 => ⟨rfl, s2.1, ?_⟩)⟩)
  exact ⟨_, _, _, _, _, _, _, _, _, _, _, _, _, _, _, hC.sm s2 (by omega), k2.mono (by omega), hI, hh, hs, hc, hr⟩
theorem j_ranked {a : Int32} (h : rz_JN B hp) (hB : B < 2 ^ 27) : rz_two B hp 105 172 [some (.ref 0), some (.int a), none] [some (.ref 115), some (.int a)] := by
  obtain ⟨nw, bf, sn, hist, shot, tx, os, mos, pl, sp, ss, ro, re, mro, mre, hC, hM, hI, hh, hs, hc, hr⟩ := h
  refine rz_two_of ((c_C_ranked (d := 5) hC).mpr ⟨_, rfl, rfl, rz_co_fv hM.1.1, m_M_ranked (d := 3) hM hI (by omega) (fun h2 k2 s2 => ⟨rfl, s2.1, ?_⟩)⟩)
  exact ⟨_, _, _, _, _, _, _, _, _, _, _, _, _, _, _, hC.sm s2 (by omega), k2.mono (by omega), hI, hh, hs, hc, hr⟩
theorem j_movesLeft (h : rz_JN B hp) : rz_two B hp 106 173 [some (.ref 0)] [some (.ref 115), none, none] := by
  have hJ := h
  obtain ⟨nw, bf, sn, hist, shot, tx, os, mos, pl, sp, ss, ro, re, mro, mre, hC, hM, hI, hh, hs, hc, hr⟩ := h
  exact rz_two_of ((c_C_movesLeft (d := 6) hC).mpr ⟨_, rfl, rfl, rz_co_fv hM.1.1, (m_M_movesLeft (d := 8) hM).mpr ⟨rfl, rfl, hJ.mono (by omega)⟩⟩)
theorem j_out {a b : Int32} (h : rz_JN B hp) : rz_two B hp 107 174 [some (.ref 0), some (.int a), some (.int b)] [some (.ref 115), some (.int a), some (.int b)] := by
  have hJ := h
  obtain ⟨⟨L, fl, am, lat, rd, laid, ci, co, tb⟩, bf, sn, hist, shot, tx, os, mos, pl, sp, ss, ro, re, mro, mre, hC, hM, hI, hh, hs, hc, hr⟩ := h
  exact rz_two_of ((c_C_out (d := 8) hC).mpr ⟨_, rfl, rfl, rz_co_fv hM.1.1, (m_M_out (d := 8) hM).mpr ⟨rfl, rfl, hJ.mono (by omega)⟩⟩)
theorem j_roadOf {a b : Int32} (h : rz_JN B hp) : rz_two B hp 108 175 [some (.ref 0), some (.int a), some (.int b)] [some (.ref 115), some (.int a), some (.int b)] := by
  have hJ := h
  obtain ⟨⟨L, fl, am, lat, rd, laid, ci, co, tb⟩, bf, sn, hist, shot, tx, os, mos, pl, sp, ss, ro, re, mro, mre, hC, hM, hI, hh, hs, hc, hr⟩ := h
  exact rz_two_of ((c_C_roadOf (d := 7) hC).mpr ⟨_, rfl, rfl, rz_co_fv hM.1.1, (m_M_roadOf (d := 7) hM).mpr ⟨rfl, rfl, hJ.mono (by omega)⟩⟩)
theorem j_distance {a b : Int32} (h : rz_JN B hp) : rz_two B hp 109 178 [some (.ref 0), some (.int a), some (.int b)] [some (.ref 115), some (.int a), some (.int b)] := by
  obtain ⟨⟨L, fl, am, lat, rd, laid, ci, co, tb⟩, bf, sn, hist, shot, tx, os, mos, pl, sp, ss, ro, re, mro, mre, hC, hM, hI, hh, hs, hc, hr⟩ := h
  refine rz_two_of (c_C_distance (d := 3) hI.2.2.1 hC (fun h1 ss' k1 s1 => ⟨_, rfl, s1.1, rz_co_fv (hM.sm s1 (by omega)).1.1, m_M_distance (d := 3) (hM.sm s1 (by omega)) hI (fun h2 k2 s2 => ⟨rfl, s2.1, ?_⟩)⟩))
  exact ⟨_, _, _, _, _, _, _, _, _, _, _, _, _, _, _, k1.sm s2 (by omega), k2.mono (by omega), hI, hh, hs, hc, hr⟩
theorem j_search {a b : Int32} (h : rz_JN B hp) : rz_two B hp 110 180 [some (.ref 0), some (.int a), some (.int b)] [some (.ref 115), some (.int a), some (.int b)] := by
  obtain ⟨⟨L, fl, am, lat, rd, laid, ci, co, tb⟩, bf, sn, hist, shot, tx, os, mos, pl, sp, ss, ro, re, mro, mre, hC, hM, hI, hh, hs, hc, hr⟩ := h
  refine rz_two_of (c_C_search (d := 3) hI.2.2.1 hC (fun h1 ss' k1 s1 => ⟨_, rfl, s1.1, rz_co_fv (hM.sm s1 (by omega)).1.1, m_M_search (d := 2) (hM.sm s1 (by omega)) hI (fun h2 k2 s2 => ⟨rfl, s2.1, ?_⟩)⟩))
  exact ⟨_, _, _, _, _, _, _, _, _, _, _, _, _, _, _, k1.sm s2 (by omega), k2.mono (by omega), hI, hh, hs, hc, hr⟩
theorem j_count {a : Int32} (h : rz_JN B hp) : rz_two B hp 111 182 [some (.ref 0), some (.int a)] [some (.ref 115), some (.int a)] := by
  have hJ := h
  obtain ⟨nw, bf, sn, hist, shot, tx, os, mos, pl, sp, ss, ro, re, mro, mre, hC, hM, hI, hh, hs, hc, hr⟩ := h
  exact rz_two_of ((c_C_count (d := 5) hC).mpr ⟨_, rfl, rfl, rz_co_fv hM.1.1, (m_M_count (d := 6) hM hI).mpr ⟨rfl, rfl, hJ.mono (by omega)⟩⟩)
/-- both sides are made -/
theorem j_make : ∃ (h1 h2 : rz_Hp), rz_ev 9 87 0 [some (.ref 0)] [] (rz_push (fun _ => .inl (0, 0, fun _ => 0), 0, 0) (.inr (.inr (8, rz_dv 8))) 10) (fun r' h' => r' = none ∧ h' = h1) ∧ h1.2 = (115, 3177) ∧ rz_ev 9 117 0 [some (.ref 115), none] [] (rz_push h1 (.inr (.inr (9, rz_dv 9))) 15) (fun r' h' => r' = none ∧ h' = h2) ∧ h2.2 = (124, 6800) ∧ rz_JN 0 h2 := by
  have hc : rz_ev 9 87 0 [some (.ref 0)] [] (rz_push (fun _ => .inl (0, 0, fun _ => 0), 0, 0) (.inr (.inr (8, rz_dv 8))) 10) (fun r' h1 => r' = none ∧ h1.2 = (115, 3177) ∧ rz_ev 9 117 0 [some (.ref 115), none] [] (rz_push h1 (.inr (.inr (9, rz_dv 9))) 15) (fun r2 h2 => r2 = none ∧ h2.2 = (124, 6800) ∧ rz_JN 0 h2)) := by
    refine c_C_init (d := 5) (b := 0) (rz_nw_push rfl) (fun h1 k1 e1 x1 => ⟨rfl, e1, ?_⟩)
    have n1 : h1.2.1 = 115 := by rw [e1]
    refine m_M_init (d := 8) (m := 115) (rz_nw_push n1) (fun h2 k2 e2 x2 => ⟨rfl, ?_, ?_⟩)
    · rw [e2, rz_w_push, e1]; rfl
    · have y : rz_ex 115 h1 h2 := (rz_ex_push (by rw [n1]; exact Nat.le_refl _)).tr x2
      obtain ⟨a, b, c, d, e, f, g, i⟩ := k1
      have I0 : rz_IV rz_st0 := ⟨rz_IE.nil (c := 0) (n := 0) (by decide) (by decide), by decide, ⟨fun i hi => Or.inl rfl, by decide⟩, by decide⟩
      refine ⟨_, _, _, _, none, _, _, _, _, _, _, _, _, _, _, ⟨rz_RF_ex a y (by omega), rz_ST_ex b y (by omega), rz_ST_ex c y (by omega), rz_ST_ex d y (by omega), rz_HI_ex e y (by omega), rz_TX_ex f y (by omega), rz_OR_ex g y (by omega), rz_SR_ex i y (by omega)⟩, k2, I0, fun x hx => absurd hx (List.not_mem_nil), fun x hx => (by cases hx), fun x hx => absurd hx (List.not_mem_nil), Or.inl ⟨rfl, rfl, rfl⟩⟩
  obtain ⟨n, hc⟩ := hc
  obtain ⟨r', h1, ⟨e1, e2, n2, h2⟩, -, -, hg⟩ := rz_go_one _ _ _ _ _ _ _ _ hc
  obtain ⟨r2, hp2, ⟨f1, f2, f3⟩, -, -, hg2⟩ := rz_go_one _ _ _ _ _ _ _ _ h2
  exact ⟨h1, hp2, ⟨n, hg _ ⟨e1, rfl⟩⟩, e2, ⟨n2, hg2 _ ⟨f1, rfl⟩⟩, f2, f3⟩
end RZBC
