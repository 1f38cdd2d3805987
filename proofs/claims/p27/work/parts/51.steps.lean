/-! Rows for walks by number -/
section CZS
variable {d o : Nat} {nw sn t : rz_AS} {hist : List rz_AS} {tx : List Int32} {tk ro re : Int32} {hp : rz_Hp} {R : Option Value → rz_Hp → Prop}
theorem q_undo0 (h : rz_OJ o nw sn [] tx tk ro re hp) (kk : ∀ hp', rz_OJ o nw sn [] tx tk ro re hp' → rz_sm o (o + 115) hp hp' → R (some (.int (-5))) hp') : rz_ev (d + 5) 99 0 [some (.ref o)] [] hp R :=
  q_undo h (fun hp' nw' e k s => by
    rcases e with ⟨-, e⟩ | e
    · subst e; exact kk hp' k s
    · cases e)
theorem rz_rec_last {hist : List rz_AS} {t : rz_AS} : (rz_rec hist t).getLast? = some t := by
  unfold rz_rec
  simp
theorem rz_rec_ne {hist : List rz_AS} {t : rz_AS} : ¬ rz_rec hist t = [] := by
  unfold rz_rec
  simp
theorem q_undo1 {n : Nat} (h : rz_OJ o nw sn (rz_rec hist t) tx tk ro re hp) (hn : (rz_rec hist t).length = n + 1) (kk : ∀ hp', rz_OJ o t sn (rz_rec hist t).dropLast tx tk ro re hp' → rz_sm o (o + 115) hp hp' → R (some (.int (nI n))) hp') : rz_ev (d + 5) 99 0 [some (.ref o)] [] hp R :=
  q_undo h (fun hp' nw' e k s => by
    rcases e with ⟨e, -⟩ | e
    · exact absurd e rz_rec_ne
    · rw [rz_rec_last] at e
      cases e
      rw [hn, if_neg (Nat.succ_ne_zero n), Nat.add_sub_cancel]
      exact kk hp' k s)
theorem q_restore0 (h : rz_OJ o nw sn hist tx 0 ro re hp) (kk : R (some (.int (-5))) hp) : rz_ev (d + 6) 101 0 [some (.ref o)] [] hp R :=
  q_restore h (fun _ => kk) (fun q => absurd rfl q)
end CZS
theorem rz_count_w {s : rz_AS} {hn tn : Nat} {w r : Int32} (h8 : ¬ w = 8) (h9 : ¬ w = 9) (h : rz_count_ s 0 0 w = r) : rz_count_ s hn tn w = r := by
  rw [← h]
  obtain ⟨L, fl, am, lat, rd, laid, ci, co, tb⟩ := s
  unfold rz_count_
  simp only [if_neg h8, ↓if_neg h9]
section CZR
variable {S : rz_E8} {rd : Nat → Int32} {x y len r v : Int32} {ix : Nat}
theorem cz_tw (h : 0 ≤ x ∧ x < 12 ∧ 0 ≤ y ∧ y < 12) : rz_town x ∧ rz_town y := ⟨⟨h.1, h.2.1⟩, h.2.2.1, h.2.2.2⟩
theorem cz_roadOf (h : 0 ≤ x ∧ x < 12 ∧ 0 ≤ y ∧ y < 12) (e : rd (rz_ix x y) = r) : rz_roadOf_ rd x y = r := by
  unfold rz_roadOf_
  rw [if_pos (cz_tw h)]
  exact e
theorem cz_dist (h : 0 ≤ x ∧ x < 12 ∧ 0 ≤ y ∧ y < 12) (e : (rz_sch rd x.toNatClampNeg).2.2.2.1 y.toNatClampNeg = r) : rz_distance_ rd x y = r := by
  unfold rz_distance_
  rw [if_pos (cz_tw h)]
  exact e
theorem cz_srch0 (h : 0 ≤ x ∧ x < 12) (e : (rz_sch rd x.toNatClampNeg).2.2.2.2.1 = r) : rz_search_ rd x 0 = r := by
  unfold rz_search_
  rw [if_pos (show rz_town x from h), if_pos rfl]
  exact e
theorem cz_srch1 (h : 0 ≤ x ∧ x < 12) (e : nI (rz_sch rd x.toNatClampNeg).2.2.2.2.2.1 = r) : rz_search_ rd x 1 = r := by
  unfold rz_search_
  rw [if_pos (show rz_town x from h), if_neg (by decide), if_pos rfl]
  exact e
theorem cz_srch2 (h : 0 ≤ x ∧ x < 12) (e : (rz_sch rd x.toNatClampNeg).2.2.1 = r) : rz_search_ rd x 2 = r := by
  unfold rz_search_
  rw [if_pos (show rz_town x from h), if_neg (by decide), if_neg (by decide), if_pos rfl]
  exact e
theorem cz_srch3 (h : 0 ≤ x ∧ x < 12) (e : (rz_sch rd x.toNatClampNeg).2.2.2.2.2.2 = r) : rz_search_ rd x 3 = r := by
  unfold rz_search_
  rw [if_pos (show rz_town x from h), if_neg (by decide), if_neg (by decide), if_neg (by decide), if_pos rfl]
  exact e
/-- a road where none was -/
theorem cz_road_a {S' : rz_E8} (h : 0 ≤ x ∧ x < 12 ∧ 0 ≤ y ∧ y < 12) (hl : ¬ (len < 0 ∨ 999 < len ∨ x = y)) (hi : rz_ix x y = ix) (h1 : rd ix = -5 ∧ ¬ 40 ≤ S.2.2.2.2.1 ∧ S.2.2.2.2.1 + 1 = r) (h2 : ¬ (-5 : Int32) = len) (hS : (S.1, S.2.1, S.2.2.1, S.2.2.2.1, r, S.2.2.2.2.2) = S') : rz_road_ (cz S rd) x y len = (r, cz S' (upd rd ix len)) := by
  obtain ⟨L, fl, am, lat, laid, ci, co, tb⟩ := S
  subst hS
  obtain ⟨g1, g2, g3⟩ := h1
  have g2 : ¬ 40 ≤ laid := g2
  have g3 : laid + 1 = r := g3
  have e : rz_lay_ rd laid x y len = (r, upd rd ix len, r) := by
    unfold rz_lay_
    rw [if_neg (fun q => q (cz_tw h)), if_neg hl, hi, g1, if_neg h2, if_neg (fun q => g2 q.2), if_pos rfl, g3]
  unfold rz_road_ cz
  simp only [e]
theorem cz_road_b (h : 0 ≤ x ∧ x < 12 ∧ 0 ≤ y ∧ y < 12) (hl : ¬ (len < 0 ∨ 999 < len ∨ x = y)) (hi : rz_ix x y = ix) (h1 : rd ix = v ∧ S.2.2.2.2.1 = r) (h2 : ¬ v = len) (h5 : ¬ v = -5) : rz_road_ (cz S rd) x y len = (r, cz S (upd rd ix len)) := by
  obtain ⟨L, fl, am, lat, laid, ci, co, tb⟩ := S
  obtain ⟨g1, g3⟩ := h1
  have g3 : laid = r := g3
  subst g3
  have e : rz_lay_ rd laid x y len = (laid, upd rd ix len, laid) := by
    unfold rz_lay_
    rw [if_neg (fun q => q (cz_tw h)), if_neg hl, hi, g1, if_neg h2, if_neg (fun q => h5 q.1), if_neg h5]
  unfold rz_road_ cz
  simp only [e]
theorem cz_road_c (h : 0 ≤ x ∧ x < 12 ∧ 0 ≤ y ∧ y < 12) (hl : ¬ (len < 0 ∨ 999 < len ∨ x = y)) (h1 : rd (rz_ix x y) = len) : rz_road_ (cz S rd) x y len = (-5, cz S rd) := by
  obtain ⟨L, fl, am, lat, laid, ci, co, tb⟩ := S
  have e : rz_lay_ rd laid x y len = (-5, rd, laid) := by
    unfold rz_lay_
    rw [if_neg (fun q => q (cz_tw h)), if_neg hl, if_pos h1]
  unfold rz_road_ cz
  simp only [e]
theorem cz_road_f (h : 0 ≤ x ∧ x < 12 ∧ 0 ≤ y ∧ y < 12) (hl : ¬ (len < 0 ∨ 999 < len ∨ x = y)) (h1 : rd (rz_ix x y) = -5 ∧ 40 ≤ S.2.2.2.2.1) (h2 : ¬ (-5 : Int32) = len) : rz_road_ (cz S rd) x y len = (-3, cz S rd) := by
  obtain ⟨L, fl, am, lat, laid, ci, co, tb⟩ := S
  have e : rz_lay_ rd laid x y len = (-3, rd, laid) := by
    unfold rz_lay_
    rw [if_neg (fun q => q (cz_tw h)), if_neg hl, h1.1, if_neg h2, if_pos ⟨rfl, h1.2⟩]
  unfold rz_road_ cz
  simp only [e]
theorem cz_unroad_a {S' : rz_E8} {l2 : Int32} (h : 0 ≤ x ∧ x < 12 ∧ 0 ≤ y ∧ y < 12) (hi : rz_ix x y = ix) (h1 : rd ix = r ∧ S.2.2.2.2.1 - 1 = l2) (hS : (S.1, S.2.1, S.2.2.1, S.2.2.2.1, l2, S.2.2.2.2.2) = S') (h2 : ¬ r = -5) : rz_unroad_ (cz S rd) x y = (r, cz S' (upd rd ix (-5))) := by
  obtain ⟨L, fl, am, lat, laid, ci, co, tb⟩ := S
  obtain ⟨g1, g2⟩ := h1
  have g2 : laid - 1 = l2 := g2
  subst g2
  subst hS
  have e0 : rz_lor rd x y = r := by unfold rz_lor; rw [if_pos (cz_tw h), hi]; exact g1
  have e : rz_rem_ rd laid x y = (r, upd rd ix (-5), laid - 1) := by
    unfold rz_rem_
    rw [if_neg (by rw [e0]; exact h2), e0, hi]
  unfold rz_unroad_ cz
  simp only [e]
end CZR
