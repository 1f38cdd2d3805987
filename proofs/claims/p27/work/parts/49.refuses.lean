/-! Errors, and what stays as it was: refusesAny, refused -/
theorem rz_so_keep {rd : Nat → Int32} {s : rz_SS} {t : Nat} {v : Int32} (h : s.2.2.2.1 t = v) (hv : ¬ v = -5) : (rz_so rd s).2.2.2.1 t = v := by
  unfold rz_so
  split
  · exact h
  · next j hj =>
    split
    · next h5 =>
      rw [(rz_fo_ds _ _ _ _ _).1]
      show upd s.2.2.2.1 _ _ t = v
      rw [pk_un (fun q => hv (by rw [← h, q]; exact h5))]
      exact h
    · exact h
theorem rz_slp_keep {rd : Nat → Int32} (n : Nat) {s : rz_SS} {t : Nat} {v : Int32} (h : s.2.2.2.1 t = v) (hv : ¬ v = -5) : (rz_slp rd n s).2.2.2.1 t = v := by
  induction n generalizing s with
  | zero => exact h
  | succ n ih =>
    unfold rz_slp
    split
    · exact h
    · exact ih (rz_so_keep h hv)
theorem rz_nxf_one (e : rz_En) : rz_nxf [e] = some 0 := by
  unfold rz_nxf
  simp
theorem rz_dist0 (rd : Nat → Int32) {t : Nat} (ht : t < 12) : (rz_sch rd t).2.2.2.1 t = 0 := by
  unfold rz_sch
  have e1 : rz_slp rd 41 (rz_s0 t) = rz_slp rd 40 (rz_so rd (rz_s0 t)) := by
    show (if (rz_s0 t).1.length = 0 then _ else _) = _
    rw [if_neg (show ¬ (rz_s0 t).1.length = 0 from Nat.one_ne_zero)]
  rw [e1]
  refine rz_slp_keep 40 ?_ (by decide)
  have e2 : rz_so rd (rz_s0 t) = _ := rz_so_eq (rd := rd) (s := rz_s0 t) (j := 0) (t := t) (e := (nI 0, 0, nI t, 0, rz_pl 0 0)) (rz_nxf_one _) rfl rfl ht
  rw [e2, if_pos (show (rz_s0 t).2.2.2.1 t = -5 from rfl), (rz_fo_ds _ _ _ _ _).1]
  exact pk_us
theorem rz_fi_no {s : rz_AS} {n : Int32} (h : ∀ x ∈ s.1, ¬ x.1 = n) : rz_fi s.1 n = none := by
  unfold rz_fi
  rw [List.findIdx?_eq_none_iff]
  intro x hx
  exact decide_eq_false (h x hx)
section RZNO
variable {s : rz_AS} {x y len n key val : Int32}
theorem rz_in_no (h : ¬ rz_key key ∨ val < 0 ∨ 999 < val) : rz_in_ s key val = (-2, s) := by
  obtain ⟨L, fl, am, lat, rd, laid, ci, co, tb⟩ := s
  unfold rz_in_
  exact if_pos h
theorem rz_upto_no (h : ¬ rz_key key) : rz_upto_ s key = (-2, s) := by
  unfold rz_upto_
  exact if_pos h
theorem rz_less_no (h : rz_fi s.1 n = none) : rz_less_ s n key = (-1, s) := by
  obtain ⟨L, fl, am, lat, rd, laid, ci, co, tb⟩ := s
  have h : rz_fi L n = none := h
  unfold rz_less_
  simp only [h]
theorem rz_back_no (h : rz_fi s.1 n = none) : rz_back_ s n = (-1, s) := by
  obtain ⟨L, fl, am, lat, rd, laid, ci, co, tb⟩ := s
  have h : rz_fi L n = none := h
  unfold rz_back_
  simp only [h]
theorem rz_road_no (h : ¬ (rz_town x ∧ rz_town y)) : rz_road_ s x y len = (-1, s) := by
  obtain ⟨L, fl, am, lat, rd, laid, ci, co, tb⟩ := s
  have e : rz_lay_ rd laid x y len = (-1, rd, laid) := by unfold rz_lay_; exact if_pos h
  unfold rz_road_
  simp only [e]
theorem rz_road_bad (h : rz_town x ∧ rz_town y) (h2 : len < 0 ∨ 999 < len ∨ x = y) : rz_road_ s x y len = (-2, s) := by
  obtain ⟨L, fl, am, lat, rd, laid, ci, co, tb⟩ := s
  have e : rz_lay_ rd laid x y len = (-2, rd, laid) := by unfold rz_lay_; rw [if_neg (fun q => q h)]; exact if_pos h2
  unfold rz_road_
  simp only [e]
theorem rz_unroad_no (h : ¬ (rz_town x ∧ rz_town y)) : rz_unroad_ s x y = (-1, s) := by
  obtain ⟨L, fl, am, lat, rd, laid, ci, co, tb⟩ := s
  have e0 : rz_lor rd x y = -5 := by unfold rz_lor; exact if_neg h
  have e : rz_rem_ rd laid x y = (-1, rd, laid) := by unfold rz_rem_; exact if_pos e0
  unfold rz_unroad_
  simp only [e]
theorem rz_unroad_none (h : rz_town x ∧ rz_town y) (h2 : s.2.2.2.2.1 (rz_ix x y) = -5) : rz_unroad_ s x y = (-1, s) := by
  obtain ⟨L, fl, am, lat, rd, laid, ci, co, tb⟩ := s
  have h2 : rd (rz_ix x y) = -5 := h2
  have e0 : rz_lor rd x y = -5 := by unfold rz_lor; rw [if_pos h]; exact h2
  have e : rz_rem_ rd laid x y = (-1, rd, laid) := by unfold rz_rem_; exact if_pos e0
  unfold rz_unroad_
  simp only [e]
theorem rz_ranked40 {L : List rz_En} (h : L.length ≤ 40) : rz_ranked_ L 40 = -5 := by
  have e : rz_rj L 40 = none := by
    unfold rz_rj
    rw [List.find?_eq_none]
    intro i hi
    have h1 := rz_rkL_lt (List.mem_range.mp hi)
    simp only [decide_eq_true_eq]
    omega
  unfold rz_ranked_
  rw [if_neg (by decide)]
  have e2 : (40 : Int32).toNatClampNeg = 40 := by decide
  rw [e2, e]
theorem rz_tell8 {A : List rz_La} (h : A.length ≤ 8) : rz_tell A 8 0 = -5 := by
  have e2 : (8 : Int32).toNatClampNeg = 8 := by decide
  have e : A[8]? = none := List.getElem?_eq_none h
  unfold rz_tell
  rw [if_neg (by decide), e2, e]
end RZNO
section RZNQ
variable {d o : Nat} {nw sn : rz_AS} {hist : List rz_AS} {tx : List Int32} {tk ro re : Int32} {hp : rz_Hp} {R : Option Value → rz_Hp → Prop}
theorem q_comeIn_n {key val r : Int32} (h : rz_OJ o nw sn hist tx tk ro re hp) (e : rz_in_ nw key val = (r, nw)) (hr : r < 0) (kk : ∀ hp', rz_OJ o nw sn hist tx tk ro re hp' → rz_sm o (o + 115) hp hp' → R (some (.int r)) hp') : rz_ev (d + 6) 88 0 [some (.ref o), some (.int key), some (.int val)] [] hp R :=
  q_comeIn h (fun hp' k s => by
    have k' : rz_OJ o nw sn (rz_hs r nw hist) tx tk ro re hp' := by rw [e] at k; exact k
    unfold rz_hs at k'
    rw [if_pos hr] at k'
    rw [e]
    exact kk hp' k' s)
theorem q_comeIn_y {key val r : Int32} {t : rz_AS} (h : rz_OJ o nw sn hist tx tk ro re hp) (e : rz_in_ nw key val = (r, t)) (hr : ¬ r < 0) (kk : ∀ hp', rz_OJ o t sn (rz_rec hist nw) tx tk ro re hp' → rz_sm o (o + 115) hp hp' → R (some (.int r)) hp') : rz_ev (d + 6) 88 0 [some (.ref o), some (.int key), some (.int val)] [] hp R :=
  q_comeIn h (fun hp' k s => by
    have k' : rz_OJ o t sn (rz_hs r nw hist) tx tk ro re hp' := by rw [e] at k; exact k
    unfold rz_hs at k'
    rw [if_neg hr] at k'
    rw [e]
    exact kk hp' k' s)
theorem q_comeOut_n {r : Int32} (h : rz_OJ o nw sn hist tx tk ro re hp) (e : rz_out_ nw = (r, nw)) (hr : r < 0) (kk : ∀ hp', rz_OJ o nw sn hist tx tk ro re hp' → rz_sm o (o + 115) hp hp' → R (some (.int r)) hp') : rz_ev (d + 6) 89 0 [some (.ref o)] [] hp R :=
  q_comeOut h (fun hp' k s => by
    have k' : rz_OJ o nw sn (rz_hs r nw hist) tx tk ro re hp' := by rw [e] at k; exact k
    unfold rz_hs at k'
    rw [if_pos hr] at k'
    rw [e]
    exact kk hp' k' s)
theorem q_comeOut_y {r : Int32} {t : rz_AS} (h : rz_OJ o nw sn hist tx tk ro re hp) (e : rz_out_ nw = (r, t)) (hr : ¬ r < 0) (kk : ∀ hp', rz_OJ o t sn (rz_rec hist nw) tx tk ro re hp' → rz_sm o (o + 115) hp hp' → R (some (.int r)) hp') : rz_ev (d + 6) 89 0 [some (.ref o)] [] hp R :=
  q_comeOut h (fun hp' k s => by
    have k' : rz_OJ o t sn (rz_hs r nw hist) tx tk ro re hp' := by rw [e] at k; exact k
    unfold rz_hs at k'
    rw [if_neg hr] at k'
    rw [e]
    exact kk hp' k' s)
theorem q_comeOutUpTo_n {key r : Int32} (h : rz_OJ o nw sn hist tx tk ro re hp) (e : rz_upto_ nw key = (r, nw)) (hr : r < 0) (kk : ∀ hp', rz_OJ o nw sn hist tx tk ro re hp' → rz_sm o (o + 115) hp hp' → R (some (.int r)) hp') : rz_ev (d + 6) 90 0 [some (.ref o), some (.int key)] [] hp R :=
  q_comeOutUpTo h (fun hp' k s => by
    have k' : rz_OJ o nw sn (rz_hs r nw hist) tx tk ro re hp' := by rw [e] at k; exact k
    unfold rz_hs at k'
    rw [if_pos hr] at k'
    rw [e]
    exact kk hp' k' s)
theorem q_comeOutUpTo_y {key r : Int32} {t : rz_AS} (h : rz_OJ o nw sn hist tx tk ro re hp) (e : rz_upto_ nw key = (r, t)) (hr : ¬ r < 0) (kk : ∀ hp', rz_OJ o t sn (rz_rec hist nw) tx tk ro re hp' → rz_sm o (o + 115) hp hp' → R (some (.int r)) hp') : rz_ev (d + 6) 90 0 [some (.ref o), some (.int key)] [] hp R :=
  q_comeOutUpTo h (fun hp' k s => by
    have k' : rz_OJ o t sn (rz_hs r nw hist) tx tk ro re hp' := by rw [e] at k; exact k
    unfold rz_hs at k'
    rw [if_neg hr] at k'
    rw [e]
    exact kk hp' k' s)
theorem q_less_n {n key r : Int32} (h : rz_OJ o nw sn hist tx tk ro re hp) (e : rz_less_ nw n key = (r, nw)) (hr : r < 0) (kk : ∀ hp', rz_OJ o nw sn hist tx tk ro re hp' → rz_sm o (o + 115) hp hp' → R (some (.int r)) hp') : rz_ev (d + 6) 91 0 [some (.ref o), some (.int n), some (.int key)] [] hp R :=
  q_less h (fun hp' k s => by
    have k' : rz_OJ o nw sn (rz_hs r nw hist) tx tk ro re hp' := by rw [e] at k; exact k
    unfold rz_hs at k'
    rw [if_pos hr] at k'
    rw [e]
    exact kk hp' k' s)
theorem q_less_y {n key r : Int32} {t : rz_AS} (h : rz_OJ o nw sn hist tx tk ro re hp) (e : rz_less_ nw n key = (r, t)) (hr : ¬ r < 0) (kk : ∀ hp', rz_OJ o t sn (rz_rec hist nw) tx tk ro re hp' → rz_sm o (o + 115) hp hp' → R (some (.int r)) hp') : rz_ev (d + 6) 91 0 [some (.ref o), some (.int n), some (.int key)] [] hp R :=
  q_less h (fun hp' k s => by
    have k' : rz_OJ o t sn (rz_hs r nw hist) tx tk ro re hp' := by rw [e] at k; exact k
    unfold rz_hs at k'
    rw [if_neg hr] at k'
    rw [e]
    exact kk hp' k' s)
theorem q_takeBack_n {n r : Int32} (h : rz_OJ o nw sn hist tx tk ro re hp) (e : rz_back_ nw n = (r, nw)) (hr : r < 0) (kk : ∀ hp', rz_OJ o nw sn hist tx tk ro re hp' → rz_sm o (o + 115) hp hp' → R (some (.int r)) hp') : rz_ev (d + 6) 92 0 [some (.ref o), some (.int n)] [] hp R :=
  q_takeBack h (fun hp' k s => by
    have k' : rz_OJ o nw sn (rz_hs r nw hist) tx tk ro re hp' := by rw [e] at k; exact k
    unfold rz_hs at k'
    rw [if_pos hr] at k'
    rw [e]
    exact kk hp' k' s)
theorem q_takeBack_y {n r : Int32} {t : rz_AS} (h : rz_OJ o nw sn hist tx tk ro re hp) (e : rz_back_ nw n = (r, t)) (hr : ¬ r < 0) (kk : ∀ hp', rz_OJ o t sn (rz_rec hist nw) tx tk ro re hp' → rz_sm o (o + 115) hp hp' → R (some (.int r)) hp') : rz_ev (d + 6) 92 0 [some (.ref o), some (.int n)] [] hp R :=
  q_takeBack h (fun hp' k s => by
    have k' : rz_OJ o t sn (rz_hs r nw hist) tx tk ro re hp' := by rw [e] at k; exact k
    unfold rz_hs at k'
    rw [if_neg hr] at k'
    rw [e]
    exact kk hp' k' s)
theorem q_road_n {x y len r : Int32} (h : rz_OJ o nw sn hist tx tk ro re hp) (e : rz_road_ nw x y len = (r, nw)) (hr : r < 0) (kk : ∀ hp', rz_OJ o nw sn hist tx tk ro re hp' → rz_sm o (o + 115) hp hp' → R (some (.int r)) hp') : rz_ev (d + 6) 93 0 [some (.ref o), some (.int x), some (.int y), some (.int len)] [] hp R :=
  q_road h (fun hp' k s => by
    have k' : rz_OJ o nw sn (rz_hs r nw hist) tx tk ro re hp' := by rw [e] at k; exact k
    unfold rz_hs at k'
    rw [if_pos hr] at k'
    rw [e]
    exact kk hp' k' s)
theorem q_road_y {x y len r : Int32} {t : rz_AS} (h : rz_OJ o nw sn hist tx tk ro re hp) (e : rz_road_ nw x y len = (r, t)) (hr : ¬ r < 0) (kk : ∀ hp', rz_OJ o t sn (rz_rec hist nw) tx tk ro re hp' → rz_sm o (o + 115) hp hp' → R (some (.int r)) hp') : rz_ev (d + 6) 93 0 [some (.ref o), some (.int x), some (.int y), some (.int len)] [] hp R :=
  q_road h (fun hp' k s => by
    have k' : rz_OJ o t sn (rz_hs r nw hist) tx tk ro re hp' := by rw [e] at k; exact k
    unfold rz_hs at k'
    rw [if_neg hr] at k'
    rw [e]
    exact kk hp' k' s)
theorem q_unroad_n {x y r : Int32} (h : rz_OJ o nw sn hist tx tk ro re hp) (e : rz_unroad_ nw x y = (r, nw)) (hr : r < 0) (kk : ∀ hp', rz_OJ o nw sn hist tx tk ro re hp' → rz_sm o (o + 115) hp hp' → R (some (.int r)) hp') : rz_ev (d + 6) 94 0 [some (.ref o), some (.int x), some (.int y)] [] hp R :=
  q_unroad h (fun hp' k s => by
    have k' : rz_OJ o nw sn (rz_hs r nw hist) tx tk ro re hp' := by rw [e] at k; exact k
    unfold rz_hs at k'
    rw [if_pos hr] at k'
    rw [e]
    exact kk hp' k' s)
theorem q_unroad_y {x y r : Int32} {t : rz_AS} (h : rz_OJ o nw sn hist tx tk ro re hp) (e : rz_unroad_ nw x y = (r, t)) (hr : ¬ r < 0) (kk : ∀ hp', rz_OJ o t sn (rz_rec hist nw) tx tk ro re hp' → rz_sm o (o + 115) hp hp' → R (some (.int r)) hp') : rz_ev (d + 6) 94 0 [some (.ref o), some (.int x), some (.int y)] [] hp R :=
  q_unroad h (fun hp' k s => by
    have k' : rz_OJ o t sn (rz_hs r nw hist) tx tk ro re hp' := by rw [e] at k; exact k
    unfold rz_hs at k'
    rw [if_neg hr] at k'
    rw [e]
    exact kk hp' k' s)
set_option maxHeartbeats 4000000 in
set_option maxRecDepth 100000 in
theorem q_refusesAny0 (h : rz_OJ o nw sn hist tx tk ro re hp) {c : Nat} (hc1 : c ≤ 1000) (hci : nw.2.2.2.2.2.2.1 = nI c) (hcn : ∀ x ∈ nw.1, ∃ m : Nat, m < c ∧ x.1 = nI m) (kk : ∀ hp', rz_OJ o nw sn hist tx tk ro re hp' → rz_sm o (o + 115) hp hp' → R (some (.int 1)) hp') : rz_ev (d + 7) 120 0 [some (.ref o), some (.int 0), none, none, none] [] hp R := by
  have hIW := h.2.1
  have hlen := h.len
  have h40 : nw.1.length ≤ 40 := by
    obtain ⟨L, fl, am, lat, rd, laid, ci, co, tb⟩ := nw
    exact hIW.1.2.1
  have hfi : rz_fi nw.1 (-1) = none := rz_fi_no (fun x hx q => by
    obtain ⟨m, hm, e⟩ := hcn x hx
    rw [e] at q
    exact absurd (show nI m < 0 by rw [q]; decide) (nI_pos (by omega)))
  have hK : ¬ rz_key (-1) := fun q => absurd q.1 (by decide)
  have hT : ¬ rz_town (-1) := fun q => absurd q.1 (by decide)
  have hT0 : rz_town 0 := by unfold rz_town; decide
  have hT1 : rz_town 1 := by unfold rz_town; decide
  have hT5 : rz_town 5 := by unfold rz_town; decide
  have hT6 : rz_town 6 := by unfold rz_town; decide
  have hT3 : rz_town 3 := by unfold rz_town; decide
  have e1 : rz_in_ nw (-1) 0 = (-2, nw) := rz_in_no (Or.inl hK)
  have e2 : rz_in_ nw 65535 (-1) = (-2, nw) := rz_in_no (Or.inr (by decide))
  have e3 : rz_upto_ nw (-1) = (-2, nw) := rz_upto_no hK
  have e4 : rz_less_ nw (-1) (-1) = (-1, nw) := rz_less_no hfi
  have e5 : rz_back_ nw (-1) = (-1, nw) := rz_back_no hfi
  have e6 : rz_road_ nw (-1) 0 (-1) = (-1, nw) := rz_road_no (fun q => hT q.1)
  have e7 : rz_road_ nw 0 (-1) 1000 = (-1, nw) := rz_road_no (fun q => hT q.2)
  have e8 : rz_road_ nw 0 1 (-1) = (-2, nw) := rz_road_bad ⟨hT0, hT1⟩ (by decide)
  have e9 : rz_road_ nw 5 5 1 = (-2, nw) := rz_road_bad ⟨hT5, hT5⟩ (by decide)
  have e10 : rz_unroad_ nw (-1) 0 = (-1, nw) := rz_unroad_no (fun q => hT q.1)
  have e11 : rz_unroad_ nw 0 (-1) = (-1, nw) := rz_unroad_no (fun q => hT q.2)
  have e12 : rz_unroad_ nw 6 6 = (-1, nw) := rz_unroad_none ⟨hT6, hT6⟩ hIW.2
  have r1 : rz_refu (-1) ro re = -2 := by unfold rz_refu; exact if_pos (by decide)
  have r2 : rz_entry_ nw.1 (-1) 9 = -1 := by unfold rz_entry_; rw [hfi]
  have r3 : rz_pile_ nw.1 (-1) 9 = -1 := by unfold rz_pile_; exact if_pos (by decide)
  have r4 : rz_pile_ nw.1 16 (-1) = -2 := by unfold rz_pile_; rw [if_neg (by decide), if_neg (by decide), if_neg (by decide), if_neg (by decide), if_neg (by decide)]
  have r5 : rz_next_ nw.1 (-1) = -2 := by unfold rz_next_; exact if_pos (by decide)
  have r6 : rz_ranked_ nw.1 (-1) = -2 := by unfold rz_ranked_; exact if_pos (by decide)
  have r7 : rz_ranked_ nw.1 40 = -5 := rz_ranked40 h40
  have r8 : rz_tell nw.2.2.2.1 (-1) 0 = -2 := by unfold rz_tell; exact if_pos (by decide)
  have r9 : rz_tell nw.2.2.2.1 0 (-1) = -2 := by unfold rz_tell; exact if_pos (by decide)
  have r10 : rz_tell nw.2.2.2.1 8 0 = -5 := rz_tell8 hlen.2.2
  have r11 : rz_roadOf_ nw.2.2.2.2.1 (-1) 0 = -1 := by unfold rz_roadOf_; exact if_neg (fun q => hT q.1)
  have r12 : rz_roadOf_ nw.2.2.2.2.1 0 (-1) = -1 := by unfold rz_roadOf_; exact if_neg (fun q => hT q.2)
  have r13 : rz_distance_ nw.2.2.2.2.1 (-1) 0 = -1 := by unfold rz_distance_; exact if_neg (fun q => hT q.1)
  have r14 : rz_distance_ nw.2.2.2.2.1 0 (-1) = -1 := by unfold rz_distance_; exact if_neg (fun q => hT q.2)
  have r15 : rz_distance_ nw.2.2.2.2.1 3 3 = 0 := by unfold rz_distance_; rw [if_pos ⟨hT3, hT3⟩]; exact rz_dist0 _ (by decide)
  have r16 : rz_search_ nw.2.2.2.2.1 (-1) 9 = -1 := by unfold rz_search_; exact if_neg hT
  have r17 : rz_search_ nw.2.2.2.2.1 0 (-1) = -2 := by unfold rz_search_; rw [if_pos hT0, if_neg (by decide), if_neg (by decide), if_neg (by decide), if_neg (by decide)]
  have r18 : rz_count_ nw hist.length tx.length (-1) = -2 := by
    obtain ⟨L, fl, am, lat, rd, laid, ci, co, tb⟩ := nw
    rfl
  have r0 : rz_count_ nw hist.length tx.length 1 = nI c := by
    obtain ⟨L, fl, am, lat, rd, laid, ci, co, tb⟩ := nw
    exact hci
  have n2 : (-2 : Int32) < 0 := by decide
  have n1 : (-1 : Int32) < 0 := by decide
  have hc := h.co
  have hcount := fun R => q_count (d := d + 2) (what := 1) h (R := R)

  simp only [↓ri_120_0, ↓ri_120_1, ↓ri_120_4, ↓ri_120_5, ↓ri_120_8, ↓ri_120_9, ↓ri_120_10, ↓ri_120_13, ↓ri_120_14, ↓ri_120_15, ↓ri_120_18, ↓ri_120_19, ↓ri_120_22, ↓ri_120_24, ↓ri_120_25, ↓ri_120_26, ↓ri_120_29, ↓ri_120_30, ↓ri_120_33, ↓ri_120_35, ↓ri_120_37, ↓ri_120_38, ↓ri_120_40, ↓ri_120_41, Option.some.injEq, Prod.mk.injEq, exists_eq_left', exists_eq', exists_and_left, exists_and_right, true_and, and_true, true_or, or_true, and_self, and_assoc, Option.toList_some, Option.toList_none, List.cons_append, List.nil_append, ↓reduceIte, rz_x01, rz_x10, hc, hcount, r0]
  refine q_comeIn_n (d := d) h e1 n2 (fun hp0 h0 s0 => ?_)
  clear hc hcount
  have hc := h0.co
  have hcount := fun R => q_count (d := d + 2) (what := 1) h0 (R := R)
  simp only [↓ri_120_44, ↓ri_120_46, ↓ri_120_49, ↓ri_120_50, ↓ri_120_52, ↓ri_120_53, ↓ri_120_56, ↓ri_120_57, ↓ri_120_60, ↓ri_120_63, Option.some.injEq, Prod.mk.injEq, exists_eq_left', exists_eq', exists_and_left, exists_and_right, true_and, and_true, true_or, or_true, and_self, and_assoc, Option.toList_some, Option.toList_none, List.cons_append, List.nil_append, ↓reduceIte, rz_x01, rz_x10, hc, hcount, r0]
  refine q_comeIn_n (d := d) h0 e2 n2 (fun hp1 h1 s1 => ?_)
  clear hc hcount
  have hc := h1.co
  have hcount := fun R => q_count (d := d + 2) (what := 1) h1 (R := R)
  simp only [↓ri_120_66, ↓ri_120_68, ↓ri_120_71, ↓ri_120_72, ↓ri_120_74, Option.some.injEq, Prod.mk.injEq, exists_eq_left', exists_eq', exists_and_left, exists_and_right, true_and, and_true, true_or, or_true, and_self, and_assoc, Option.toList_some, Option.toList_none, List.cons_append, List.nil_append, ↓reduceIte, rz_x01, rz_x10, hc, hcount, r0]
  refine q_comeOutUpTo_n (d := d) h1 e3 n2 (fun hp2 h2 s2 => ?_)
  clear hc hcount
  have hc := h2.co
  have hcount := fun R => q_count (d := d + 2) (what := 1) h2 (R := R)
  simp only [↓ri_120_77, ↓ri_120_79, ↓ri_120_82, ↓ri_120_83, ↓ri_120_84, ↓ri_120_86, Option.some.injEq, Prod.mk.injEq, exists_eq_left', exists_eq', exists_and_left, exists_and_right, true_and, and_true, true_or, or_true, and_self, and_assoc, Option.toList_some, Option.toList_none, List.cons_append, List.nil_append, ↓reduceIte, rz_x01, rz_x10, hc, hcount, r0]
  refine q_less_n (d := d) h2 e4 n1 (fun hp3 h3 s3 => ?_)
  clear hc hcount
  have hc := h3.co
  have hcount := fun R => q_count (d := d + 2) (what := 1) h3 (R := R)
  simp only [↓ri_120_89, ↓ri_120_90, ↓ri_120_93, ↓ri_120_94, ↓ri_120_95, Option.some.injEq, Prod.mk.injEq, exists_eq_left', exists_eq', exists_and_left, exists_and_right, true_and, and_true, true_or, or_true, and_self, and_assoc, Option.toList_some, Option.toList_none, List.cons_append, List.nil_append, ↓reduceIte, rz_x01, rz_x10, hc, hcount, r0]
  refine q_takeBack_n (d := d) h3 e5 n1 (fun hp4 h4 s4 => ?_)
  clear hc hcount
  have hc := h4.co
  have hcount := fun R => q_count (d := d + 2) (what := 1) h4 (R := R)
  simp only [↓ri_120_98, ↓ri_120_99, ↓ri_120_102, ↓ri_120_103, ↓ri_120_104, ↓ri_120_105, ↓ri_120_106, Option.some.injEq, Prod.mk.injEq, exists_eq_left', exists_eq', exists_and_left, exists_and_right, true_and, and_true, true_or, or_true, and_self, and_assoc, Option.toList_some, Option.toList_none, List.cons_append, List.nil_append, ↓reduceIte, rz_x01, rz_x10, hc, hcount, r0]
  refine q_road_n (d := d) h4 e6 n1 (fun hp5 h5 s5 => ?_)
  clear hc hcount
  have hc := h5.co
  have hcount := fun R => q_count (d := d + 2) (what := 1) h5 (R := R)
  simp only [↓ri_120_109, ↓ri_120_110, ↓ri_120_113, ↓ri_120_114, ↓ri_120_115, ↓ri_120_116, ↓ri_120_119, Option.some.injEq, Prod.mk.injEq, exists_eq_left', exists_eq', exists_and_left, exists_and_right, true_and, and_true, true_or, or_true, and_self, and_assoc, Option.toList_some, Option.toList_none, List.cons_append, List.nil_append, ↓reduceIte, rz_x01, rz_x10, hc, hcount, r0]
  refine q_road_n (d := d) h5 e7 n1 (fun hp6 h6 s6 => ?_)
  clear hc hcount
  have hc := h6.co
  have hcount := fun R => q_count (d := d + 2) (what := 1) h6 (R := R)
  simp only [↓ri_120_122, ↓ri_120_123, ↓ri_120_126, ↓ri_120_127, ↓ri_120_128, ↓ri_120_129, ↓ri_120_130, ↓ri_120_133, ↓ri_120_134, ↓ri_120_137, ↓ri_120_140, Option.some.injEq, Prod.mk.injEq, exists_eq_left', exists_eq', exists_and_left, exists_and_right, true_and, and_true, true_or, or_true, and_self, and_assoc, Option.toList_some, Option.toList_none, List.cons_append, List.nil_append, ↓reduceIte, rz_x01, rz_x10, hc, hcount, r0]
  refine q_road_n (d := d) h6 e8 n2 (fun hp7 h7 s7 => ?_)
  clear hc hcount
  have hc := h7.co
  have hcount := fun R => q_count (d := d + 2) (what := 1) h7 (R := R)
  simp only [↓ri_120_143, ↓ri_120_145, ↓ri_120_148, ↓ri_120_149, ↓ri_120_150, ↓ri_120_151, ↓ri_120_152, Option.some.injEq, Prod.mk.injEq, exists_eq_left', exists_eq', exists_and_left, exists_and_right, true_and, and_true, true_or, or_true, and_self, and_assoc, Option.toList_some, Option.toList_none, List.cons_append, List.nil_append, ↓reduceIte, rz_x01, rz_x10, hc, hcount, r0]
  refine q_road_n (d := d) h7 e9 n2 (fun hp8 h8 s8 => ?_)
  clear hc hcount
  have hc := h8.co
  have hcount := fun R => q_count (d := d + 2) (what := 1) h8 (R := R)
  simp only [↓ri_120_155, ↓ri_120_157, ↓ri_120_160, ↓ri_120_161, ↓ri_120_162, ↓ri_120_163, Option.some.injEq, Prod.mk.injEq, exists_eq_left', exists_eq', exists_and_left, exists_and_right, true_and, and_true, true_or, or_true, and_self, and_assoc, Option.toList_some, Option.toList_none, List.cons_append, List.nil_append, ↓reduceIte, rz_x01, rz_x10, hc, hcount, r0]
  refine q_unroad_n (d := d) h8 e10 n1 (fun hp9 h9 s9 => ?_)
  clear hc hcount
  have hc := h9.co
  have hcount := fun R => q_count (d := d + 2) (what := 1) h9 (R := R)
  simp only [↓ri_120_166, ↓ri_120_167, ↓ri_120_170, ↓ri_120_171, ↓ri_120_172, ↓ri_120_173, Option.some.injEq, Prod.mk.injEq, exists_eq_left', exists_eq', exists_and_left, exists_and_right, true_and, and_true, true_or, or_true, and_self, and_assoc, Option.toList_some, Option.toList_none, List.cons_append, List.nil_append, ↓reduceIte, rz_x01, rz_x10, hc, hcount, r0]
  refine q_unroad_n (d := d) h9 e11 n1 (fun hp10 h10 s10 => ?_)
  clear hc hcount
  have hc := h10.co
  have hcount := fun R => q_count (d := d + 2) (what := 1) h10 (R := R)
  simp only [↓ri_120_176, ↓ri_120_177, ↓ri_120_180, ↓ri_120_181, ↓ri_120_183, ↓ri_120_185, Option.some.injEq, Prod.mk.injEq, exists_eq_left', exists_eq', exists_and_left, exists_and_right, true_and, and_true, true_or, or_true, and_self, and_assoc, Option.toList_some, Option.toList_none, List.cons_append, List.nil_append, ↓reduceIte, rz_x01, rz_x10, hc, hcount, r0]
  refine q_unroad_n (d := d) h10 e12 n1 (fun hp11 h11 s11 => ?_)
  clear hc hcount
  have hc := h11.co
  have hcount := fun R => q_count (d := d + 2) (what := 1) h11 (R := R)
  have b1 := fun (R : Option Value → rz_Hp → Prop) => (q_refusal (d := d + 6) (what := (-1)) h11 (R := R)).trans (by rw [r1])
  have b2 := fun (R : Option Value → rz_Hp → Prop) => (q_entry (d := d + 2) (n := (-1)) (what := 9) h11 (R := R)).trans (by rw [r2])
  have b3 := fun (R : Option Value → rz_Hp → Prop) => (q_pile (d := d + 3) (p := (-1)) (what := 9) h11 (R := R)).trans (by rw [r3])
  have b4 := fun (R : Option Value → rz_Hp → Prop) => (q_pile (d := d + 3) (p := 16) (what := (-1)) h11 (R := R)).trans (by rw [r4])
  have b5 := fun (R : Option Value → rz_Hp → Prop) => (q_next (d := d + 2) (what := (-1)) h11 (R := R)).trans (by rw [r5])
  have b6 := fun (R : Option Value → rz_Hp → Prop) => (q_ranked (d := d + 2) (rank := -1) h11 (R := R)).trans (by rw [r6])
  have b7 := fun (R : Option Value → rz_Hp → Prop) => (q_ranked (d := d + 2) (rank := 40) h11 (R := R)).trans (by rw [r7])
  have b8 := fun (R : Option Value → rz_Hp → Prop) => (q_out (d := d + 5) (back := -1) (what := 0) h11 (R := R)).trans (by rw [r8])
  have b9 := fun (R : Option Value → rz_Hp → Prop) => (q_out (d := d + 5) (back := 0) (what := (-1)) h11 (R := R)).trans (by rw [r9])
  have b10 := fun (R : Option Value → rz_Hp → Prop) => (q_out (d := d + 5) (back := 8) (what := 0) h11 (R := R)).trans (by rw [r10])
  have b11 := fun (R : Option Value → rz_Hp → Prop) => (q_roadOf (d := d + 4) (x := (-1)) (y := 0) h11 (R := R)).trans (by rw [r11])
  have b12 := fun (R : Option Value → rz_Hp → Prop) => (q_roadOf (d := d + 4) (x := 0) (y := (-1)) h11 (R := R)).trans (by rw [r12])
  simp only [↓ri_120_188, ↓ri_120_189, ↓ri_120_192, ↓ri_120_193, ↓ri_120_194, ↓ri_120_197, ↓ri_120_198, ↓ri_120_201, ↓ri_120_202, ↓ri_120_205, ↓ri_120_207, ↓ri_120_210, ↓ri_120_211, ↓ri_120_212, ↓ri_120_213, ↓ri_120_214, ↓ri_120_216, ↓ri_120_219, ↓ri_120_220, ↓ri_120_223, ↓ri_120_224, ↓ri_120_225, ↓ri_120_228, ↓ri_120_229, ↓ri_120_232, ↓ri_120_234, ↓ri_120_236, ↓ri_120_239, ↓ri_120_240, ↓ri_120_243, ↓ri_120_244, ↓ri_120_246, ↓ri_120_247, ↓ri_120_250, ↓ri_120_251, ↓ri_120_254, ↓ri_120_255, ↓ri_120_258, ↓ri_120_260, ↓ri_120_263, ↓ri_120_264, ↓ri_120_265, ↓ri_120_268, ↓ri_120_269, ↓ri_120_272, ↓ri_120_273, ↓ri_120_276, ↓ri_120_278, ↓ri_120_281, ↓ri_120_282, ↓ri_120_283, ↓ri_120_286, ↓ri_120_288, ↓ri_120_291, ↓ri_120_292, ↓ri_120_294, ↓ri_120_297, ↓ri_120_299, ↓ri_120_302, ↓ri_120_303, ↓ri_120_304, ↓ri_120_305, ↓ri_120_308, ↓ri_120_310, ↓ri_120_313, ↓ri_120_314, ↓ri_120_315, ↓ri_120_316, ↓ri_120_319, ↓ri_120_320, ↓ri_120_323, ↓ri_120_324, ↓ri_120_327, ↓ri_120_329, ↓ri_120_332, ↓ri_120_333, ↓ri_120_335, ↓ri_120_336, ↓ri_120_339, ↓ri_120_341, ↓ri_120_344, ↓ri_120_345, ↓ri_120_346, ↓ri_120_347, ↓ri_120_350, ↓ri_120_351, ↓ri_120_354, ↓ri_120_355, ↓ri_120_356, ↓ri_120_357, ↓ri_120_360, ↓ri_120_361, ↓ri_120_364, ↓ri_120_365, ↓ri_120_366, ↓ri_120_367, Option.some.injEq, Prod.mk.injEq, exists_eq_left', exists_eq', exists_and_left, exists_and_right, true_and, and_true, true_or, or_true, and_self, and_assoc, Option.toList_some, Option.toList_none, List.cons_append, List.nil_append, ↓reduceIte, rz_x01, rz_x10, hc, b1, b2, b3, b4, b5, b6, b7, b8, b9, b10, b11, b12]
  refine q_distance (d := d) h11 (fun hp12 h12 s12 => ?_)
  rw [r13]
  clear hc
  have hc := h12.co
  simp only [↓ri_120_370, ↓ri_120_371, ↓ri_120_374, ↓ri_120_375, ↓ri_120_376, ↓ri_120_377, Option.some.injEq, Prod.mk.injEq, exists_eq_left', exists_eq', exists_and_left, exists_and_right, true_and, and_true, true_or, or_true, and_self, and_assoc, Option.toList_some, Option.toList_none, List.cons_append, List.nil_append, ↓reduceIte, rz_x01, rz_x10, hc]
  refine q_distance (d := d) h12 (fun hp13 h13 s13 => ?_)
  rw [r14]
  clear hc
  have hc := h13.co
  simp only [↓ri_120_380, ↓ri_120_381, ↓ri_120_384, ↓ri_120_385, ↓ri_120_386, ↓ri_120_387, Option.some.injEq, Prod.mk.injEq, exists_eq_left', exists_eq', exists_and_left, exists_and_right, true_and, and_true, true_or, or_true, and_self, and_assoc, Option.toList_some, Option.toList_none, List.cons_append, List.nil_append, ↓reduceIte, rz_x01, rz_x10, hc]
  refine q_distance (d := d) h13 (fun hp14 h14 s14 => ?_)
  rw [r15]
  clear hc
  have hc := h14.co
  simp only [↓ri_120_390, ↓ri_120_393, ↓ri_120_394, ↓ri_120_395, ↓ri_120_397, Option.some.injEq, Prod.mk.injEq, exists_eq_left', exists_eq', exists_and_left, exists_and_right, true_and, and_true, true_or, or_true, and_self, and_assoc, Option.toList_some, Option.toList_none, List.cons_append, List.nil_append, ↓reduceIte, rz_x01, rz_x10, hc]
  refine q_search (d := d) h14 (fun hp15 h15 s15 => ?_)
  rw [r16]
  clear hc
  have hc := h15.co
  simp only [↓ri_120_400, ↓ri_120_401, ↓ri_120_404, ↓ri_120_405, ↓ri_120_406, ↓ri_120_407, ↓ri_120_410, ↓ri_120_411, ↓ri_120_414, ↓ri_120_415, Option.some.injEq, Prod.mk.injEq, exists_eq_left', exists_eq', exists_and_left, exists_and_right, true_and, and_true, true_or, or_true, and_self, and_assoc, Option.toList_some, Option.toList_none, List.cons_append, List.nil_append, ↓reduceIte, rz_x01, rz_x10, hc]
  refine q_search (d := d) h15 (fun hp16 h16 s16 => ?_)
  rw [r17]
  clear hc
  have hc := h16.co
  have b13 := fun (R : Option Value → rz_Hp → Prop) => (q_count (d := d + 2) (what := (-1)) h16 (R := R)).trans (by rw [r18])
  simp only [↓ri_120_418, ↓ri_120_420, ↓ri_120_423, ↓ri_120_424, ↓ri_120_425, ↓ri_120_428, ↓ri_120_429, ↓ri_120_432, ↓ri_120_434, ↓ri_120_437, ↓ri_120_439, ↓ri_120_442, ↓ri_120_443, ↓ri_120_446, ↓ri_120_447, Option.some.injEq, Prod.mk.injEq, exists_eq_left', exists_eq', exists_and_left, exists_and_right, true_and, and_true, true_or, or_true, and_self, and_assoc, Option.toList_some, Option.toList_none, List.cons_append, List.nil_append, ↓reduceIte, rz_x01, rz_x10, hc, b13]
  exact kk _ h16 ((((((((((((((((s0.tr s1).tr s2).tr s3).tr s4).tr s5).tr s6).tr s7).tr s8).tr s9).tr s10).tr s11).tr s12).tr s13).tr s14).tr s15).tr s16)
set_option maxHeartbeats 4000000 in
set_option maxRecDepth 100000 in
theorem q_refusesAny1 (h : rz_OJ o nw sn hist tx tk ro re hp) {c : Nat} (hc1 : c ≤ 1000) (hci : nw.2.2.2.2.2.2.1 = nI c) (hcn : ∀ x ∈ nw.1, ∃ m : Nat, m < c ∧ x.1 = nI m) (kk : ∀ hp', rz_OJ o nw sn hist tx tk ro re hp' → rz_sm o (o + 115) hp hp' → R (some (.int 1)) hp') : rz_ev (d + 7) 120 0 [some (.ref o), some (.int 1), none, none, none] [] hp R := by
  have hIW := h.2.1
  have hlen := h.len
  have h40 : nw.1.length ≤ 40 := by
    obtain ⟨L, fl, am, lat, rd, laid, ci, co, tb⟩ := nw
    exact hIW.1.2.1
  have hfi : rz_fi nw.1 (nI c) = none := rz_fi_no (fun x hx q => by
    obtain ⟨m, hm, e⟩ := hcn x hx
    rw [e] at q
    have := (nI_eq (by omega) (by omega)).mp q
    omega)
  have hK : ¬ rz_key 65536 := fun q => absurd q.2 (by decide)
  have hT : ¬ rz_town 12 := fun q => absurd q.2 (by decide)
  have hT0 : rz_town 0 := by unfold rz_town; decide
  have hT1 : rz_town 1 := by unfold rz_town; decide
  have hT5 : rz_town 5 := by unfold rz_town; decide
  have hT6 : rz_town 6 := by unfold rz_town; decide
  have hT3 : rz_town 3 := by unfold rz_town; decide
  have e1 : rz_in_ nw 65536 0 = (-2, nw) := rz_in_no (Or.inl hK)
  have e2 : rz_in_ nw 65535 1000 = (-2, nw) := rz_in_no (Or.inr (by decide))
  have e3 : rz_upto_ nw 65536 = (-2, nw) := rz_upto_no hK
  have e4 : rz_less_ nw (nI c) 65536 = (-1, nw) := rz_less_no hfi
  have e5 : rz_back_ nw (nI c) = (-1, nw) := rz_back_no hfi
  have e6 : rz_road_ nw 12 0 (-1) = (-1, nw) := rz_road_no (fun q => hT q.1)
  have e7 : rz_road_ nw 0 12 1000 = (-1, nw) := rz_road_no (fun q => hT q.2)
  have e8 : rz_road_ nw 0 1 1000 = (-2, nw) := rz_road_bad ⟨hT0, hT1⟩ (by decide)
  have e9 : rz_road_ nw 5 5 1 = (-2, nw) := rz_road_bad ⟨hT5, hT5⟩ (by decide)
  have e10 : rz_unroad_ nw 12 0 = (-1, nw) := rz_unroad_no (fun q => hT q.1)
  have e11 : rz_unroad_ nw 0 12 = (-1, nw) := rz_unroad_no (fun q => hT q.2)
  have e12 : rz_unroad_ nw 6 6 = (-1, nw) := rz_unroad_none ⟨hT6, hT6⟩ hIW.2
  have r1 : rz_refu 2 ro re = -2 := by unfold rz_refu; exact if_pos (by decide)
  have r2 : rz_entry_ nw.1 (nI c) 9 = -1 := by unfold rz_entry_; rw [hfi]
  have r3 : rz_pile_ nw.1 17 9 = -1 := by unfold rz_pile_; exact if_pos (by decide)
  have r4 : rz_pile_ nw.1 16 4 = -2 := by unfold rz_pile_; rw [if_neg (by decide), if_neg (by decide), if_neg (by decide), if_neg (by decide), if_neg (by decide)]
  have r5 : rz_next_ nw.1 3 = -2 := by unfold rz_next_; exact if_pos (by decide)
  have r6 : rz_ranked_ nw.1 (-1) = -2 := by unfold rz_ranked_; exact if_pos (by decide)
  have r7 : rz_ranked_ nw.1 40 = -5 := rz_ranked40 h40
  have r8 : rz_tell nw.2.2.2.1 (-1) 0 = -2 := by unfold rz_tell; exact if_pos (by decide)
  have r9 : rz_tell nw.2.2.2.1 0 4 = -2 := by unfold rz_tell; exact if_pos (by decide)
  have r10 : rz_tell nw.2.2.2.1 8 0 = -5 := rz_tell8 hlen.2.2
  have r11 : rz_roadOf_ nw.2.2.2.2.1 12 0 = -1 := by unfold rz_roadOf_; exact if_neg (fun q => hT q.1)
  have r12 : rz_roadOf_ nw.2.2.2.2.1 0 12 = -1 := by unfold rz_roadOf_; exact if_neg (fun q => hT q.2)
  have r13 : rz_distance_ nw.2.2.2.2.1 12 0 = -1 := by unfold rz_distance_; exact if_neg (fun q => hT q.1)
  have r14 : rz_distance_ nw.2.2.2.2.1 0 12 = -1 := by unfold rz_distance_; exact if_neg (fun q => hT q.2)
  have r15 : rz_distance_ nw.2.2.2.2.1 3 3 = 0 := by unfold rz_distance_; rw [if_pos ⟨hT3, hT3⟩]; exact rz_dist0 _ (by decide)
  have r16 : rz_search_ nw.2.2.2.2.1 12 9 = -1 := by unfold rz_search_; exact if_neg hT
  have r17 : rz_search_ nw.2.2.2.2.1 0 4 = -2 := by unfold rz_search_; rw [if_pos hT0, if_neg (by decide), if_neg (by decide), if_neg (by decide), if_neg (by decide)]
  have r18 : rz_count_ nw hist.length tx.length 10 = -2 := by
    obtain ⟨L, fl, am, lat, rd, laid, ci, co, tb⟩ := nw
    rfl
  have r0 : rz_count_ nw hist.length tx.length 1 = nI c := by
    obtain ⟨L, fl, am, lat, rd, laid, ci, co, tb⟩ := nw
    exact hci
  have n2 : (-2 : Int32) < 0 := by decide
  have n1 : (-1 : Int32) < 0 := by decide
  have hc := h.co
  have hcount := fun R => q_count (d := d + 2) (what := 1) h (R := R)

  simp only [↓ri_120_0, ↓ri_120_1, ↓ri_120_4, ↓ri_120_5, ↓ri_120_8, ↓ri_120_9, ↓ri_120_10, ↓ri_120_13, ↓ri_120_14, ↓ri_120_15, ↓ri_120_18, ↓ri_120_19, ↓ri_120_22, ↓ri_120_24, ↓ri_120_25, ↓ri_120_26, ↓ri_120_29, ↓ri_120_30, ↓ri_120_33, ↓ri_120_35, ↓ri_120_37, ↓ri_120_38, ↓ri_120_40, ↓ri_120_41, Option.some.injEq, Prod.mk.injEq, exists_eq_left', exists_eq', exists_and_left, exists_and_right, true_and, and_true, true_or, or_true, and_self, and_assoc, Option.toList_some, Option.toList_none, List.cons_append, List.nil_append, ↓reduceIte, rz_x01, rz_x10, hc, hcount, r0]
  refine q_comeIn_n (d := d) h e1 n2 (fun hp0 h0 s0 => ?_)
  clear hc hcount
  have hc := h0.co
  have hcount := fun R => q_count (d := d + 2) (what := 1) h0 (R := R)
  simp only [↓ri_120_44, ↓ri_120_46, ↓ri_120_49, ↓ri_120_50, ↓ri_120_52, ↓ri_120_53, ↓ri_120_56, ↓ri_120_57, ↓ri_120_60, ↓ri_120_63, Option.some.injEq, Prod.mk.injEq, exists_eq_left', exists_eq', exists_and_left, exists_and_right, true_and, and_true, true_or, or_true, and_self, and_assoc, Option.toList_some, Option.toList_none, List.cons_append, List.nil_append, ↓reduceIte, rz_x01, rz_x10, hc, hcount, r0]
  refine q_comeIn_n (d := d) h0 e2 n2 (fun hp1 h1 s1 => ?_)
  clear hc hcount
  have hc := h1.co
  have hcount := fun R => q_count (d := d + 2) (what := 1) h1 (R := R)
  simp only [↓ri_120_66, ↓ri_120_68, ↓ri_120_71, ↓ri_120_72, ↓ri_120_74, Option.some.injEq, Prod.mk.injEq, exists_eq_left', exists_eq', exists_and_left, exists_and_right, true_and, and_true, true_or, or_true, and_self, and_assoc, Option.toList_some, Option.toList_none, List.cons_append, List.nil_append, ↓reduceIte, rz_x01, rz_x10, hc, hcount, r0]
  refine q_comeOutUpTo_n (d := d) h1 e3 n2 (fun hp2 h2 s2 => ?_)
  clear hc hcount
  have hc := h2.co
  have hcount := fun R => q_count (d := d + 2) (what := 1) h2 (R := R)
  simp only [↓ri_120_77, ↓ri_120_79, ↓ri_120_82, ↓ri_120_83, ↓ri_120_84, ↓ri_120_86, Option.some.injEq, Prod.mk.injEq, exists_eq_left', exists_eq', exists_and_left, exists_and_right, true_and, and_true, true_or, or_true, and_self, and_assoc, Option.toList_some, Option.toList_none, List.cons_append, List.nil_append, ↓reduceIte, rz_x01, rz_x10, hc, hcount, r0]
  refine q_less_n (d := d) h2 e4 n1 (fun hp3 h3 s3 => ?_)
  clear hc hcount
  have hc := h3.co
  have hcount := fun R => q_count (d := d + 2) (what := 1) h3 (R := R)
  simp only [↓ri_120_89, ↓ri_120_90, ↓ri_120_93, ↓ri_120_94, ↓ri_120_95, Option.some.injEq, Prod.mk.injEq, exists_eq_left', exists_eq', exists_and_left, exists_and_right, true_and, and_true, true_or, or_true, and_self, and_assoc, Option.toList_some, Option.toList_none, List.cons_append, List.nil_append, ↓reduceIte, rz_x01, rz_x10, hc, hcount, r0]
  refine q_takeBack_n (d := d) h3 e5 n1 (fun hp4 h4 s4 => ?_)
  clear hc hcount
  have hc := h4.co
  have hcount := fun R => q_count (d := d + 2) (what := 1) h4 (R := R)
  simp only [↓ri_120_98, ↓ri_120_99, ↓ri_120_102, ↓ri_120_103, ↓ri_120_104, ↓ri_120_105, ↓ri_120_106, Option.some.injEq, Prod.mk.injEq, exists_eq_left', exists_eq', exists_and_left, exists_and_right, true_and, and_true, true_or, or_true, and_self, and_assoc, Option.toList_some, Option.toList_none, List.cons_append, List.nil_append, ↓reduceIte, rz_x01, rz_x10, hc, hcount, r0]
  refine q_road_n (d := d) h4 e6 n1 (fun hp5 h5 s5 => ?_)
  clear hc hcount
  have hc := h5.co
  have hcount := fun R => q_count (d := d + 2) (what := 1) h5 (R := R)
  simp only [↓ri_120_109, ↓ri_120_110, ↓ri_120_113, ↓ri_120_114, ↓ri_120_115, ↓ri_120_116, ↓ri_120_119, Option.some.injEq, Prod.mk.injEq, exists_eq_left', exists_eq', exists_and_left, exists_and_right, true_and, and_true, true_or, or_true, and_self, and_assoc, Option.toList_some, Option.toList_none, List.cons_append, List.nil_append, ↓reduceIte, rz_x01, rz_x10, hc, hcount, r0]
  refine q_road_n (d := d) h5 e7 n1 (fun hp6 h6 s6 => ?_)
  clear hc hcount
  have hc := h6.co
  have hcount := fun R => q_count (d := d + 2) (what := 1) h6 (R := R)
  simp only [↓ri_120_122, ↓ri_120_123, ↓ri_120_126, ↓ri_120_127, ↓ri_120_128, ↓ri_120_129, ↓ri_120_130, ↓ri_120_133, ↓ri_120_134, ↓ri_120_137, ↓ri_120_140, Option.some.injEq, Prod.mk.injEq, exists_eq_left', exists_eq', exists_and_left, exists_and_right, true_and, and_true, true_or, or_true, and_self, and_assoc, Option.toList_some, Option.toList_none, List.cons_append, List.nil_append, ↓reduceIte, rz_x01, rz_x10, hc, hcount, r0]
  refine q_road_n (d := d) h6 e8 n2 (fun hp7 h7 s7 => ?_)
  clear hc hcount
  have hc := h7.co
  have hcount := fun R => q_count (d := d + 2) (what := 1) h7 (R := R)
  simp only [↓ri_120_143, ↓ri_120_145, ↓ri_120_148, ↓ri_120_149, ↓ri_120_150, ↓ri_120_151, ↓ri_120_152, Option.some.injEq, Prod.mk.injEq, exists_eq_left', exists_eq', exists_and_left, exists_and_right, true_and, and_true, true_or, or_true, and_self, and_assoc, Option.toList_some, Option.toList_none, List.cons_append, List.nil_append, ↓reduceIte, rz_x01, rz_x10, hc, hcount, r0]
  refine q_road_n (d := d) h7 e9 n2 (fun hp8 h8 s8 => ?_)
  clear hc hcount
  have hc := h8.co
  have hcount := fun R => q_count (d := d + 2) (what := 1) h8 (R := R)
  simp only [↓ri_120_155, ↓ri_120_157, ↓ri_120_160, ↓ri_120_161, ↓ri_120_162, ↓ri_120_163, Option.some.injEq, Prod.mk.injEq, exists_eq_left', exists_eq', exists_and_left, exists_and_right, true_and, and_true, true_or, or_true, and_self, and_assoc, Option.toList_some, Option.toList_none, List.cons_append, List.nil_append, ↓reduceIte, rz_x01, rz_x10, hc, hcount, r0]
  refine q_unroad_n (d := d) h8 e10 n1 (fun hp9 h9 s9 => ?_)
  clear hc hcount
  have hc := h9.co
  have hcount := fun R => q_count (d := d + 2) (what := 1) h9 (R := R)
  simp only [↓ri_120_166, ↓ri_120_167, ↓ri_120_170, ↓ri_120_171, ↓ri_120_172, ↓ri_120_173, Option.some.injEq, Prod.mk.injEq, exists_eq_left', exists_eq', exists_and_left, exists_and_right, true_and, and_true, true_or, or_true, and_self, and_assoc, Option.toList_some, Option.toList_none, List.cons_append, List.nil_append, ↓reduceIte, rz_x01, rz_x10, hc, hcount, r0]
  refine q_unroad_n (d := d) h9 e11 n1 (fun hp10 h10 s10 => ?_)
  clear hc hcount
  have hc := h10.co
  have hcount := fun R => q_count (d := d + 2) (what := 1) h10 (R := R)
  simp only [↓ri_120_176, ↓ri_120_177, ↓ri_120_180, ↓ri_120_181, ↓ri_120_183, ↓ri_120_185, Option.some.injEq, Prod.mk.injEq, exists_eq_left', exists_eq', exists_and_left, exists_and_right, true_and, and_true, true_or, or_true, and_self, and_assoc, Option.toList_some, Option.toList_none, List.cons_append, List.nil_append, ↓reduceIte, rz_x01, rz_x10, hc, hcount, r0]
  refine q_unroad_n (d := d) h10 e12 n1 (fun hp11 h11 s11 => ?_)
  clear hc hcount
  have hc := h11.co
  have hcount := fun R => q_count (d := d + 2) (what := 1) h11 (R := R)
  have b1 := fun (R : Option Value → rz_Hp → Prop) => (q_refusal (d := d + 6) (what := 2) h11 (R := R)).trans (by rw [r1])
  have b2 := fun (R : Option Value → rz_Hp → Prop) => (q_entry (d := d + 2) (n := (nI c)) (what := 9) h11 (R := R)).trans (by rw [r2])
  have b3 := fun (R : Option Value → rz_Hp → Prop) => (q_pile (d := d + 3) (p := 17) (what := 9) h11 (R := R)).trans (by rw [r3])
  have b4 := fun (R : Option Value → rz_Hp → Prop) => (q_pile (d := d + 3) (p := 16) (what := 4) h11 (R := R)).trans (by rw [r4])
  have b5 := fun (R : Option Value → rz_Hp → Prop) => (q_next (d := d + 2) (what := 3) h11 (R := R)).trans (by rw [r5])
  have b6 := fun (R : Option Value → rz_Hp → Prop) => (q_ranked (d := d + 2) (rank := -1) h11 (R := R)).trans (by rw [r6])
  have b7 := fun (R : Option Value → rz_Hp → Prop) => (q_ranked (d := d + 2) (rank := 40) h11 (R := R)).trans (by rw [r7])
  have b8 := fun (R : Option Value → rz_Hp → Prop) => (q_out (d := d + 5) (back := -1) (what := 0) h11 (R := R)).trans (by rw [r8])
  have b9 := fun (R : Option Value → rz_Hp → Prop) => (q_out (d := d + 5) (back := 0) (what := 4) h11 (R := R)).trans (by rw [r9])
  have b10 := fun (R : Option Value → rz_Hp → Prop) => (q_out (d := d + 5) (back := 8) (what := 0) h11 (R := R)).trans (by rw [r10])
  have b11 := fun (R : Option Value → rz_Hp → Prop) => (q_roadOf (d := d + 4) (x := 12) (y := 0) h11 (R := R)).trans (by rw [r11])
  have b12 := fun (R : Option Value → rz_Hp → Prop) => (q_roadOf (d := d + 4) (x := 0) (y := 12) h11 (R := R)).trans (by rw [r12])
  simp only [↓ri_120_188, ↓ri_120_189, ↓ri_120_192, ↓ri_120_193, ↓ri_120_194, ↓ri_120_197, ↓ri_120_198, ↓ri_120_201, ↓ri_120_202, ↓ri_120_205, ↓ri_120_207, ↓ri_120_210, ↓ri_120_211, ↓ri_120_212, ↓ri_120_213, ↓ri_120_214, ↓ri_120_216, ↓ri_120_219, ↓ri_120_220, ↓ri_120_223, ↓ri_120_224, ↓ri_120_225, ↓ri_120_228, ↓ri_120_229, ↓ri_120_232, ↓ri_120_234, ↓ri_120_236, ↓ri_120_239, ↓ri_120_240, ↓ri_120_243, ↓ri_120_244, ↓ri_120_246, ↓ri_120_247, ↓ri_120_250, ↓ri_120_251, ↓ri_120_254, ↓ri_120_255, ↓ri_120_258, ↓ri_120_260, ↓ri_120_263, ↓ri_120_264, ↓ri_120_265, ↓ri_120_268, ↓ri_120_269, ↓ri_120_272, ↓ri_120_273, ↓ri_120_276, ↓ri_120_278, ↓ri_120_281, ↓ri_120_282, ↓ri_120_283, ↓ri_120_286, ↓ri_120_288, ↓ri_120_291, ↓ri_120_292, ↓ri_120_294, ↓ri_120_297, ↓ri_120_299, ↓ri_120_302, ↓ri_120_303, ↓ri_120_304, ↓ri_120_305, ↓ri_120_308, ↓ri_120_310, ↓ri_120_313, ↓ri_120_314, ↓ri_120_315, ↓ri_120_316, ↓ri_120_319, ↓ri_120_320, ↓ri_120_323, ↓ri_120_324, ↓ri_120_327, ↓ri_120_329, ↓ri_120_332, ↓ri_120_333, ↓ri_120_335, ↓ri_120_336, ↓ri_120_339, ↓ri_120_341, ↓ri_120_344, ↓ri_120_345, ↓ri_120_346, ↓ri_120_347, ↓ri_120_350, ↓ri_120_351, ↓ri_120_354, ↓ri_120_355, ↓ri_120_356, ↓ri_120_357, ↓ri_120_360, ↓ri_120_361, ↓ri_120_364, ↓ri_120_365, ↓ri_120_366, ↓ri_120_367, Option.some.injEq, Prod.mk.injEq, exists_eq_left', exists_eq', exists_and_left, exists_and_right, true_and, and_true, true_or, or_true, and_self, and_assoc, Option.toList_some, Option.toList_none, List.cons_append, List.nil_append, ↓reduceIte, rz_x01, rz_x10, hc, b1, b2, b3, b4, b5, b6, b7, b8, b9, b10, b11, b12]
  refine q_distance (d := d) h11 (fun hp12 h12 s12 => ?_)
  rw [r13]
  clear hc
  have hc := h12.co
  simp only [↓ri_120_370, ↓ri_120_371, ↓ri_120_374, ↓ri_120_375, ↓ri_120_376, ↓ri_120_377, Option.some.injEq, Prod.mk.injEq, exists_eq_left', exists_eq', exists_and_left, exists_and_right, true_and, and_true, true_or, or_true, and_self, and_assoc, Option.toList_some, Option.toList_none, List.cons_append, List.nil_append, ↓reduceIte, rz_x01, rz_x10, hc]
  refine q_distance (d := d) h12 (fun hp13 h13 s13 => ?_)
  rw [r14]
  clear hc
  have hc := h13.co
  simp only [↓ri_120_380, ↓ri_120_381, ↓ri_120_384, ↓ri_120_385, ↓ri_120_386, ↓ri_120_387, Option.some.injEq, Prod.mk.injEq, exists_eq_left', exists_eq', exists_and_left, exists_and_right, true_and, and_true, true_or, or_true, and_self, and_assoc, Option.toList_some, Option.toList_none, List.cons_append, List.nil_append, ↓reduceIte, rz_x01, rz_x10, hc]
  refine q_distance (d := d) h13 (fun hp14 h14 s14 => ?_)
  rw [r15]
  clear hc
  have hc := h14.co
  simp only [↓ri_120_390, ↓ri_120_393, ↓ri_120_394, ↓ri_120_395, ↓ri_120_397, Option.some.injEq, Prod.mk.injEq, exists_eq_left', exists_eq', exists_and_left, exists_and_right, true_and, and_true, true_or, or_true, and_self, and_assoc, Option.toList_some, Option.toList_none, List.cons_append, List.nil_append, ↓reduceIte, rz_x01, rz_x10, hc]
  refine q_search (d := d) h14 (fun hp15 h15 s15 => ?_)
  rw [r16]
  clear hc
  have hc := h15.co
  simp only [↓ri_120_400, ↓ri_120_401, ↓ri_120_404, ↓ri_120_405, ↓ri_120_406, ↓ri_120_407, ↓ri_120_410, ↓ri_120_411, ↓ri_120_414, ↓ri_120_415, Option.some.injEq, Prod.mk.injEq, exists_eq_left', exists_eq', exists_and_left, exists_and_right, true_and, and_true, true_or, or_true, and_self, and_assoc, Option.toList_some, Option.toList_none, List.cons_append, List.nil_append, ↓reduceIte, rz_x01, rz_x10, hc]
  refine q_search (d := d) h15 (fun hp16 h16 s16 => ?_)
  rw [r17]
  clear hc
  have hc := h16.co
  have b13 := fun (R : Option Value → rz_Hp → Prop) => (q_count (d := d + 2) (what := 10) h16 (R := R)).trans (by rw [r18])
  simp only [↓ri_120_418, ↓ri_120_420, ↓ri_120_423, ↓ri_120_424, ↓ri_120_425, ↓ri_120_428, ↓ri_120_429, ↓ri_120_432, ↓ri_120_434, ↓ri_120_437, ↓ri_120_439, ↓ri_120_442, ↓ri_120_443, ↓ri_120_446, ↓ri_120_447, Option.some.injEq, Prod.mk.injEq, exists_eq_left', exists_eq', exists_and_left, exists_and_right, true_and, and_true, true_or, or_true, and_self, and_assoc, Option.toList_some, Option.toList_none, List.cons_append, List.nil_append, ↓reduceIte, rz_x01, rz_x10, hc, b13]
  exact kk _ h16 ((((((((((((((((s0.tr s1).tr s2).tr s3).tr s4).tr s5).tr s6).tr s7).tr s8).tr s9).tr s10).tr s11).tr s12).tr s13).tr s14).tr s15).tr s16)
set_option maxHeartbeats 4000000 in
set_option maxRecDepth 100000 in
theorem q_refused (h : rz_OJ o nw sn hist tx tk ro re hp) (kk : ∀ hp', rz_OJ o nw sn hist tx tk ro re hp' → rz_sm o (o + 115) hp hp' → R (some (.int 1)) hp') : rz_ev (d + 8) 121 0 [some (.ref o), none, none, none] [] hp R := by
  obtain ⟨c, hc1, hci, hcn⟩ := h.2.1.1.ci
  have hc := h.co
  have a1 := fun R => q_seen (d := d + 2) h hc1 hci (R := R)
  have a2 := fun R => q_count (d := d + 3) (what := 8) h (R := R)
  simp only [↓ri_121_0, ↓ri_121_1, ↓ri_121_4, ↓ri_121_5, ↓ri_121_6, ↓ri_121_8, ↓ri_121_11, ↓ri_121_12, ↓ri_121_13, ↓ri_121_14, Option.some.injEq, Prod.mk.injEq, exists_eq_left', exists_eq', exists_and_left, exists_and_right, true_and, and_true, true_or, or_true, and_self, and_assoc, Option.toList_some, Option.toList_none, List.cons_append, List.nil_append, ↓reduceIte, rz_x01, rz_x10, hc, a1, a2]
  refine q_refusesAny0 (d := d) h hc1 hci hcn (fun hp0 h0 s0 => ?_)
  simp only [↓ri_121_17, ↓ri_121_20, ↓ri_121_21, ↓ri_121_22, Option.some.injEq, Prod.mk.injEq, exists_eq_left', exists_eq', exists_and_left, exists_and_right, true_and, and_true, true_or, or_true, and_self, and_assoc, Option.toList_some, Option.toList_none, List.cons_append, List.nil_append, ↓reduceIte, rz_x01, rz_x10]
  refine q_refusesAny1 (d := d) h0 hc1 hci hcn (fun hp1 h1 s1 => ?_)
  have g := h1.co
  have b1 := fun R => q_seen (d := d + 2) h1 hc1 hci (R := R)
  have b2 := fun R => q_count (d := d + 3) (what := 8) h1 (R := R)
  have hl : ∀ x : Int64, lg_cmp x x = 0 := fun x => by
    unfold lg_cmp
    rw [if_neg (by simp), if_pos rfl]
  simp only [↓ri_121_25, ↓ri_121_28, ↓ri_121_29, ↓ri_121_32, ↓ri_121_33, ↓ri_121_34, ↓ri_121_37, ↓ri_121_38, ↓ri_121_40, ↓ri_121_43, ↓ri_121_44, ↓ri_121_47, ↓ri_121_48, ↓ri_121_51, ↓ri_121_52, Option.some.injEq, Prod.mk.injEq, exists_eq_left', exists_eq', exists_and_left, exists_and_right, true_and, and_true, true_or, or_true, and_self, and_assoc, Option.toList_some, Option.toList_none, List.cons_append, List.nil_append, ↓reduceIte, rz_x01, rz_x10, g, b1, b2, hl]
  exact kk _ h1 (s0.tr s1)
end RZNQ
