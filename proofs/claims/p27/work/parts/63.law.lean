/-! The law from its first instruction -/
theorem rz_RF_ex {lo o : Nat} {tk ro re : Int32} {hp h1 : rz_Hp} (h : rz_RF o tk ro re hp) (s : rz_ex lo hp h1) (hd : o < lo) : rz_RF o tk ro re h1 := by
  obtain ⟨p0, p1, p2, p3, p4, p5, p6, p7, p8, p9⟩ := h
  exact ⟨s.fv hd p0, s.fv hd p1, s.fv hd p2, s.fv hd p3, s.fv hd p4, s.fv hd p5, s.fv hd p6, s.fv hd p7, s.fv hd p8, s.fv hd p9⟩
theorem rz_SR_ex {lo w : Nat} {ss : rz_SS} {hp h1 : rz_Hp} (h : rz_SR w ss hp) (s : rz_ex lo hp h1) (hd : w + 8 ≤ lo) : rz_SR w ss h1 := by
  obtain ⟨L, fl, am, ds, dn, cm, gr⟩ := ss
  obtain ⟨⟨q0, q1, q2, q3, q4⟩, q5, f, q6, q7⟩ := h
  exact ⟨⟨s.fv (by omega) q0, s.fv (by omega) q1, s.fv (by omega) q2, s.fv (by omega) q3, s.fv (by omega) q4⟩, rz_PL_ex q5 s (by omega), f, s.av (by omega) q6, q7⟩
theorem rz_OJ.ex {lo o : Nat} {nw sn : rz_AS} {hist : List rz_AS} {tx : List Int32} {tk ro re : Int32} {hp h1 : rz_Hp} (h : rz_OJ o nw sn hist tx tk ro re hp) (s : rz_ex lo hp h1) (hd : o + 115 ≤ lo) : rz_OJ o nw sn hist tx tk ro re h1 := by
  obtain ⟨⟨bf, os, pl, ss, a, b, c, d, e, f, g, i⟩, h2⟩ := h
  exact ⟨⟨bf, os, pl, ss, rz_RF_ex a s (by omega), rz_ST_ex b s (by omega), rz_ST_ex c s (by omega), rz_ST_ex d s (by omega), rz_HI_ex e s (by omega), rz_TX_ex f s (by omega), rz_OR_ex g s (by omega), rz_SR_ex i s (by omega)⟩, h2⟩
theorem q_piles' {d : Nat} {hp : rz_Hp} {R : Option Value → rz_Hp → Prop} (kk : ∀ hp', rz_kp hp hp' → hp'.2 = (hp.2.1 + 230, hp.2.2 + 6354) → R (some (.int 1)) hp') : rz_ev (d + 9) 122 0 [none, none, none] [] hp R :=
  rz_ev_mono (rz_ev_kp (q_piles (d := d) (hp := hp) (R := fun r h => r = some (.int 1) ∧ h.2 = (hp.2.1 + 230, hp.2.2 + 6354)) (fun hp' _ e => ⟨rfl, e⟩))) (fun r h' q => by
    obtain ⟨⟨rfl, e⟩, kp, -⟩ := q
    exact kk h' kp e)
theorem q_ways' {d : Nat} {hp : rz_Hp} {R : Option Value → rz_Hp → Prop} (kk : ∀ hp', rz_kp hp hp' → hp'.2 = (hp.2.1 + 115, hp.2.2 + 3177) → R (some (.int 1)) hp') : rz_ev (d + 9) 123 0 [none, none, none] [] hp R :=
  rz_ev_mono (rz_ev_kp (q_ways (d := d) (hp := hp) (R := fun r h => r = some (.int 1) ∧ h.2 = (hp.2.1 + 115, hp.2.2 + 3177)) (fun hp' _ e => ⟨rfl, e⟩))) (fun r h' q => by
    obtain ⟨⟨rfl, e⟩, kp, -⟩ := q
    exact kk h' kp e)
theorem q_texts' {d : Nat} {hp : rz_Hp} {R : Option Value → rz_Hp → Prop} (kk : ∀ hp', rz_kp hp hp' → hp'.2 = (hp.2.1 + 2185, hp.2.2 + 60363) → R (some (.int 1)) hp') : rz_ev (d + 9) 126 0 [none, none] [] hp R :=
  rz_ev_mono (rz_ev_kp (q_texts (d := d) (hp := hp) (R := fun r h => r = some (.int 1) ∧ h.2 = (hp.2.1 + 2185, hp.2.2 + 60363)) (fun hp' _ e => ⟨rfl, e⟩))) (fun r h' q => by
    obtain ⟨⟨rfl, e⟩, kp, -⟩ := q
    exact kk h' kp e)
theorem q_init' {d b : Nat} {hp : rz_Hp} {R : Option Value → rz_Hp → Prop} (h : rz_nw b 8 hp) (kk : ∀ hp', rz_OJ b rz_st0 rz_st0 [] [] 0 0 0 hp' → rz_kp hp hp' → hp'.2 = (b + 115, hp.2.2 + 3167) → R none hp') : rz_ev (d + 4) 87 0 [some (.ref b)] [] hp R :=
  rz_ev_mono (rz_ev_kp (q_init (d := d) (b := b) (hp := hp) (R := fun r h => r = none ∧ rz_OJ b rz_st0 rz_st0 [] [] 0 0 0 h ∧ h.2 = (b + 115, hp.2.2 + 3167)) h (fun hp' k e _ => ⟨rfl, k, e⟩))) (fun r h' q => by
    obtain ⟨⟨rfl, k, e⟩, kp, -⟩ := q
    exact kk h' k kp e)
def lw_h0 (L : Nat) (xs : Nat → Int32) : rz_Hp := (fun _ => .inl (2, L, xs), 0, 0)
set_option maxHeartbeats 8000000 in
set_option maxRecDepth 100000 in
theorem q_law {d L : Nat} {xs : Nat → Int32} {t : UInt32} (hL : L ≤ 260) : rz_ev (d + 10) 127 0 [some (.float t), none, none, none, none, none, none, none, none, none, none] [] (lw_h0 L xs) (fun r h => r = some (.int 1) ∧ h.2 = (2646, 73135)) := by
  simp only [↓ri_127_0, Option.some.injEq, Prod.mk.injEq, exists_eq_left', exists_eq', exists_and_left, exists_and_right, true_and, and_true, true_or, or_true, and_self, and_assoc, Option.toList_some, Option.toList_none, List.cons_append, List.nil_append, ↓reduceIte, rz_x01, rz_x10]
  refine q_piles' (d := d) (fun hp1 k1 e1 => ?_)
  simp only [↓ri_127_3, ↓ri_127_6, Option.some.injEq, Prod.mk.injEq, exists_eq_left', exists_eq', exists_and_left, exists_and_right, true_and, and_true, true_or, or_true, and_self, and_assoc, Option.toList_some, Option.toList_none, List.cons_append, List.nil_append, ↓reduceIte, rz_x01, rz_x10]
  refine q_ways' (d := d) (fun hp2 k2 e2 => ?_)
  simp only [↓ri_127_9, ↓ri_127_12, Option.some.injEq, Prod.mk.injEq, exists_eq_left', exists_eq', exists_and_left, exists_and_right, true_and, and_true, true_or, or_true, and_self, and_assoc, Option.toList_some, Option.toList_none, List.cons_append, List.nil_append, ↓reduceIte, rz_x01, rz_x10]
  refine q_texts' (d := d) (fun hp3 k3 e3 => ?_)
  have n3 : hp3.2 = (2530, 69894) := by
    rw [e3, e2, e1]
    rfl
  have m3 : hp3.2.1 = 2530 := by rw [n3]
  have w3 : hp3.2.2 = 69894 := by rw [n3]
  simp only [↓ri_127_15, ↓ri_127_20, ↓ri_127_23, ↓ri_127_24, Option.some.injEq, Prod.mk.injEq, exists_eq_left', exists_eq', exists_and_left, exists_and_right, true_and, and_true, true_or, or_true, and_self, and_assoc, Option.toList_some, Option.toList_none, List.cons_append, List.nil_append, ↓reduceIte, rz_x01, rz_x10]
  refine q_init' (d := d + 5) (b := hp3.2.1) (rz_nw_push rfl) (fun hp4 h4 k4 e4 => ?_)
  have n4 : hp4.2 = (2645, 73071) := by
    rw [e4]
    show (hp3.2.1 + 115, hp3.2.2 + 10 + 3167) = _
    rw [m3, w3]
  have m4 : hp4.2.1 = 2645 := by rw [n4]
  have w4 : hp4.2.2 = 73071 := by rw [n4]
  have z1 : ¬ (64 : Int32) < 0 := by decide
  have z2 : (64 : Int32).toNatClampNeg = 64 := by decide
  have z3 : 64 ≤ 4096 := by decide
  simp only [↓ri_127_27, ↓ri_127_28, ↓ri_127_30, ↓ri_127_32, ↓ri_127_33, ↓ri_127_34, ↓ri_127_35, ↓ri_127_36, Option.some.injEq, Prod.mk.injEq, exists_eq_left', exists_eq', exists_and_left, exists_and_right, true_and, and_true, true_or, or_true, and_self, and_assoc, Option.toList_some, Option.toList_none, List.cons_append, List.nil_append, ↓reduceIte, rz_x01, rz_x10, z1, z2, z3, not_false_eq_true]
  rw [show (0 : Int32) = nI 0 from rfl]
  have hSP : (2646 : Nat) ≤ rz_SP := Nat.le_of_ble_eq_true rfl
  have hx : rz_ex hp4.2.1 hp4 (rz_push hp4 (.inr (.inr (10, List.replicate 64 (.long 0)))) 64) := rz_ex_push (Nat.le_refl _)
  have hO : rz_OJ hp3.2.1 rz_st0 rz_st0 [] [] 0 0 0 (rz_push hp4 (.inr (.inr (10, List.replicate 64 (.long 0)))) 64) := h4.ex hx (by omega)
  have hW : lw_W hp4.2.1 [] (rz_push hp4 (.inr (.inr (10, List.replicate 64 (.long 0)))) 64) := by
    refine ⟨fun j hj => ⟨.long 0, ?_⟩, fun j s hj => by simp at hj⟩
    rw [rz_fv_push, if_pos rfl]
    dsimp only
    rw [if_pos rfl, List.getElem?_replicate, if_pos hj]
  have hScr : rz_scr (rz_push hp4 (.inr (.inr (10, List.replicate 64 (.long 0)))) 64) = some (L, xs) := by
    have q1 : hp1.1 rz_SP = .inl (2, L, xs) := k1 (by rw [e1]; show 0 + 230 ≤ rz_SP; omega)
    have q2 : hp2.1 rz_SP = .inl (2, L, xs) := (k2 (by rw [e2, e1]; show 0 + 230 + 115 ≤ rz_SP; omega)).trans q1
    have q3 : hp3.1 rz_SP = .inl (2, L, xs) := (k3 (by rw [m3]; omega)).trans q2
    have q4 : hp4.1 rz_SP = .inl (2, L, xs) := (k4 (by rw [m4]; omega)).trans ((rz_kp.push (hp := hp3) (by show hp3.2.1 + 1 ≤ rz_SP; omega)).trans q3)
    have q5 := (rz_kp.push (hp := hp4) (c := .inr (.inr (10, List.replicate 64 (.long 0)))) (n := 64) (by show hp4.2.1 + 1 ≤ rz_SP; omega)).trans q4
    unfold rz_scr
    rw [q5]
    rfl
  have hN : (rz_push hp4 (.inr (.inr (10, List.replicate 64 (.long 0)))) 64).2 = (2646, 73135) := by
    show (hp4.2.1 + 1, hp4.2.2 + 64) = _
    rw [m4, w4]
  generalize rz_push hp4 (.inr (.inr (10, List.replicate 64 (.long 0)))) 64 = hp5 at hO hW hScr hN ⊢
  refine lw_loop (d := d) (o := hp3.2.1) (w := hp4.2.1) (L := L) (xs := xs) (N := (2646, 73135)) (by omega) (by omega) hL (fun P s hp6 l5 l6 l7 l8 l9 l10 hJ => ?_) 0 (Nat.zero_le _) [] rz_st0 hp5 _ _ _ _ _ _ ⟨Nat.le_refl _, ⟨Nat.le_refl _, 0, Nat.le_refl _, rfl⟩, hO, hW, hScr, hN⟩
  exact lw_fin (d := d) (by omega) (by omega) hJ (fun hp' e => ⟨rfl, e⟩)
