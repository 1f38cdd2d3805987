/-! the constructors -/
theorem rz_p2 : ((2 : Nat) = 0) = False := by decide
theorem rz_p3 : ((3 : Nat) = 0) = False := by decide
theorem rz_p4 : ((4 : Nat) = 0) = False := by decide
theorem rz_p5 : ((5 : Nat) = 0) = False := by decide
theorem rz_p6 : ((6 : Nat) = 0) = False := by decide
theorem rz_p7 : ((7 : Nat) = 0) = False := by decide
theorem rz_p8 : ((8 : Nat) = 0) = False := by decide
theorem rz_fv_push {hp : rz_Hp} {c : rz_Cl} {n a ci j : Nat} : rz_fv (rz_push hp c n) a ci j = if a = hp.2.1 then (match c with | .inr (.inr (c, fs)) => if c = ci then fs[j]? else none | _ => none) else rz_fv hp a ci j := by
  unfold rz_fv rz_push
  by_cases h : a = hp.2.1
  · subst h; rcases c with x | x | ⟨x, y⟩ <;> simp
  · simp only [if_neg h]
    by_cases h2 : a < hp.2.1
    · rw [if_pos h2, if_pos (show a < hp.2.1 + 1 by omega)]
    · rw [if_neg h2, if_neg (show ¬ a < hp.2.1 + 1 by omega)]
theorem rz_av_push {hp : rz_Hp} {c : rz_Cl} {n a : Nat} : rz_av (rz_push hp c n) a = if a = hp.2.1 then (match c with | .inl x => some x | _ => none) else rz_av hp a := by
  unfold rz_av rz_push
  by_cases h : a = hp.2.1
  · subst h; rcases c with x | x | ⟨x, y⟩ <;> simp
  · simp only [if_neg h]
    by_cases h2 : a < hp.2.1
    · rw [if_pos h2, if_pos (show a < hp.2.1 + 1 by omega)]
    · rw [if_neg h2, if_neg (show ¬ a < hp.2.1 + 1 by omega)]
theorem rz_qv_push {hp : rz_Hp} {c : rz_Cl} {n a : Nat} : rz_qv (rz_push hp c n) a = if a = hp.2.1 then (match c with | .inr (.inl x) => some x | _ => none) else rz_qv hp a := by
  unfold rz_qv rz_push
  by_cases h : a = hp.2.1
  · subst h; rcases c with x | x | ⟨x, y⟩ <;> simp
  · simp only [if_neg h]
    by_cases h2 : a < hp.2.1
    · rw [if_pos h2, if_pos (show a < hp.2.1 + 1 by omega)]
    · rw [if_neg h2, if_neg (show ¬ a < hp.2.1 + 1 by omega)]
theorem rz_n_push {hp : rz_Hp} {c : rz_Cl} {n : Nat} : (rz_push hp c n).2.1 = hp.2.1 + 1 := rfl
theorem rz_n_pf {hp : rz_Hp} {a j : Nat} {v : Value} : (rz_pf hp a j v).2.1 = hp.2.1 := rfl
theorem rz_n_pa {hp : rz_Hp} {a : Nat} {f : Nat → Int32} : (rz_pa hp a f).2.1 = hp.2.1 := rfl
theorem rz_n_pq {hp : rz_Hp} {a : Nat} {f : Nat → Option Nat} : (rz_pq hp a f).2.1 = hp.2.1 := rfl
theorem rz_w_push {hp : rz_Hp} {c : rz_Cl} {n : Nat} : (rz_push hp c n).2.2 = hp.2.2 + n := rfl
theorem rz_w_pf {hp : rz_Hp} {a j : Nat} {v : Value} : (rz_pf hp a j v).2.2 = hp.2.2 := rfl
theorem rz_w_pa {hp : rz_Hp} {a : Nat} {f : Nat → Int32} : (rz_pa hp a f).2.2 = hp.2.2 := rfl
theorem rz_w_pq {hp : rz_Hp} {a : Nat} {f : Nat → Option Nat} : (rz_pq hp a f).2.2 = hp.2.2 := rfl
/-- more cells; those below a place are as before -/
def rz_ex (lo : Nat) (hp h1 : rz_Hp) : Prop := (∀ j, j < lo → h1.1 j = hp.1 j) ∧ hp.2.1 ≤ h1.2.1
theorem rz_ex.rf {lo : Nat} {hp : rz_Hp} : rz_ex lo hp hp := ⟨fun _ _ => rfl, Nat.le_refl _⟩
theorem rz_ex.tr {lo : Nat} {hp h1 h2 : rz_Hp} (a : rz_ex lo hp h1) (b : rz_ex lo h1 h2) : rz_ex lo hp h2 := ⟨fun j hj => (b.1 j hj).trans (a.1 j hj), Nat.le_trans a.2 b.2⟩
theorem rz_ex.wd {lo lo2 : Nat} {hp h1 : rz_Hp} (a : rz_ex lo hp h1) (h : lo2 ≤ lo) : rz_ex lo2 hp h1 := ⟨fun j hj => a.1 j (Nat.lt_of_lt_of_le hj h), a.2⟩
theorem rz_ex_push {lo : Nat} {hp : rz_Hp} {c : rz_Cl} {n : Nat} (h : lo ≤ hp.2.1) : rz_ex lo hp (rz_push hp c n) := ⟨fun j hj => if_neg (by omega), Nat.le_succ _⟩
theorem rz_ex_sm {lo a hi : Nat} {hp h1 : rz_Hp} (s : rz_sm a hi hp h1) (h : lo ≤ a) : rz_ex lo hp h1 := ⟨fun j hj => s.2 j (by omega), by rw [s.1]; exact Nat.le_refl _⟩
theorem rz_ex.fv {lo a ci j : Nat} {hp h1 : rz_Hp} {v : Value} (s : rz_ex lo hp h1) (h : a < lo) (q : rz_fv hp a ci j = some v) : rz_fv h1 a ci j = some v := by
  unfold rz_fv at q ⊢
  rw [s.1 a h]
  split at q
  · next h2 => rw [if_pos (Nat.lt_of_lt_of_le h2 s.2)]; exact q
  · cases q
theorem rz_ex.av {lo a : Nat} {hp h1 : rz_Hp} {x : Nat × Nat × (Nat → Int32)} (s : rz_ex lo hp h1) (h : a < lo) (q : rz_av hp a = some x) : rz_av h1 a = some x := by
  unfold rz_av at q ⊢
  rw [s.1 a h]
  split at q
  · next h2 => rw [if_pos (Nat.lt_of_lt_of_le h2 s.2)]; exact q
  · cases q
theorem rz_ex.qv {lo a : Nat} {hp h1 : rz_Hp} {x : Nat × (Nat → Option Nat)} (s : rz_ex lo hp h1) (h : a < lo) (q : rz_qv hp a = some x) : rz_qv h1 a = some x := by
  unfold rz_qv at q ⊢
  rw [s.1 a h]
  split at q
  · next h2 => rw [if_pos (Nat.lt_of_lt_of_le h2 s.2)]; exact q
  · cases q
theorem rz_PL_ex {lo b : Nat} {L : List rz_En} {fl am : Int32} {hp h1 : rz_Hp} (h : rz_PL b L fl am hp) (s : rz_ex lo hp h1) (hd : b + 6 ≤ lo) : rz_PL b L fl am h1 := by
  obtain ⟨hL, ⟨p0, p1, p2, p3, p4, p5, p6, p7⟩, f0, f1, f2, f3, f4, ⟨a0, a1, a2, a3, a4⟩, hH⟩ := h
  exact ⟨hL, ⟨s.fv (by omega) p0, s.fv (by omega) p1, s.fv (by omega) p2, s.fv (by omega) p3, s.fv (by omega) p4, s.fv (by omega) p5, s.fv (by omega) p6, s.fv (by omega) p7⟩, f0, f1, f2, f3, f4, ⟨s.av (by omega) a0, s.av (by omega) a1, s.av (by omega) a2, s.av (by omega) a3, s.av (by omega) a4⟩, hH⟩
theorem rz_LT_ex {lo b : Nat} {A : List rz_La} {hp h1 : rz_Hp} (h : rz_LT b A hp) (s : rz_ex lo hp h1) (hd : b + 5 ≤ lo) : rz_LT b A h1 := by
  obtain ⟨hL, ⟨p0, p1, p2, p3, p4⟩, f0, f1, f2, f3, ⟨a0, a1, a2, a3⟩, hH⟩ := h
  exact ⟨hL, ⟨s.fv (by omega) p0, s.fv (by omega) p1, s.fv (by omega) p2, s.fv (by omega) p3, s.fv (by omega) p4⟩, f0, f1, f2, f3, ⟨s.av (by omega) a0, s.av (by omega) a1, s.av (by omega) a2, s.av (by omega) a3⟩, hH⟩
theorem rz_RD_ex {lo b : Nat} {rd : Nat → Int32} {laid : Int32} {hp h1 : rz_Hp} (h : rz_RD b rd laid hp) (s : rz_ex lo hp h1) (hd : b + 2 ≤ lo) : rz_RD b rd laid h1 := by
  obtain ⟨p0, p1, f, a0, hf⟩ := h
  exact ⟨s.fv (by omega) p0, s.fv (by omega) p1, f, s.av (by omega) a0, hf⟩
theorem rz_ST_ex {lo p : Nat} {s : rz_AS} {hp h1 : rz_Hp} (h : rz_ST p s hp) (q : rz_ex lo hp h1) (hd : p + 14 ≤ lo) : rz_ST p s h1 := by
  obtain ⟨L, fl, am, lat, rd, laid, ci, co, tb⟩ := s
  obtain ⟨⟨p0, p1, p2, p3, p4, p5⟩, b, c, d⟩ := h
  exact ⟨⟨q.fv (by omega) p0, q.fv (by omega) p1, q.fv (by omega) p2, q.fv (by omega) p3, q.fv (by omega) p4, q.fv (by omega) p5⟩, rz_PL_ex b q (by omega), rz_LT_ex c q (by omega), rz_RD_ex d q (by omega)⟩
/-- an object just made -/
def rz_nw (b ci : Nat) (hp : rz_Hp) : Prop := hp.2.1 = b + 1 ∧ hp.1 b = .inr (.inr (ci, rz_dv ci))
theorem rz_nw_push {hp : rz_Hp} {b ci n : Nat} (h : hp.2.1 = b) : rz_nw b ci (rz_push hp (.inr (.inr (ci, rz_dv ci))) n) := ⟨by rw [← h]; rfl, by show (if b = hp.2.1 then _ else _) = _; rw [if_pos h.symm]⟩
theorem rz_nw.fv {b ci j : Nat} {hp : rz_Hp} (h : rz_nw b ci hp) : rz_fv hp b ci j = (rz_dv ci)[j]? := by
  unfold rz_fv
  rw [if_pos (by rw [h.1]; omega), h.2]
  exact if_pos rfl
section RZMK
variable {d b : Nat} {hp : rz_Hp} {R : Option Value → rz_Hp → Prop}
theorem rz_ex_pf {lo a i : Nat} {v : Value} (h : lo ≤ a) : rz_ex lo hp (rz_pf hp a i v) := rz_ex_sm (rz_sm_pf (lo := a) (hi := a + 1) (Nat.le_refl _) (Nat.lt_succ_self _)) h
set_option maxHeartbeats 4000000 in
set_option maxRecDepth 100000 in
theorem c_P_init (h : rz_nw b 3 hp) (kk : ∀ hp', rz_PL b [] 0 0 hp' → hp'.2 = (b + 6, hp.2.2 + 200) → rz_ex b hp hp' → R none hp') : rz_ev (d + 1) 26 0 [some (.ref b)] [] hp R := by
  have g := fun j => h.fv (j := j)
  have g0 : rz_fv hp b 3 0 = some .null := g 0
  have g1 : rz_fv hp b 3 1 = some .null := g 1
  have g2 : rz_fv hp b 3 2 = some .null := g 2
  have g3 : rz_fv hp b 3 3 = some .null := g 3
  have g4 : rz_fv hp b 3 4 = some .null := g 4
  have g5 : rz_fv hp b 3 5 = some (.int 0) := g 5
  have g6 : rz_fv hp b 3 6 = some (.int 0) := g 6
  have g7 : rz_fv hp b 3 7 = some (.int 0) := g 7
  have n40 : ¬ (40 : Int32) < 0 := by decide
  have t40 : (40 : Int32).toNatClampNeg = 40 := rfl
  have l40 : 40 ≤ 4096 := by decide
  simp only [↓ri_26_0, ↓ri_26_1, ↓ri_26_4, ↓ri_26_5, ↓ri_26_7, ↓ri_26_9, ↓ri_26_12, ↓ri_26_13, ↓ri_26_15, ↓ri_26_17, ↓ri_26_20, ↓ri_26_21, ↓ri_26_23, ↓ri_26_25, ↓ri_26_28, ↓ri_26_29, ↓ri_26_31, ↓ri_26_33, ↓ri_26_36, ↓ri_26_37, ↓ri_26_39, ↓ri_26_41, ↓ri_26_44, Option.some.injEq, Prod.mk.injEq, exists_eq_left', exists_eq', exists_and_left, exists_and_right, true_and, and_true, true_or, or_true, and_self, and_assoc, Option.toList_some, Option.toList_none, List.cons_append, List.nil_append, ↓reduceIte, rz_x01, rz_x10, rz_fv_pf, rz_av_pf, rz_qv_pf, rz_ln_pf, rz_co_pf, rz_fv_pa, rz_av_pa, rz_qv_pa, rz_ln_pa, rz_co_pa, rz_fv_pq, rz_av_pq, rz_qv_pq, rz_ln_pq, rz_co_pq, Nat.reduceEqDiff, Nat.add_eq_left, Nat.left_eq_add, Nat.one_ne_zero, Option.map_some, exists_const, rz_fv_push, rz_av_push, rz_qv_push, rz_n_push, rz_n_pf, rz_n_pa, rz_n_pq, Nat.add_assoc, Nat.reduceAdd, Nat.reduceEqDiff, rz_p2, rz_p3, rz_p4, rz_p5, rz_p6, rz_p7, rz_p8, exists_eq', h.1, n40, t40, l40, not_false_eq_true, g0, g1, g2, g3, g4]
  refine kk _ ⟨by decide, ?_, fun _ => 0, fun _ => 0, fun _ => 0, fun _ => 0, fun _ => 0, ?_, fun i e he => by simp at he⟩ ?_ ?_
  · simp only [rz_PF, rz_fv_pf, rz_av_pf, rz_qv_pf, rz_ln_pf, rz_co_pf, rz_fv_pa, rz_av_pa, rz_qv_pa, rz_ln_pa, rz_co_pa, rz_fv_pq, rz_av_pq, rz_qv_pq, rz_ln_pq, rz_co_pq, Nat.reduceEqDiff, Nat.add_eq_left, Nat.left_eq_add, Nat.one_ne_zero, Option.map_some, exists_const, Option.some.injEq, Prod.mk.injEq, exists_eq_left', exists_eq', exists_and_left, exists_and_right, true_and, and_true, true_or, or_true, and_self, and_assoc, Option.toList_some, Option.toList_none, List.cons_append, List.nil_append, ↓reduceIte, rz_x01, rz_x10, rz_fv_push, rz_av_push, rz_qv_push, rz_n_push, rz_n_pf, rz_n_pa, rz_n_pq, Nat.add_assoc, Nat.reduceAdd, Nat.reduceEqDiff, rz_p2, rz_p3, rz_p4, rz_p5, rz_p6, rz_p7, rz_p8, exists_eq', h.1, g0, g1, g2, g3, g4, g5, g6, g7, List.length_nil, nI_0]
  · simp only [rz_PA, rz_fv_pf, rz_av_pf, rz_qv_pf, rz_ln_pf, rz_co_pf, rz_fv_pa, rz_av_pa, rz_qv_pa, rz_ln_pa, rz_co_pa, rz_fv_pq, rz_av_pq, rz_qv_pq, rz_ln_pq, rz_co_pq, Nat.reduceEqDiff, Nat.add_eq_left, Nat.left_eq_add, Nat.one_ne_zero, Option.map_some, exists_const, Option.some.injEq, Prod.mk.injEq, exists_eq_left', exists_eq', exists_and_left, exists_and_right, true_and, and_true, true_or, or_true, and_self, and_assoc, Option.toList_some, Option.toList_none, List.cons_append, List.nil_append, ↓reduceIte, rz_x01, rz_x10, rz_fv_push, rz_av_push, rz_qv_push, rz_n_push, rz_n_pf, rz_n_pa, rz_n_pq, Nat.add_assoc, Nat.reduceAdd, Nat.reduceEqDiff, rz_p2, rz_p3, rz_p4, rz_p5, rz_p6, rz_p7, rz_p8, exists_eq', h.1]
  · refine Prod.ext ?_ ?_
    · simp only [rz_fv_push, rz_av_push, rz_qv_push, rz_n_push, rz_n_pf, rz_n_pa, rz_n_pq, Nat.add_assoc, Nat.reduceAdd, Nat.reduceEqDiff, rz_p2, rz_p3, rz_p4, rz_p5, rz_p6, rz_p7, rz_p8, exists_eq', h.1]
    · simp only [Nat.add_assoc, Nat.reduceAdd, rz_w_push, rz_w_pf]
  · repeat' first | exact rz_ex.rf | refine rz_ex.tr ?_ (rz_ex_pf (Nat.le_refl _)) | refine rz_ex.tr ?_ (rz_ex_push (by simp only [rz_fv_push, rz_av_push, rz_qv_push, rz_n_push, rz_n_pf, rz_n_pa, rz_n_pq, Nat.add_assoc, Nat.reduceAdd, Nat.reduceEqDiff, rz_p2, rz_p3, rz_p4, rz_p5, rz_p6, rz_p7, rz_p8, exists_eq', h.1]; omega))
set_option maxHeartbeats 4000000 in
set_option maxRecDepth 100000 in
theorem c_L_init (h : rz_nw b 1 hp) (kk : ∀ hp', rz_LT b [] hp' → hp'.2 = (b + 5, hp.2.2 + 32) → rz_ex b hp hp' → R none hp') : rz_ev (d + 1) 6 0 [some (.ref b)] [] hp R := by
  have g := fun j => h.fv (j := j)
  have g0 : rz_fv hp b 1 0 = some .null := g 0
  have g1 : rz_fv hp b 1 1 = some .null := g 1
  have g2 : rz_fv hp b 1 2 = some .null := g 2
  have g3 : rz_fv hp b 1 3 = some .null := g 3
  have g4 : rz_fv hp b 1 4 = some (.int 0) := g 4
  have n40 : ¬ (8 : Int32) < 0 := by decide
  have t40 : (8 : Int32).toNatClampNeg = 8 := rfl
  have l40 : 8 ≤ 4096 := by decide
  simp only [↓ri_6_0, ↓ri_6_1, ↓ri_6_4, ↓ri_6_5, ↓ri_6_7, ↓ri_6_9, ↓ri_6_12, ↓ri_6_13, ↓ri_6_15, ↓ri_6_17, ↓ri_6_20, ↓ri_6_21, ↓ri_6_23, ↓ri_6_25, ↓ri_6_28, ↓ri_6_29, ↓ri_6_31, ↓ri_6_33, ↓ri_6_36, Option.some.injEq, Prod.mk.injEq, exists_eq_left', exists_eq', exists_and_left, exists_and_right, true_and, and_true, true_or, or_true, and_self, and_assoc, Option.toList_some, Option.toList_none, List.cons_append, List.nil_append, ↓reduceIte, rz_x01, rz_x10, rz_fv_pf, rz_av_pf, rz_qv_pf, rz_ln_pf, rz_co_pf, rz_fv_pa, rz_av_pa, rz_qv_pa, rz_ln_pa, rz_co_pa, rz_fv_pq, rz_av_pq, rz_qv_pq, rz_ln_pq, rz_co_pq, Nat.reduceEqDiff, Nat.add_eq_left, Nat.left_eq_add, Nat.one_ne_zero, Option.map_some, exists_const, rz_fv_push, rz_av_push, rz_qv_push, rz_n_push, rz_n_pf, rz_n_pa, rz_n_pq, Nat.add_assoc, Nat.reduceAdd, Nat.reduceEqDiff, rz_p2, rz_p3, rz_p4, rz_p5, rz_p6, rz_p7, rz_p8, exists_eq', h.1, n40, t40, l40, not_false_eq_true, g0, g1, g2, g3]
  refine kk _ ⟨by decide, ?_, fun _ => 0, fun _ => 0, fun _ => 0, fun _ => 0, ?_, fun i e he => by simp at he⟩ ?_ ?_
  · simp only [rz_LF, rz_fv_pf, rz_av_pf, rz_qv_pf, rz_ln_pf, rz_co_pf, rz_fv_pa, rz_av_pa, rz_qv_pa, rz_ln_pa, rz_co_pa, rz_fv_pq, rz_av_pq, rz_qv_pq, rz_ln_pq, rz_co_pq, Nat.reduceEqDiff, Nat.add_eq_left, Nat.left_eq_add, Nat.one_ne_zero, Option.map_some, exists_const, Option.some.injEq, Prod.mk.injEq, exists_eq_left', exists_eq', exists_and_left, exists_and_right, true_and, and_true, true_or, or_true, and_self, and_assoc, Option.toList_some, Option.toList_none, List.cons_append, List.nil_append, ↓reduceIte, rz_x01, rz_x10, rz_fv_push, rz_av_push, rz_qv_push, rz_n_push, rz_n_pf, rz_n_pa, rz_n_pq, Nat.add_assoc, Nat.reduceAdd, Nat.reduceEqDiff, rz_p2, rz_p3, rz_p4, rz_p5, rz_p6, rz_p7, rz_p8, exists_eq', h.1, g0, g1, g2, g3, g4, List.length_nil, nI_0]
  · simp only [rz_LA, rz_fv_pf, rz_av_pf, rz_qv_pf, rz_ln_pf, rz_co_pf, rz_fv_pa, rz_av_pa, rz_qv_pa, rz_ln_pa, rz_co_pa, rz_fv_pq, rz_av_pq, rz_qv_pq, rz_ln_pq, rz_co_pq, Nat.reduceEqDiff, Nat.add_eq_left, Nat.left_eq_add, Nat.one_ne_zero, Option.map_some, exists_const, Option.some.injEq, Prod.mk.injEq, exists_eq_left', exists_eq', exists_and_left, exists_and_right, true_and, and_true, true_or, or_true, and_self, and_assoc, Option.toList_some, Option.toList_none, List.cons_append, List.nil_append, ↓reduceIte, rz_x01, rz_x10, rz_fv_push, rz_av_push, rz_qv_push, rz_n_push, rz_n_pf, rz_n_pa, rz_n_pq, Nat.add_assoc, Nat.reduceAdd, Nat.reduceEqDiff, rz_p2, rz_p3, rz_p4, rz_p5, rz_p6, rz_p7, rz_p8, exists_eq', h.1]
  · refine Prod.ext ?_ ?_
    · simp only [rz_fv_push, rz_av_push, rz_qv_push, rz_n_push, rz_n_pf, rz_n_pa, rz_n_pq, Nat.add_assoc, Nat.reduceAdd, Nat.reduceEqDiff, rz_p2, rz_p3, rz_p4, rz_p5, rz_p6, rz_p7, rz_p8, exists_eq', h.1]
    · simp only [Nat.add_assoc, Nat.reduceAdd, rz_w_push, rz_w_pf]
  · repeat' first | exact rz_ex.rf | refine rz_ex.tr ?_ (rz_ex_pf (Nat.le_refl _)) | refine rz_ex.tr ?_ (rz_ex_push (by simp only [rz_fv_push, rz_av_push, rz_qv_push, rz_n_push, rz_n_pf, rz_n_pa, rz_n_pq, Nat.add_assoc, Nat.reduceAdd, Nat.reduceEqDiff, rz_p2, rz_p3, rz_p4, rz_p5, rz_p6, rz_p7, rz_p8, exists_eq', h.1]; omega))
set_option maxHeartbeats 4000000 in
set_option maxRecDepth 100000 in
theorem c_R_init (h : rz_nw b 4 hp) (kk : ∀ hp', rz_RD b (fun _ => -5) 0 hp' → hp'.2 = (b + 2, hp.2.2 + 144) → rz_ex b hp hp' → R none hp') : rz_ev (d + 1) 56 0 [some (.ref b), none] [] hp R := by
  have g := fun j => h.fv (j := j)
  have g0 : rz_fv hp b 4 0 = some .null := g 0
  have g1 : rz_fv hp b 4 1 = some (.int 0) := g 1
  have n40 : ¬ (144 : Int32) < 0 := by decide
  have t40 : (144 : Int32).toNatClampNeg = 144 := rfl
  have l40 : 144 ≤ 4096 := by decide
  have hl : ∀ i, i ≤ 144 → ∀ hp1 f, rz_fv hp1 b 4 0 = some (.ref (b + 1)) → rz_fv hp1 b 4 1 = some (.int 0) → rz_av hp1 (b + 1) = some (0, 144, f) → (∀ k, k < i → f k = -5) → hp1.2 = (b + 2, hp.2.2 + 144) → rz_ex b hp hp1 → rz_ev (d + 1) 56 15 [some (.ref b), some (.int (nI i))] [] hp1 R := by
    refine rz_down 144 ?_ ?_
    · intro hp1 f q0 q1 q2 q3 q4 q5
      have hln : rz_ln hp1 (b + 1) = some 144 := rz_ln_av q2
      have c1 : nI 144 ≤ nI 144 := by decide
      rw [ri_56_15]
      simp only [↓ri_56_16, ↓ri_56_17, ↓ri_56_20, ↓ri_56_21, ↓ri_56_38, Option.some.injEq, Prod.mk.injEq, exists_eq_left', exists_eq', exists_and_left, exists_and_right, true_and, and_true, true_or, or_true, and_self, and_assoc, Option.toList_some, Option.toList_none, List.cons_append, List.nil_append, ↓reduceIte, rz_x01, rz_x10, q0, hln, ↓if_pos c1]
      exact kk hp1 ⟨q0, q1, f, q2, q3⟩ q4 q5
    · intro i hi ih hp1 f q0 q1 q2 q3 q4 q5
      have hln : rz_ln hp1 (b + 1) = some 144 := rz_ln_av q2
      have c1 : ¬ nI 144 ≤ nI i := nI_ge hi (by decide)
      have hv : vp_in (nI i) 144 := vp_in_nI hi (by decide)
      rw [ri_56_15]
      simp only [↓ri_56_16, ↓ri_56_17, ↓ri_56_20, ↓ri_56_21, ↓ri_56_24, ↓ri_56_25, ↓ri_56_28, ↓ri_56_29, ↓ri_56_31, ↓ri_56_32, ↓ri_56_35, Option.some.injEq, Prod.mk.injEq, exists_eq_left', exists_eq', exists_and_left, exists_and_right, true_and, and_true, true_or, or_true, and_self, and_assoc, Option.toList_some, Option.toList_none, List.cons_append, List.nil_append, ↓reduceIte, rz_x01, rz_x10, q0, hln, ↓if_neg c1, q2, hv, nI_clamp (show i < 2 ^ 31 by omega), nI_1]
      refine ih _ (upd f i (-5)) (by rw [rz_fv_pa]; exact q0) (by rw [rz_fv_pa]; exact q1) (rz_avS q2) (fun k hk => ?_) q4 (q5.tr (rz_ex_sm (rz_sm_pa (lo := b + 1) (hi := b + 2) (by omega) (by omega)) (by omega)))
      by_cases q : k = i
      · subst q; exact pk_us
      · rw [pk_un q]; exact q3 k (by omega)
  have := hl 0 (Nat.zero_le _) (rz_pf (rz_push hp (.inl (0, 144, fun _ => 0)) 144) b 0 (.ref (b + 1))) (fun _ => 0) (by simp only [rz_fv_pf, rz_av_pf, rz_qv_pf, rz_ln_pf, rz_co_pf, rz_fv_pa, rz_av_pa, rz_qv_pa, rz_ln_pa, rz_co_pa, rz_fv_pq, rz_av_pq, rz_qv_pq, rz_ln_pq, rz_co_pq, Nat.reduceEqDiff, Nat.add_eq_left, Nat.left_eq_add, Nat.one_ne_zero, Option.map_some, exists_const, Option.some.injEq, Prod.mk.injEq, exists_eq_left', exists_eq', exists_and_left, exists_and_right, true_and, and_true, true_or, or_true, and_self, and_assoc, Option.toList_some, Option.toList_none, List.cons_append, List.nil_append, ↓reduceIte, rz_x01, rz_x10, rz_fv_push, rz_av_push, rz_qv_push, rz_n_push, rz_n_pf, rz_n_pa, rz_n_pq, Nat.add_assoc, Nat.reduceAdd, Nat.reduceEqDiff, rz_p2, rz_p3, rz_p4, rz_p5, rz_p6, rz_p7, rz_p8, exists_eq', h.1, g0]) (by simp only [rz_fv_pf, rz_av_pf, rz_qv_pf, rz_ln_pf, rz_co_pf, rz_fv_pa, rz_av_pa, rz_qv_pa, rz_ln_pa, rz_co_pa, rz_fv_pq, rz_av_pq, rz_qv_pq, rz_ln_pq, rz_co_pq, Nat.reduceEqDiff, Nat.add_eq_left, Nat.left_eq_add, Nat.one_ne_zero, Option.map_some, exists_const, Option.some.injEq, Prod.mk.injEq, exists_eq_left', exists_eq', exists_and_left, exists_and_right, true_and, and_true, true_or, or_true, and_self, and_assoc, Option.toList_some, Option.toList_none, List.cons_append, List.nil_append, ↓reduceIte, rz_x01, rz_x10, rz_fv_push, rz_av_push, rz_qv_push, rz_n_push, rz_n_pf, rz_n_pa, rz_n_pq, Nat.add_assoc, Nat.reduceAdd, Nat.reduceEqDiff, rz_p2, rz_p3, rz_p4, rz_p5, rz_p6, rz_p7, rz_p8, exists_eq', h.1, g1]) (by simp only [rz_fv_pf, rz_av_pf, rz_qv_pf, rz_ln_pf, rz_co_pf, rz_fv_pa, rz_av_pa, rz_qv_pa, rz_ln_pa, rz_co_pa, rz_fv_pq, rz_av_pq, rz_qv_pq, rz_ln_pq, rz_co_pq, Nat.reduceEqDiff, Nat.add_eq_left, Nat.left_eq_add, Nat.one_ne_zero, Option.map_some, exists_const, Option.some.injEq, Prod.mk.injEq, exists_eq_left', exists_eq', exists_and_left, exists_and_right, true_and, and_true, true_or, or_true, and_self, and_assoc, Option.toList_some, Option.toList_none, List.cons_append, List.nil_append, ↓reduceIte, rz_x01, rz_x10, rz_fv_push, rz_av_push, rz_qv_push, rz_n_push, rz_n_pf, rz_n_pa, rz_n_pq, Nat.add_assoc, Nat.reduceAdd, Nat.reduceEqDiff, rz_p2, rz_p3, rz_p4, rz_p5, rz_p6, rz_p7, rz_p8, exists_eq', h.1]) (fun k hk => absurd hk (Nat.not_lt_zero _)) (Prod.ext (by simp only [rz_fv_push, rz_av_push, rz_qv_push, rz_n_push, rz_n_pf, rz_n_pa, rz_n_pq, Nat.add_assoc, Nat.reduceAdd, Nat.reduceEqDiff, rz_p2, rz_p3, rz_p4, rz_p5, rz_p6, rz_p7, rz_p8, exists_eq', h.1]) rfl) ((rz_ex_push (by have := h.1; omega)).tr (rz_ex_pf (Nat.le_refl _)))
  rw [nI_0] at this
  simp only [↓ri_56_0, ↓ri_56_1, ↓ri_56_4, ↓ri_56_5, ↓ri_56_8, ↓ri_56_10, ↓ri_56_13, ↓ri_56_14, Option.some.injEq, Prod.mk.injEq, exists_eq_left', exists_eq', exists_and_left, exists_and_right, true_and, and_true, true_or, or_true, and_self, and_assoc, Option.toList_some, Option.toList_none, List.cons_append, List.nil_append, ↓reduceIte, rz_x01, rz_x10, rz_fv_pf, rz_av_pf, rz_qv_pf, rz_ln_pf, rz_co_pf, rz_fv_pa, rz_av_pa, rz_qv_pa, rz_ln_pa, rz_co_pa, rz_fv_pq, rz_av_pq, rz_qv_pq, rz_ln_pq, rz_co_pq, Nat.reduceEqDiff, Nat.add_eq_left, Nat.left_eq_add, Nat.one_ne_zero, Option.map_some, exists_const, rz_fv_push, rz_av_push, rz_qv_push, rz_n_push, rz_n_pf, rz_n_pa, rz_n_pq, Nat.add_assoc, Nat.reduceAdd, Nat.reduceEqDiff, rz_p2, rz_p3, rz_p4, rz_p5, rz_p6, rz_p7, rz_p8, exists_eq', h.1, n40, t40, l40, not_false_eq_true, g0]
  exact this
def rz_st0 : rz_AS := ([], 0, 0, [], fun _ => -5, 0, 0, 0, 0)
set_option maxHeartbeats 4000000 in
set_option maxRecDepth 100000 in
theorem c_T_init (h : rz_nw b 6 hp) (kk : ∀ hp', rz_ST b rz_st0 hp' → hp'.2 = (b + 14, hp.2.2 + 391) → rz_ex b hp hp' → R none hp') : rz_ev (d + 2) 74 0 [some (.ref b)] [] hp R := by
  have g := fun j => h.fv (j := j)
  have g0 : rz_fv hp b 6 0 = some .null := g 0
  have g1 : rz_fv hp b 6 1 = some .null := g 1
  have g2 : rz_fv hp b 6 2 = some .null := g 2
  have g3 : rz_fv hp b 6 3 = some (.int 0) := g 3
  have g4 : rz_fv hp b 6 4 = some (.int 0) := g 4
  have g5 : rz_fv hp b 6 5 = some (.int 0) := g 5
  simp only [↓ri_74_0, ↓ri_74_1, ↓ri_74_4, ↓ri_74_5, ↓ri_74_8, ↓ri_74_9, Option.some.injEq, Prod.mk.injEq, exists_eq_left', exists_eq', exists_and_left, exists_and_right, true_and, and_true, true_or, or_true, and_self, and_assoc, Option.toList_some, Option.toList_none, List.cons_append, List.nil_append, ↓reduceIte, rz_x01, rz_x10, h.1]
  refine c_P_init (d := d) (rz_nw_push h.1) (fun h1 k1 e1 x1 => ?_)
  have y1 : rz_ex (b + 1) hp h1 := (rz_ex_push (by rw [h.1]; exact Nat.le_refl _)).tr x1
  have n1 : h1.2.1 = b + 7 := by rw [e1]
  have u0 := y1.fv (Nat.lt_succ_self b) g0
  have u1 := y1.fv (Nat.lt_succ_self b) g1
  have u2 := y1.fv (Nat.lt_succ_self b) g2
  have u3 := y1.fv (Nat.lt_succ_self b) g3
  have u4 := y1.fv (Nat.lt_succ_self b) g4
  have u5 := y1.fv (Nat.lt_succ_self b) g5
  simp only [↓ri_74_12, ↓ri_74_15, ↓ri_74_16, ↓ri_74_19, ↓ri_74_20, Option.some.injEq, Prod.mk.injEq, exists_eq_left', exists_eq', exists_and_left, exists_and_right, true_and, and_true, true_or, or_true, and_self, and_assoc, Option.toList_some, Option.toList_none, List.cons_append, List.nil_append, ↓reduceIte, rz_x01, rz_x10, u0, rz_n_pf, n1]
  have s1 : rz_sm b (b + 1) h1 (rz_pf h1 b 0 (.ref (b + 1))) := rz_sm_pf (by omega) (by omega)
  refine c_L_init (d := d) (rz_nw_push (hp := rz_pf h1 b 0 (.ref (b + 1))) n1) (fun h2 k2 e2 x2 => ?_)
  have y2 : rz_ex (b + 7) (rz_pf h1 b 0 (.ref (b + 1))) h2 := (rz_ex_push (by rw [rz_n_pf, n1]; exact Nat.le_refl _)).tr x2
  have n2 : h2.2.1 = b + 12 := by rw [e2]
  have v0 := y2.fv (a := b) (ci := 6) (j := 0) (v := .ref (b + 1)) (by omega) (by simp only [rz_fv_pf, rz_av_pf, rz_qv_pf, rz_ln_pf, rz_co_pf, rz_fv_pa, rz_av_pa, rz_qv_pa, rz_ln_pa, rz_co_pa, rz_fv_pq, rz_av_pq, rz_qv_pq, rz_ln_pq, rz_co_pq, Nat.reduceEqDiff, Nat.add_eq_left, Nat.left_eq_add, Nat.one_ne_zero, Option.map_some, exists_const, Option.some.injEq, Prod.mk.injEq, exists_eq_left', exists_eq', exists_and_left, exists_and_right, true_and, and_true, true_or, or_true, and_self, and_assoc, Option.toList_some, Option.toList_none, List.cons_append, List.nil_append, ↓reduceIte, rz_x01, rz_x10, u0])
  have v1 := y2.fv (a := b) (ci := 6) (j := 1) (v := .null) (by omega) (by simp only [rz_fv_pf, rz_av_pf, rz_qv_pf, rz_ln_pf, rz_co_pf, rz_fv_pa, rz_av_pa, rz_qv_pa, rz_ln_pa, rz_co_pa, rz_fv_pq, rz_av_pq, rz_qv_pq, rz_ln_pq, rz_co_pq, Nat.reduceEqDiff, Nat.add_eq_left, Nat.left_eq_add, Nat.one_ne_zero, Option.map_some, exists_const, Option.some.injEq, Prod.mk.injEq, exists_eq_left', exists_eq', exists_and_left, exists_and_right, true_and, and_true, true_or, or_true, and_self, and_assoc, Option.toList_some, Option.toList_none, List.cons_append, List.nil_append, ↓reduceIte, rz_x01, rz_x10, u1])
  have v2 := y2.fv (a := b) (ci := 6) (j := 2) (v := .null) (by omega) (by simp only [rz_fv_pf, rz_av_pf, rz_qv_pf, rz_ln_pf, rz_co_pf, rz_fv_pa, rz_av_pa, rz_qv_pa, rz_ln_pa, rz_co_pa, rz_fv_pq, rz_av_pq, rz_qv_pq, rz_ln_pq, rz_co_pq, Nat.reduceEqDiff, Nat.add_eq_left, Nat.left_eq_add, Nat.one_ne_zero, Option.map_some, exists_const, Option.some.injEq, Prod.mk.injEq, exists_eq_left', exists_eq', exists_and_left, exists_and_right, true_and, and_true, true_or, or_true, and_self, and_assoc, Option.toList_some, Option.toList_none, List.cons_append, List.nil_append, ↓reduceIte, rz_x01, rz_x10, u2])
  have v3 := y2.fv (a := b) (ci := 6) (j := 3) (v := .int 0) (by omega) (by simp only [rz_fv_pf, rz_av_pf, rz_qv_pf, rz_ln_pf, rz_co_pf, rz_fv_pa, rz_av_pa, rz_qv_pa, rz_ln_pa, rz_co_pa, rz_fv_pq, rz_av_pq, rz_qv_pq, rz_ln_pq, rz_co_pq, Nat.reduceEqDiff, Nat.add_eq_left, Nat.left_eq_add, Nat.one_ne_zero, Option.map_some, exists_const, Option.some.injEq, Prod.mk.injEq, exists_eq_left', exists_eq', exists_and_left, exists_and_right, true_and, and_true, true_or, or_true, and_self, and_assoc, Option.toList_some, Option.toList_none, List.cons_append, List.nil_append, ↓reduceIte, rz_x01, rz_x10, u3])
  have v4 := y2.fv (a := b) (ci := 6) (j := 4) (v := .int 0) (by omega) (by simp only [rz_fv_pf, rz_av_pf, rz_qv_pf, rz_ln_pf, rz_co_pf, rz_fv_pa, rz_av_pa, rz_qv_pa, rz_ln_pa, rz_co_pa, rz_fv_pq, rz_av_pq, rz_qv_pq, rz_ln_pq, rz_co_pq, Nat.reduceEqDiff, Nat.add_eq_left, Nat.left_eq_add, Nat.one_ne_zero, Option.map_some, exists_const, Option.some.injEq, Prod.mk.injEq, exists_eq_left', exists_eq', exists_and_left, exists_and_right, true_and, and_true, true_or, or_true, and_self, and_assoc, Option.toList_some, Option.toList_none, List.cons_append, List.nil_append, ↓reduceIte, rz_x01, rz_x10, u4])
  have v5 := y2.fv (a := b) (ci := 6) (j := 5) (v := .int 0) (by omega) (by simp only [rz_fv_pf, rz_av_pf, rz_qv_pf, rz_ln_pf, rz_co_pf, rz_fv_pa, rz_av_pa, rz_qv_pa, rz_ln_pa, rz_co_pa, rz_fv_pq, rz_av_pq, rz_qv_pq, rz_ln_pq, rz_co_pq, Nat.reduceEqDiff, Nat.add_eq_left, Nat.left_eq_add, Nat.one_ne_zero, Option.map_some, exists_const, Option.some.injEq, Prod.mk.injEq, exists_eq_left', exists_eq', exists_and_left, exists_and_right, true_and, and_true, true_or, or_true, and_self, and_assoc, Option.toList_some, Option.toList_none, List.cons_append, List.nil_append, ↓reduceIte, rz_x01, rz_x10, u5])
  simp only [↓ri_74_23, ↓ri_74_26, ↓ri_74_27, ↓ri_74_30, ↓ri_74_31, Option.some.injEq, Prod.mk.injEq, exists_eq_left', exists_eq', exists_and_left, exists_and_right, true_and, and_true, true_or, or_true, and_self, and_assoc, Option.toList_some, Option.toList_none, List.cons_append, List.nil_append, ↓reduceIte, rz_x01, rz_x10, v1, rz_n_pf, n2]
  have s2 : rz_sm b (b + 1) h2 (rz_pf h2 b 1 (.ref (b + 7))) := rz_sm_pf (by omega) (by omega)
  refine c_R_init (d := d) (rz_nw_push (hp := rz_pf h2 b 1 (.ref (b + 7))) n2) (fun h3 k3 e3 x3 => ?_)
  have y3 : rz_ex (b + 12) (rz_pf h2 b 1 (.ref (b + 7))) h3 := (rz_ex_push (by rw [rz_n_pf, n2]; exact Nat.le_refl _)).tr x3
  have w0 := y3.fv (a := b) (ci := 6) (j := 0) (v := .ref (b + 1)) (by omega) (by simp only [rz_fv_pf, rz_av_pf, rz_qv_pf, rz_ln_pf, rz_co_pf, rz_fv_pa, rz_av_pa, rz_qv_pa, rz_ln_pa, rz_co_pa, rz_fv_pq, rz_av_pq, rz_qv_pq, rz_ln_pq, rz_co_pq, Nat.reduceEqDiff, Nat.add_eq_left, Nat.left_eq_add, Nat.one_ne_zero, Option.map_some, exists_const, Option.some.injEq, Prod.mk.injEq, exists_eq_left', exists_eq', exists_and_left, exists_and_right, true_and, and_true, true_or, or_true, and_self, and_assoc, Option.toList_some, Option.toList_none, List.cons_append, List.nil_append, ↓reduceIte, rz_x01, rz_x10, v0])
  have w1 := y3.fv (a := b) (ci := 6) (j := 1) (v := .ref (b + 7)) (by omega) (by simp only [rz_fv_pf, rz_av_pf, rz_qv_pf, rz_ln_pf, rz_co_pf, rz_fv_pa, rz_av_pa, rz_qv_pa, rz_ln_pa, rz_co_pa, rz_fv_pq, rz_av_pq, rz_qv_pq, rz_ln_pq, rz_co_pq, Nat.reduceEqDiff, Nat.add_eq_left, Nat.left_eq_add, Nat.one_ne_zero, Option.map_some, exists_const, Option.some.injEq, Prod.mk.injEq, exists_eq_left', exists_eq', exists_and_left, exists_and_right, true_and, and_true, true_or, or_true, and_self, and_assoc, Option.toList_some, Option.toList_none, List.cons_append, List.nil_append, ↓reduceIte, rz_x01, rz_x10, v1])
  have w2 := y3.fv (a := b) (ci := 6) (j := 2) (v := .null) (by omega) (by simp only [rz_fv_pf, rz_av_pf, rz_qv_pf, rz_ln_pf, rz_co_pf, rz_fv_pa, rz_av_pa, rz_qv_pa, rz_ln_pa, rz_co_pa, rz_fv_pq, rz_av_pq, rz_qv_pq, rz_ln_pq, rz_co_pq, Nat.reduceEqDiff, Nat.add_eq_left, Nat.left_eq_add, Nat.one_ne_zero, Option.map_some, exists_const, Option.some.injEq, Prod.mk.injEq, exists_eq_left', exists_eq', exists_and_left, exists_and_right, true_and, and_true, true_or, or_true, and_self, and_assoc, Option.toList_some, Option.toList_none, List.cons_append, List.nil_append, ↓reduceIte, rz_x01, rz_x10, v2])
  have w3 := y3.fv (a := b) (ci := 6) (j := 3) (v := .int 0) (by omega) (by simp only [rz_fv_pf, rz_av_pf, rz_qv_pf, rz_ln_pf, rz_co_pf, rz_fv_pa, rz_av_pa, rz_qv_pa, rz_ln_pa, rz_co_pa, rz_fv_pq, rz_av_pq, rz_qv_pq, rz_ln_pq, rz_co_pq, Nat.reduceEqDiff, Nat.add_eq_left, Nat.left_eq_add, Nat.one_ne_zero, Option.map_some, exists_const, Option.some.injEq, Prod.mk.injEq, exists_eq_left', exists_eq', exists_and_left, exists_and_right, true_and, and_true, true_or, or_true, and_self, and_assoc, Option.toList_some, Option.toList_none, List.cons_append, List.nil_append, ↓reduceIte, rz_x01, rz_x10, v3])
  have w4 := y3.fv (a := b) (ci := 6) (j := 4) (v := .int 0) (by omega) (by simp only [rz_fv_pf, rz_av_pf, rz_qv_pf, rz_ln_pf, rz_co_pf, rz_fv_pa, rz_av_pa, rz_qv_pa, rz_ln_pa, rz_co_pa, rz_fv_pq, rz_av_pq, rz_qv_pq, rz_ln_pq, rz_co_pq, Nat.reduceEqDiff, Nat.add_eq_left, Nat.left_eq_add, Nat.one_ne_zero, Option.map_some, exists_const, Option.some.injEq, Prod.mk.injEq, exists_eq_left', exists_eq', exists_and_left, exists_and_right, true_and, and_true, true_or, or_true, and_self, and_assoc, Option.toList_some, Option.toList_none, List.cons_append, List.nil_append, ↓reduceIte, rz_x01, rz_x10, v4])
  have w5 := y3.fv (a := b) (ci := 6) (j := 5) (v := .int 0) (by omega) (by simp only [rz_fv_pf, rz_av_pf, rz_qv_pf, rz_ln_pf, rz_co_pf, rz_fv_pa, rz_av_pa, rz_qv_pa, rz_ln_pa, rz_co_pa, rz_fv_pq, rz_av_pq, rz_qv_pq, rz_ln_pq, rz_co_pq, Nat.reduceEqDiff, Nat.add_eq_left, Nat.left_eq_add, Nat.one_ne_zero, Option.map_some, exists_const, Option.some.injEq, Prod.mk.injEq, exists_eq_left', exists_eq', exists_and_left, exists_and_right, true_and, and_true, true_or, or_true, and_self, and_assoc, Option.toList_some, Option.toList_none, List.cons_append, List.nil_append, ↓reduceIte, rz_x01, rz_x10, v5])
  simp only [↓ri_74_34, ↓ri_74_37, Option.some.injEq, Prod.mk.injEq, exists_eq_left', exists_eq', exists_and_left, exists_and_right, true_and, and_true, true_or, or_true, and_self, and_assoc, Option.toList_some, Option.toList_none, List.cons_append, List.nil_append, ↓reduceIte, rz_x01, rz_x10, w2]
  have s3 : rz_sm b (b + 1) h3 (rz_pf h3 b 2 (.ref (b + 12))) := rz_sm_pf (by omega) (by omega)
  refine kk _ ⟨?_, rz_PL_sm (rz_PL_ex (rz_PL_sm (rz_PL_ex (rz_PL_sm k1 s1 (by omega)) y2 (by omega)) s2 (by omega)) y3 (by omega)) s3 (by omega), rz_LT_sm (rz_LT_ex (rz_LT_sm k2 s2 (by omega)) y3 (by omega)) s3 (by omega), rz_RD_sm k3 s3 (by omega)⟩ ?_ ?_
  · simp only [rz_SF, rz_fv_pf, rz_av_pf, rz_qv_pf, rz_ln_pf, rz_co_pf, rz_fv_pa, rz_av_pa, rz_qv_pa, rz_ln_pa, rz_co_pa, rz_fv_pq, rz_av_pq, rz_qv_pq, rz_ln_pq, rz_co_pq, Nat.reduceEqDiff, Nat.add_eq_left, Nat.left_eq_add, Nat.one_ne_zero, Option.map_some, exists_const, Option.some.injEq, Prod.mk.injEq, exists_eq_left', exists_eq', exists_and_left, exists_and_right, true_and, and_true, true_or, or_true, and_self, and_assoc, Option.toList_some, Option.toList_none, List.cons_append, List.nil_append, ↓reduceIte, rz_x01, rz_x10, w0, w1, w2, w3, w4, w5]
  · show h3.2 = _
    rw [e3]
    refine Prod.ext rfl ?_
    show (rz_push (rz_pf h2 b 1 (.ref (b + 7))) (.inr (.inr (4, rz_dv 4))) 2).2.2 + 144 = _
    rw [rz_w_push, rz_w_pf, e2]
    show (rz_push (rz_pf h1 b 0 (.ref (b + 1))) (.inr (.inr (1, rz_dv 1))) 5).2.2 + 32 + 2 + 144 = _
    rw [rz_w_push, rz_w_pf, e1]
    show (rz_push hp (.inr (.inr (3, rz_dv 3))) 8).2.2 + 200 + 5 + 32 + 2 + 144 = _
    rw [rz_w_push]
  · exact ((((((y1.wd (by omega)).tr (rz_ex_sm s1 (Nat.le_refl _))).tr (y2.wd (by omega))).tr (rz_ex_sm s2 (Nat.le_refl _))).tr (y3.wd (by omega))).tr (rz_ex_sm s3 (Nat.le_refl _)))
end RZMK
