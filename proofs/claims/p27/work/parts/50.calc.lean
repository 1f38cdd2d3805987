/-! States by numbers: what the calls do to them, so that it can be reckoned -/
abbrev rz_E8 : Type := List rz_En × Int32 × Int32 × List rz_La × Int32 × Int32 × Int32 × Int32
def cz (S : rz_E8) (rd : Nat → Int32) : rz_AS := (S.1, S.2.1, S.2.2.1, S.2.2.2.1, rd, S.2.2.2.2.1, S.2.2.2.2.2.1, S.2.2.2.2.2.2.1, S.2.2.2.2.2.2.2)
def cz_of (s : rz_AS) : rz_E8 := (s.1, s.2.1, s.2.2.1, s.2.2.2.1, s.2.2.2.2.2.1, s.2.2.2.2.2.2.1, s.2.2.2.2.2.2.2.1, s.2.2.2.2.2.2.2.2)
def cz_in (S : rz_E8) (key val : Int32) : Int32 × rz_E8 := if ¬ (0 ≤ key ∧ key ≤ 65535) ∨ val < 0 ∨ 999 < val then (-2, S) else if key < S.2.1 then (-4, S) else if ¬ S.1.length < 40 ∨ 1000 ≤ S.2.2.2.2.2.1 then (-3, S) else (S.2.2.2.2.2.1, S.1 ++ [(S.2.2.2.2.2.1, key, val, 0, rz_pl S.2.1 key)], S.2.1, S.2.2.1, S.2.2.2.1, S.2.2.2.2.1, S.2.2.2.2.2.1 + 1, S.2.2.2.2.2.2.1, S.2.2.2.2.2.2.2)
def cz_out (S : rz_E8) : Int32 × rz_E8 := ((rz_out_ (cz S (fun _ => 0))).1, cz_of (rz_out_ (cz S (fun _ => 0))).2)
def cz_ut (n : Nat) (S : rz_E8) (key : Int32) : Nat × rz_E8 := ((rz_ut n (cz S (fun _ => 0)) key).1, cz_of (rz_ut n (cz S (fun _ => 0)) key).2)
def cz_upto (S : rz_E8) (key : Int32) : Int32 × rz_E8 := if ¬ (0 ≤ key ∧ key ≤ 65535) then (-2, S) else (rz_uA (cz_ut 40 S key).1, (cz_ut 40 S key).2)
def cz_less (S : rz_E8) (n key : Int32) : Int32 × rz_E8 := match rz_fi S.1 n with
  | none => (-1, S)
  | some j => if ¬ (0 ≤ key ∧ key ≤ 65535) then (-2, S) else if key < S.2.1 ∨ (S.1.getD j (0, 0, 0, 0, 0)).2.1 < key then (-4, S) else
    if key = (S.1.getD j (0, 0, 0, 0, 0)).2.1 then (-5, S) else
    (rz_pl S.2.1 key, rz_le S.1 j (S.1.getD j (0, 0, 0, 0, 0)) key (rz_pl S.2.1 key), S.2.1, if rz_pl S.2.1 key = (S.1.getD j (0, 0, 0, 0, 0)).2.2.2.2 then S.2.2.1 else S.2.2.1 + 1, S.2.2.2)
def cz_back (S : rz_E8) (n : Int32) : Int32 × rz_E8 := ((rz_back_ (cz S (fun _ => 0)) n).1, cz_of (rz_back_ (cz S (fun _ => 0)) n).2)
def cz_do (S : rz_E8) (kind a b : Int32) : Int32 × rz_E8 := if kind = 43 then cz_in S a b else if kind = 45 then cz_out S else if kind = 120 then cz_back S a else if kind = 60 then cz_less S a b else (-5, S)
def cz_pw : List rz_Or → Nat → rz_E8 → Option (Nat × Int32) × rz_E8
  | [], _, s => (none, s)
  | o :: os, i, s => if (cz_do s o.1 o.2.1 o.2.2).1 < 0 ∧ ¬ (cz_do s o.1 o.2.1 o.2.2).1 = -5 then (some (i, (cz_do s o.1 o.2.1 o.2.2).1), s) else cz_pw os (i + 1) (cz_do s o.1 o.2.1 o.2.2).2
section CZ
variable {S : rz_E8} {rd : Nat → Int32} {key val n : Int32}
theorem cz_in_eq : rz_in_ (cz S rd) key val = ((cz_in S key val).1, cz (cz_in S key val).2 rd) := by
  obtain ⟨L, fl, am, lat, laid, ci, co, tb⟩ := S
  unfold cz_in cz
  dsimp only
  unfold rz_in_
  dsimp only
  by_cases h1 : ¬ rz_key key ∨ val < 0 ∨ 999 < val
  · rw [if_pos h1, if_pos (show ¬ (0 ≤ key ∧ key ≤ 65535) ∨ val < 0 ∨ 999 < val from h1)]
  · rw [if_neg h1, if_neg (show ¬ (¬ (0 ≤ key ∧ key ≤ 65535) ∨ val < 0 ∨ 999 < val) from h1)]
    by_cases h2 : key < fl
    · simp only [if_pos h2]
    · simp only [if_neg h2]
      by_cases h3 : ¬ L.length < 40 ∨ 1000 ≤ ci
      · simp only [if_pos h3]
      · simp only [if_neg h3]
theorem cz_out_rd (rd2 : Nat → Int32) : rz_out_ (cz S rd) = ((rz_out_ (cz S rd2)).1, cz (cz_of (rz_out_ (cz S rd2)).2) rd) := by
  obtain ⟨L, fl, am, lat, laid, ci, co, tb⟩ := S
  unfold cz cz_of
  dsimp only
  unfold rz_out_
  dsimp only
  cases rz_nxf L with
  | none => rfl
  | some j =>
    dsimp only
    cases L[j]? with
    | none => rfl
    | some e =>
      cases (rz_re L (L.getD j (0, 0, 0, 0, 0)))[j]? with
      | none => rfl
      | some e1 => rfl
theorem cz_out_eq : rz_out_ (cz S rd) = ((cz_out S).1, cz (cz_out S).2 rd) := cz_out_rd _
theorem cz_of_cz : cz_of (cz S rd) = S := rfl
theorem cz_ut_rd (rd2 : Nat → Int32) (n : Nat) : ∀ S : rz_E8, rz_ut n (cz S rd) key = ((rz_ut n (cz S rd2) key).1, cz (cz_of (rz_ut n (cz S rd2) key).2) rd) := by
  induction n with
  | zero => intro S; rfl
  | succ n ih =>
    intro S
    unfold rz_ut
    rw [show (cz S rd).1 = S.1 from rfl, show (cz S rd2).1 = S.1 from rfl]
    cases rz_nxf S.1 with
    | none => rfl
    | some j =>
      dsimp only
      by_cases h : key < (S.1.getD j (0, 0, 0, 0, 0)).2.1
      · simp only [if_pos h]; rfl
      · simp only [if_neg h]
        have e1 := cz_out_rd (S := S) (rd := rd) rd2
        have e2 := cz_out_rd (S := S) (rd := rd2) rd2
        have g1 : (rz_out_ (cz S rd)).2 = cz (cz_of (rz_out_ (cz S rd2)).2) rd := by rw [e1]
        have g2 : (rz_out_ (cz S rd2)).2 = cz (cz_of (rz_out_ (cz S rd2)).2) rd2 := congrArg Prod.snd e2
        rw [g1, ih, ← g2]
theorem cz_upto_eq : rz_upto_ (cz S rd) key = ((cz_upto S key).1, cz (cz_upto S key).2 rd) := by
  unfold cz_upto rz_upto_
  by_cases h1 : ¬ rz_key key
  · rw [if_pos h1, if_pos (show ¬ (0 ≤ key ∧ key ≤ 65535) from h1)]
  · rw [if_neg h1, if_neg (show ¬ ¬ (0 ≤ key ∧ key ≤ 65535) from h1)]
    unfold cz_ut
    rw [cz_ut_rd (fun _ => 0)]
theorem cz_less_eq : rz_less_ (cz S rd) n key = ((cz_less S n key).1, cz (cz_less S n key).2 rd) := by
  obtain ⟨L, fl, am, lat, laid, ci, co, tb⟩ := S
  unfold cz_less cz
  dsimp only
  unfold rz_less_
  dsimp only
  cases rz_fi L n with
  | none => rfl
  | some j =>
    dsimp only
    by_cases h1 : ¬ rz_key key
    · rw [if_pos h1, if_pos (show ¬ (0 ≤ key ∧ key ≤ 65535) from h1)]
    · rw [if_neg h1, if_neg (show ¬ ¬ (0 ≤ key ∧ key ≤ 65535) from h1)]
      by_cases h2 : key < fl ∨ (L.getD j (0, 0, 0, 0, 0)).2.1 < key
      · simp only [if_pos h2]
      · simp only [if_neg h2]
        by_cases h3 : key = (L.getD j (0, 0, 0, 0, 0)).2.1
        · simp only [if_pos h3]
        · simp only [if_neg h3]
          by_cases h4 : rz_pl fl key = (L.getD j (0, 0, 0, 0, 0)).2.2.2.2
          · simp only [if_pos h4]
          · simp only [if_neg h4]
theorem cz_back_eq : rz_back_ (cz S rd) n = ((cz_back S n).1, cz (cz_back S n).2 rd) := by
  obtain ⟨L, fl, am, lat, laid, ci, co, tb⟩ := S
  unfold cz_back cz_of cz
  dsimp only
  unfold rz_back_
  dsimp only
  cases rz_fi L n with
  | none => rfl
  | some j => rfl
theorem cz_do_eq {k a b : Int32} : rz_do_ (cz S rd) k a b = ((cz_do S k a b).1, cz (cz_do S k a b).2 rd) := by
  unfold rz_do_ cz_do
  by_cases h1 : k = 43
  · simp only [if_pos h1]; exact cz_in_eq
  · simp only [if_neg h1]
    by_cases h2 : k = 45
    · simp only [if_pos h2]; exact cz_out_eq
    · simp only [if_neg h2]
      by_cases h3 : k = 120
      · simp only [if_pos h3]; exact cz_back_eq
      · simp only [if_neg h3]
        by_cases h4 : k = 60
        · simp only [if_pos h4]; exact cz_less_eq
        · simp only [if_neg h4]
theorem cz_pw_eq : ∀ (os : List rz_Or) (i : Nat) (S : rz_E8), rz_pw os i (cz S rd) = ((cz_pw os i S).1, cz (cz_pw os i S).2 rd) := by
  intro os
  induction os with
  | nil => intro i S; rfl
  | cons o os ih =>
    intro i S
    unfold rz_pw cz_pw
    rw [cz_do_eq]
    dsimp only
    by_cases h : (cz_do S o.1 o.2.1 o.2.2).1 < 0 ∧ ¬ (cz_do S o.1 o.2.1 o.2.2).1 = -5
    · simp only [if_pos h]
    · simp only [if_neg h]
      exact ih _ _
theorem cz_in_at {S' : rz_E8} {r : Int32} (h : cz_in S key val = (r, S')) : rz_in_ (cz S rd) key val = (r, cz S' rd) := by rw [cz_in_eq, h]
theorem cz_out_at {S' : rz_E8} {r : Int32} (h : cz_out S = (r, S')) : rz_out_ (cz S rd) = (r, cz S' rd) := by rw [cz_out_eq, h]
theorem cz_upto_at {S' : rz_E8} {r : Int32} (h : cz_upto S key = (r, S')) : rz_upto_ (cz S rd) key = (r, cz S' rd) := by rw [cz_upto_eq, h]
theorem cz_less_at {S' : rz_E8} {r : Int32} (h : cz_less S n key = (r, S')) : rz_less_ (cz S rd) n key = (r, cz S' rd) := by rw [cz_less_eq, h]
theorem cz_back_at {S' : rz_E8} {r : Int32} (h : cz_back S n = (r, S')) : rz_back_ (cz S rd) n = (r, cz S' rd) := by rw [cz_back_eq, h]
end CZ
/-! some reckoning -/
def cz_d3 : DecidableEq (Int32 × Int32 × Int32 × Int32) := inferInstance
def cz_d5 : DecidableEq rz_En := inferInstance
def cz_dL : DecidableEq (List rz_En) := haveI := cz_d5; inferInstance
def cz_dA : DecidableEq (List rz_La) := inferInstance
def cz_dR : DecidableEq (List rz_La × Int32 × Int32 × Int32 × Int32) := @instDecidableEqProd _ _ cz_dA cz_d3
def cz_dec : DecidableEq (Int32 × rz_E8) := @instDecidableEqProd _ _ inferInstance (@instDecidableEqProd _ _ cz_dL (@instDecidableEqProd _ _ inferInstance (@instDecidableEqProd _ _ inferInstance cz_dR)))
theorem cz_ok {a b : Int32 × rz_E8} (h : @decide (a = b) (cz_dec a b) = true) : a = b := @of_decide_eq_true _ (cz_dec a b) h
theorem cz_try1 : cz_in ([], 0, 0, [], 0, 0, 0, 0) 5 1 = (0, [(0, 5, 1, 0, 3)], 0, 0, [], 0, 1, 0, 0) := cz_ok (by decide +kernel)
theorem cz_try2 : rz_smp [(0, 5, 1, 0, 3)] = 3 := by decide +kernel
theorem cz_try3 : (rz_sch (upd (upd (upd (fun _ => -5) 1 5) 14 5) 2 20) 0).2.2.2.1 2 = 10 := by decide +kernel
