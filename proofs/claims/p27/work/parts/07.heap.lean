/-! Reading behind writing, and what stays -/
theorem rz_fv_pf {hp : rz_Hp} {a j b ci i : Nat} {v : Value} : rz_fv (rz_pf hp a j v) b ci i = if b = a then (if i = j then (rz_fv hp b ci i).map (fun _ => v) else rz_fv hp b ci i) else rz_fv hp b ci i := by
  unfold rz_fv rz_pf rz_set
  dsimp only
  by_cases hba : b = a
  · subst hba
    simp only [if_true]
    by_cases hb : b < hp.2.1
    · simp only [if_pos hb]
      cases h : hp.1 b with
      | inl x => simp
      | inr y =>
        cases y with
        | inl x => simp
        | inr z =>
          obtain ⟨c, fs⟩ := z
          dsimp only
          by_cases hc : c = ci
          · simp only [if_pos hc]
            by_cases hi : i = j
            · subst hi
              simp only [if_true]
              by_cases hl : i < fs.length
              · simp [hl]
              · simp [hl]
            · simp only [if_neg hi]
              rw [List.getElem?_set_ne (fun e => hi e.symm)]
          · simp only [if_neg hc]
            split <;> rfl
    · simp only [if_neg hb]
      split <;> rfl
  · simp only [if_neg hba]
theorem rz_av_pf {hp : rz_Hp} {a j b : Nat} {v : Value} : rz_av (rz_pf hp a j v) b = rz_av hp b := by
  unfold rz_av rz_pf rz_set
  dsimp only
  by_cases hba : b = a
  · subst hba
    simp only [if_true]
    rcases hp.1 b with x | x | x <;> rfl
  · simp only [if_neg hba]
theorem rz_qv_pf {hp : rz_Hp} {a j b : Nat} {v : Value} : rz_qv (rz_pf hp a j v) b = rz_qv hp b := by
  unfold rz_qv rz_pf rz_set
  dsimp only
  by_cases hba : b = a
  · subst hba
    simp only [if_true]
    rcases hp.1 b with x | x | x <;> rfl
  · simp only [if_neg hba]
theorem rz_ln_pf {hp : rz_Hp} {a j b : Nat} {v : Value} : rz_ln (rz_pf hp a j v) b = rz_ln hp b := by
  unfold rz_ln rz_pf rz_set
  dsimp only
  by_cases hba : b = a
  · subst hba
    simp only [if_true]
    rcases hp.1 b with x | x | x <;> rfl
  · simp only [if_neg hba]
theorem rz_co_pf {hp : rz_Hp} {a j b : Nat} {v : Value} : rz_co (rz_pf hp a j v) b = rz_co hp b := by
  unfold rz_co rz_pf rz_set
  dsimp only
  by_cases hba : b = a
  · subst hba
    simp only [if_true]
    rcases hp.1 b with x | x | x <;> rfl
  · simp only [if_neg hba]
theorem rz_fv_pa {hp : rz_Hp} {a b ci i : Nat} {f : Nat → Int32} : rz_fv (rz_pa hp a f) b ci i = rz_fv hp b ci i := by
  unfold rz_fv rz_pa rz_set
  dsimp only
  by_cases hba : b = a
  · subst hba
    simp only [if_true]
    rcases hp.1 b with x | x | x <;> rfl
  · simp only [if_neg hba]
theorem rz_co_pa {hp : rz_Hp} {a b : Nat} {f : Nat → Int32} : rz_co (rz_pa hp a f) b = rz_co hp b := by
  unfold rz_co rz_pa rz_set
  dsimp only
  by_cases hba : b = a
  · subst hba
    simp only [if_true]
    rcases hp.1 b with x | x | x <;> rfl
  · simp only [if_neg hba]
theorem rz_qv_pa {hp : rz_Hp} {a b : Nat} {f : Nat → Int32} : rz_qv (rz_pa hp a f) b = rz_qv hp b := by
  unfold rz_qv rz_pa rz_set
  dsimp only
  by_cases hba : b = a
  · subst hba
    simp only [if_true]
    rcases hp.1 b with x | x | x <;> rfl
  · simp only [if_neg hba]
theorem rz_ln_pa {hp : rz_Hp} {a b : Nat} {f : Nat → Int32} : rz_ln (rz_pa hp a f) b = rz_ln hp b := by
  unfold rz_ln rz_pa rz_set
  dsimp only
  by_cases hba : b = a
  · subst hba
    simp only [if_true]
    rcases hp.1 b with x | x | x <;> rfl
  · simp only [if_neg hba]
theorem rz_av_pa {hp : rz_Hp} {a b : Nat} {f : Nat → Int32} : rz_av (rz_pa hp a f) b = if b = a then (rz_av hp b).map (fun x => (x.1, x.2.1, f)) else rz_av hp b := by
  unfold rz_av rz_pa rz_set
  dsimp only
  by_cases hba : b = a
  · subst hba
    simp only [if_true]
    by_cases hb : b < hp.2.1
    · simp only [if_pos hb]
      rcases hp.1 b with x | x | x <;> rfl
    · simp only [if_neg hb]; rfl
  · simp only [if_neg hba]
theorem rz_fv_pq {hp : rz_Hp} {a b ci i : Nat} {f : Nat → Option Nat} : rz_fv (rz_pq hp a f) b ci i = rz_fv hp b ci i := by
  unfold rz_fv rz_pq rz_set
  dsimp only
  by_cases hba : b = a
  · subst hba
    simp only [if_true]
    rcases hp.1 b with x | x | x <;> rfl
  · simp only [if_neg hba]
theorem rz_av_pq {hp : rz_Hp} {a b : Nat} {f : Nat → Option Nat} : rz_av (rz_pq hp a f) b = rz_av hp b := by
  unfold rz_av rz_pq rz_set
  dsimp only
  by_cases hba : b = a
  · subst hba
    simp only [if_true]
    rcases hp.1 b with x | x | x <;> rfl
  · simp only [if_neg hba]
theorem rz_co_pq {hp : rz_Hp} {a b : Nat} {f : Nat → Option Nat} : rz_co (rz_pq hp a f) b = rz_co hp b := by
  unfold rz_co rz_pq rz_set
  dsimp only
  by_cases hba : b = a
  · subst hba
    simp only [if_true]
    rcases hp.1 b with x | x | x <;> rfl
  · simp only [if_neg hba]
theorem rz_ln_pq {hp : rz_Hp} {a b : Nat} {f : Nat → Option Nat} : rz_ln (rz_pq hp a f) b = rz_ln hp b := by
  unfold rz_ln rz_pq rz_set
  dsimp only
  by_cases hba : b = a
  · subst hba
    simp only [if_true]
    rcases hp.1 b with x | x | x <;> rfl
  · simp only [if_neg hba]
theorem rz_qv_pq {hp : rz_Hp} {a b : Nat} {f : Nat → Option Nat} : rz_qv (rz_pq hp a f) b = if b = a then (rz_qv hp b).map (fun x => (x.1, f)) else rz_qv hp b := by
  unfold rz_qv rz_pq rz_set
  dsimp only
  by_cases hba : b = a
  · subst hba
    simp only [if_true]
    by_cases hb : b < hp.2.1
    · simp only [if_pos hb]
      rcases hp.1 b with x | x | x <;> rfl
    · simp only [if_neg hb]; rfl
  · simp only [if_neg hba]
theorem rz_co_fv {hp : rz_Hp} {a ci j : Nat} {v : Value} (h : rz_fv hp a ci j = some v) : rz_co hp a = some ci := by
  obtain ⟨h1, fs, h2, -⟩ := rz_fv_of h
  unfold rz_co
  rw [if_pos h1, h2]
theorem rz_ln_av {hp : rz_Hp} {a : Nat} {x : Nat × Nat × (Nat → Int32)} (h : rz_av hp a = some x) : rz_ln hp a = some x.2.1 := by
  obtain ⟨h1, h2⟩ := rz_av_of h
  unfold rz_ln
  rw [if_pos h1, h2]
theorem rz_ln_qv {hp : rz_Hp} {a : Nat} {x : Nat × (Nat → Option Nat)} (h : rz_qv hp a = some x) : rz_ln hp a = some x.1 := by
  obtain ⟨h1, h2⟩ := rz_qv_of h
  unfold rz_ln
  rw [if_pos h1, h2]
/-- only the places from lo to below hi may have changed -/
def rz_sm (lo hi : Nat) (hp hp' : rz_Hp) : Prop := hp'.2 = hp.2 ∧ ∀ j, (j < lo ∨ hi ≤ j) → hp'.1 j = hp.1 j
theorem rz_sm.rf {lo hi : Nat} {hp : rz_Hp} : rz_sm lo hi hp hp := ⟨rfl, fun _ _ => rfl⟩
theorem rz_sm.tr {lo hi : Nat} {hp h1 h2 : rz_Hp} (a : rz_sm lo hi hp h1) (b : rz_sm lo hi h1 h2) : rz_sm lo hi hp h2 := ⟨b.1.trans a.1, fun j hj => (b.2 j hj).trans (a.2 j hj)⟩
theorem rz_sm.wd {lo hi lo2 hi2 : Nat} {hp h1 : rz_Hp} (a : rz_sm lo hi hp h1) (h2 : lo2 ≤ lo) (h3 : hi ≤ hi2) : rz_sm lo2 hi2 hp h1 := ⟨a.1, fun j hj => a.2 j (by omega)⟩
theorem rz_sm_set {lo hi a : Nat} {hp : rz_Hp} {c : rz_Cl} (h : lo ≤ a) (h2 : a < hi) : rz_sm lo hi hp (rz_set hp a c) := ⟨rfl, fun j hj => by unfold rz_set; dsimp only; rw [if_neg (by omega)]⟩
theorem rz_sm_pf {lo hi a j : Nat} {hp : rz_Hp} {v : Value} (h : lo ≤ a) (h2 : a < hi) : rz_sm lo hi hp (rz_pf hp a j v) := rz_sm_set h h2
theorem rz_sm_pa {lo hi a : Nat} {hp : rz_Hp} {f : Nat → Int32} (h : lo ≤ a) (h2 : a < hi) : rz_sm lo hi hp (rz_pa hp a f) := rz_sm_set h h2
theorem rz_sm_pq {lo hi a : Nat} {hp : rz_Hp} {f : Nat → Option Nat} (h : lo ≤ a) (h2 : a < hi) : rz_sm lo hi hp (rz_pq hp a f) := rz_sm_set h h2
theorem rz_sm.fv {lo hi a ci j : Nat} {hp h1 : rz_Hp} (s : rz_sm lo hi hp h1) (h : a < lo ∨ hi ≤ a) : rz_fv h1 a ci j = rz_fv hp a ci j := by
  unfold rz_fv
  rw [s.1, s.2 a h]
theorem rz_sm.av {lo hi a : Nat} {hp h1 : rz_Hp} (s : rz_sm lo hi hp h1) (h : a < lo ∨ hi ≤ a) : rz_av h1 a = rz_av hp a := by
  unfold rz_av
  rw [s.1, s.2 a h]
theorem rz_sm.qv {lo hi a : Nat} {hp h1 : rz_Hp} (s : rz_sm lo hi hp h1) (h : a < lo ∨ hi ≤ a) : rz_qv h1 a = rz_qv hp a := by
  unfold rz_qv
  rw [s.1, s.2 a h]
theorem rz_sm.ln {lo hi a : Nat} {hp h1 : rz_Hp} (s : rz_sm lo hi hp h1) (h : a < lo ∨ hi ≤ a) : rz_ln h1 a = rz_ln hp a := by
  unfold rz_ln
  rw [s.1, s.2 a h]
theorem rz_sm.co {lo hi a : Nat} {hp h1 : rz_Hp} (s : rz_sm lo hi hp h1) (h : a < lo ∨ hi ≤ a) : rz_co h1 a = rz_co hp a := by
  unfold rz_co
  rw [s.1, s.2 a h]
/-- going down to 0 from n -/
theorem rz_down {P : Nat → Prop} (N : Nat) (hN : P N) (h : ∀ i, i < N → P (i + 1) → P i) : ∀ i, i ≤ N → P i := by
  intro i hi
  obtain ⟨m, hm⟩ : ∃ m, N = i + m := ⟨N - i, by omega⟩
  induction m generalizing i with
  | zero => rw [show i = N by omega]; exact hN
  | succ m ih => exact h i (by omega) (ih (i + 1) (by omega) (by omega))
