/-! What rz_go says of places holds of the machine: a method that comes to its end over places meets, at every launch, its contract over the cells. -/
theorem rz_lk {α β : Type} [BEq α] [LawfulBEq α] {l : List (α × β)} {a : α} {b : β} (h : l.lookup a = some b) : (a, b) ∈ l := by
  induction l with
  | nil => simp at h
  | cons x l ih =>
    obtain ⟨y, z⟩ := x
    rw [List.lookup_cons] at h
    split at h
    · next e =>
      cases h
      rw [beq_iff_eq] at e
      subst e
      exact List.mem_cons_self
    · exact List.mem_cons_of_mem _ (ih h)
theorem rz_zip {α β : Type} {l : List α} {l2 : List β} {P : α × β → Bool} (hl : l.length = l2.length) (h : (l.zip l2).all P = true) {x : α} (hx : x ∈ l) : ∃ y, P (x, y) = true := by
  obtain ⟨i, hi⟩ := List.getElem?_of_mem hx
  have h1 : i < l2.length := hl ▸ (List.getElem?_eq_some_iff.mp hi).1
  refine ⟨l2[i], List.all_eq_true.mp h _ (List.mem_of_getElem? (i := i) ?_)⟩
  rw [List.getElem?_zip_eq_some]
  exact ⟨hi, List.getElem?_eq_getElem h1⟩
theorem rz_lay : ∀ c, c < 9 → ∀ w ∈ u_ws (rz_R c) (rz_T c) (rz_N c), w ∈ rz_tbl := by
  intro c hc
  match c, hc with
  | 0, _ => exact rz_lay0
  | 1, _ => exact rz_lay1
  | 2, _ => exact rz_lay2
  | 3, _ => exact rz_lay3
  | 4, _ => exact rz_lay4
  | 5, _ => exact rz_lay5
  | 6, _ => exact rz_lay6
  | 7, _ => exact rz_lay7
  | 8, _ => exact rz_lay8
  | n + 9, h => omega
theorem rz_tok : ∀ c, c < 9 → ∀ k, k < rz_N c → parseFieldDescriptor (rz_T c k).2.2.1 = some (rz_ty c k) := by
  intro c hc
  match c, hc with
  | 0, _ => exact rz_tok0
  | 1, _ => exact rz_tok1
  | 2, _ => exact rz_tok2
  | 3, _ => exact rz_tok3
  | 4, _ => exact rz_tok4
  | 5, _ => exact rz_tok5
  | 6, _ => exact rz_tok6
  | 7, _ => exact rz_tok7
  | 8, _ => exact rz_tok8
  | n + 9, h => omega
theorem rz_nm : ∀ c, c < 9 → ∀ a, a < rz_N c → ∀ b, b < rz_N c → a ≠ b → (rz_T c a).2.1 ≠ (rz_T c b).2.1 := by
  intro c hc
  match c, hc with
  | 0, _ => exact rz_nm0
  | 1, _ => exact rz_nm1
  | 2, _ => exact rz_nm2
  | 3, _ => exact rz_nm3
  | 4, _ => exact rz_nm4
  | 5, _ => exact rz_nm5
  | 6, _ => exact rz_nm6
  | 7, _ => exact rz_nm7
  | 8, _ => exact rz_nm8
  | n + 9, h => omega
theorem rz_mem {i : Nat} {w : Cond} (h : lw_tbl[i]? = some w) (g : goodWord w = true) : w ∈ rz_tbl := rz_in (List.mem_of_getElem? h) g
theorem rz_link {q : (Nat × Nat) × (Nat × Nat)} (h : q ∈ rz_fl) : Cond.fieldLink (rz_R q.1.1) q.1.2 (rz_R q.2.1) (rz_T q.2.1 q.2.2).2.1 (rz_T q.2.1 q.2.2).2.2.1 ∈ rz_tbl ∧ q.2.1 < 9 ∧ q.2.2 < rz_N q.2.1 ∧ (rz_T q.2.1 q.2.2).1 = rz_R q.2.1 := by
  obtain ⟨y, hy⟩ := rz_zip (l2 := rz_flx) (by decide +kernel) rz_okF h
  simp only [Bool.and_eq_true, decide_eq_true_eq] at hy
  exact ⟨rz_mem hy.1.1.1 rfl, hy.1.1.2, hy.1.2, hy.2⟩
theorem rz_calls {q : (Nat × Nat) × (Nat × Nat)} (h : q ∈ rz_ml) : rz_mw q ∈ lw_tbl ∧ q.2.2 < 127 ∧ (rz_kd q.2.2 = q.2.1 ∨ 4 < q.2.1 ∨ (q.2.1 = 3 ∧ rz_kd q.2.2 = 1)) ∧ q.1.1 < 10 := by
  obtain ⟨y, hy⟩ := rz_zip (l2 := rz_mlx) (by decide +kernel) rz_okL h
  simp only [Bool.and_eq_true, Bool.or_eq_true, decide_eq_true_eq] at hy
  exact ⟨List.mem_of_getElem? hy.1.1.1, hy.1.1.2, by rcases hy.1.2 with (h | h) | h <;> simp_all, hy.2⟩
theorem rz_news {q : (Nat × Nat) × Nat} (h : q ∈ rz_cl) : Cond.classLink (rz_R q.1.1) q.1.2 (rz_R q.2) ∈ rz_tbl ∧ q.2 < 9 := by
  obtain ⟨y, hy⟩ := rz_zip (l2 := rz_clx) (by decide +kernel) rz_okK h
  simp only [Bool.and_eq_true, decide_eq_true_eq] at hy
  exact ⟨rz_mem hy.1 rfl, hy.2⟩
theorem rz_consts {q : (Nat × Nat) × Int32} (h : q ∈ rz_kl) : Cond.constant (rz_R q.1.1) q.1.2 q.2 ∈ rz_tbl := by
  obtain ⟨y, hy⟩ := rz_zip (l2 := rz_klx) (by decide +kernel) rz_okI h
  simp only [decide_eq_true_eq] at hy
  exact rz_mem hy rfl
theorem rz_constsL {q : (Nat × Nat) × Int64} (h : q ∈ rz_kL) : Cond.constantLong (rz_R q.1.1) q.1.2 q.2 ∈ rz_tbl := by
  obtain ⟨y, hy⟩ := rz_zip (l2 := rz_kLx) (by decide +kernel) rz_okG h
  simp only [decide_eq_true_eq] at hy
  exact rz_mem hy rfl
theorem rz_ini {c : Nat} (hc : c < 10) : Cond.initialized (rz_R c) ∈ rz_tbl := rz_mem (rz_okN c hc) rfl
theorem rz_okV : ∀ k, k < 127 → rz_kd k = 0 → rz_K k < 9 := by decide +kernel
theorem rz_code {k : Nat} (hk : k < 127) : Cond.code (rz_Y k) (rz_B k) (rz_ML k) (rz_RT k) ∈ rz_tbl := by
  obtain ⟨i, hi⟩ := rz_okD k hk
  exact rz_mem hi rfl
theorem rz_inid {c : Nat} (hc : c < 9) : Cond.initialized (rz_R c) ∈ rz_tbl ∧ Cond.instantiable (rz_R c) (rz_N c) ∈ rz_tbl ∧ rz_cls[c]? = some (rz_R c, rz_T c, rz_N c) := by
  obtain ⟨h1, h2, h3⟩ := rz_okC c hc
  exact ⟨rz_mem h1 rfl, rz_mem h2 rfl, h3⟩
/-! the cells that places stand for -/
/-- the numbers of the classes' fields, the classes of int[], char[], State[] and long[], the script: its address, length and contents -/
abbrev rz_G : Type := va_G × ClassId × ClassId × ClassId × ClassId × (Nat × Nat × (Nat → Int32))
def rz_mv (G : rz_G) (b0 : Nat) : Value → Value
  | .ref a => .ref (b0 + a)
  | .float _ => .ref G.2.2.2.2.2.1
  | v => v
def rz_lf (vs : List Value) : Nat → Int64 := fun j => match vs[j]? with
  | some (.long v) => v
  | _ => 0
def rz_cv (G : rz_G) (b0 : Nat) : rz_Cl → va_E
  | .inl x => .inl (if x.1 = 0 then G.2.1 else G.2.2.1, x.2.1, .inl x.2.2)
  | .inr (.inl x) => .inl (G.2.2.2.1, x.1, .inr (.inr (.inr (.inr (fun j => (x.2 j).map (fun a => b0 + a))))))
  | .inr (.inr x) => if x.1 = 10 then .inl (G.2.2.2.2.1, x.2.length, .inr (.inl (rz_lf x.2))) else .inr (x.1, x.2.map (rz_mv G b0))
theorem rz_cv_obj {G : rz_G} {b0 c : Nat} {fs : List Value} (h : c < 9) : rz_cv G b0 (.inr (.inr (c, fs))) = .inr (c, fs.map (rz_mv G b0)) := by
  show (if c = 10 then _ else _) = _
  rw [if_neg (by omega)]
theorem rz_cv_long {G : rz_G} {b0 : Nat} {fs : List Value} : rz_cv G b0 (.inr (.inr (10, fs))) = .inl (G.2.2.2.2.1, fs.length, .inr (.inl (rz_lf fs))) := by
  rfl
def rz_ws (G : rz_G) (b0 : Nat) (hp : rz_Hp) : va_W := (List.range hp.2.1).map (fun a => (b0 + a, rz_cv G b0 (hp.1 a)))
def rz_tys (G : rz_G) : List (ClassId × FieldType) := [(G.2.1, .int), (G.2.2.1, .char), (G.2.2.2.1, .object "RisingPiles$State"), (G.2.2.2.2.1, .long)]
def rz_env (G : rz_G) (U : State) : Prop := va_K G.1 rz_cls (rz_tys G) U ∧ (∀ q ∈ rz_ml, q.2.1 = 3 → va_Nw (rz_mw q) U) ∧ va_AO "RisingPiles$State" U
def rz_sp (G : rz_G) (hp : rz_Hp) : Prop := hp.1 rz_SP = .inl (2, G.2.2.2.2.2.2.1, G.2.2.2.2.2.2.2)
def rz_wd (G : rz_G) (b0 : Nat) (hp : rz_Hp) (H : Heap) : Prop := va_P G.1 rz_cls (rz_ws G b0 hp) H ∧ rz_sp G hp
/-- the script stands in the heap, ahead of all the cells -/
def rz_xs (G : rz_G) (b0 : Nat) (U : State) : Prop := va_X G.2.2.2.2.2.1 G.2.2.2.2.2.2.1 G.2.2.2.2.2.2.2 U U.heap ∧ G.2.2.2.2.2.1 < b0
theorem rz_sp_set {G : rz_G} {hp : rz_Hp} {a : Nat} {c : rz_Cl} (h : rz_sp G hp) (ha : a < hp.2.1) (hm : hp.2.1 ≤ rz_SP) : rz_sp G (rz_set hp a c) := by
  unfold rz_sp rz_set
  dsimp only
  rw [if_neg (by omega)]
  exact h
theorem rz_sp_push {G : rz_G} {hp : rz_Hp} {c : rz_Cl} {n : Nat} (h : rz_sp G hp) (hm : hp.2.1 < rz_SP) : rz_sp G (rz_push hp c n) := by
  unfold rz_sp rz_push
  dsimp only
  rw [if_neg (by omega)]
  exact h
theorem rz_scr_of {G : rz_G} {hp : rz_Hp} (h : rz_sp G hp) {n : Nat} {f : Nat → Int32} (e : rz_scr hp = some (n, f)) : n = G.2.2.2.2.2.2.1 ∧ f = G.2.2.2.2.2.2.2 := by
  unfold rz_scr at e
  rw [h] at e
  cases e
  exact ⟨rfl, rfl⟩
def rz_A (b0 : Nat) : Nat → Prop := fun q => b0 ≤ q
theorem rz_env.warm {G : rz_G} {s U : State} (hW : s.WarmedH U.vm) (h : rz_env G s) : rz_env G U := by
  refine ⟨va_K.moved hW.alike h.1, fun q hq h3 => ?_, va_AO.moved hW.alike h.2.2⟩
  have h1 := h.2.1 q hq h3
  obtain ⟨⟨c, i⟩, t, k⟩ := q
  dsimp only at h3
  subst h3
  exact va_Nw.warmM hW h1
theorem rz_env.blind {G : rz_G} {U : State} (h : rz_env G U) (g : JFrame) (mk : MethodId) (a : Array Value) : rz_env G (U.calling g mk a) := by
  refine ⟨va_K.moved (u := U) (U := U.calling g mk a) (Vm.Alike.refl U.vm) h.1, fun q hq h3 => ?_, va_AO.moved (u := U) (U := U.calling g mk a) (Vm.Alike.refl U.vm) h.2.2⟩
  have h1 := h.2.1 q hq h3
  obtain ⟨⟨c, i⟩, t, k⟩ := q
  dsimp only at h3
  subst h3
  exact va_Nw.same rfl (show U.vm = (U.calling g mk a).vm from rfl) h1
theorem rz_ws_get (G : rz_G) (b0 : Nat) {hp : rz_Hp} {a : Nat} (h : a < hp.2.1) : (rz_ws G b0 hp)[a]? = some (b0 + a, rz_cv G b0 (hp.1 a)) := by
  unfold rz_ws
  rw [List.getElem?_map, List.getElem?_range h]
  rfl
theorem rz_ws_of {G : rz_G} {b0 : Nat} {hp : rz_Hp} {a : Nat} {q : Nat × va_E} (h : (rz_ws G b0 hp)[a]? = some q) : a < hp.2.1 ∧ q = (b0 + a, rz_cv G b0 (hp.1 a)) := by
  have h1 : a < hp.2.1 := by
    have := (List.getElem?_eq_some_iff.mp h).1
    unfold rz_ws at this
    simpa using this
  exact ⟨h1, (Option.some.inj ((rz_ws_get G b0 h1).symm.trans h)).symm⟩
theorem rz_ws_D (G : rz_G) (b0 : Nat) (hp : rz_Hp) : va_D (rz_A b0) (rz_ws G b0 hp) := by
  refine ⟨fun i j p q hi hj h => ?_, fun k q hk => ?_⟩
  · obtain ⟨-, rfl⟩ := rz_ws_of hi
    obtain ⟨-, rfl⟩ := rz_ws_of hj
    dsimp only at h
    omega
  · obtain ⟨-, rfl⟩ := rz_ws_of hk
    exact Nat.le_add_right _ _
theorem rz_ws_set (G : rz_G) (b0 : Nat) {hp : rz_Hp} {a : Nat} (h : a < hp.2.1) (c : rz_Cl) : (rz_ws G b0 hp).set a (b0 + a, rz_cv G b0 c) = rz_ws G b0 (rz_set hp a c) := by
  apply List.ext_getElem?
  intro i
  unfold rz_ws rz_set
  dsimp only
  by_cases hi : i = a
  · subst hi
    simp [h]
  · rw [List.getElem?_set_ne (fun q => hi q.symm)]
    by_cases h2 : i < hp.2.1
    · simp [h2, hi]
    · simp [h2]
theorem rz_ws_push (G : rz_G) (b0 : Nat) (hp : rz_Hp) (c : rz_Cl) (n : Nat) : rz_ws G b0 hp ++ [(b0 + hp.2.1, rz_cv G b0 c)] = rz_ws G b0 (rz_push hp c n) := by
  unfold rz_ws rz_push
  dsimp only
  rw [List.range_succ, List.map_append]
  congr 1
  · apply List.map_congr_left
    intro a ha
    have := List.mem_range.mp ha
    rw [if_neg (by omega)]
  · simp
theorem rz_ws_obj (G : rz_G) (b0 : Nat) {hp : rz_Hp} {a c : Nat} {fs : List Value} (h : a < hp.2.1) (he : hp.1 a = .inr (.inr (c, fs))) (hc : c < 9) : (rz_ws G b0 hp)[a]? = some (b0 + a, .inr (c, fs.map (rz_mv G b0))) := by
  rw [rz_ws_get G b0 h, he, rz_cv_obj hc]
theorem rz_fv_of {hp : rz_Hp} {a ci j : Nat} {v : Value} (h : rz_fv hp a ci j = some v) : a < hp.2.1 ∧ ∃ fs, hp.1 a = .inr (.inr (ci, fs)) ∧ fs[j]? = some v := by
  unfold rz_fv at h
  split at h
  · next hl =>
    split at h
    · next c fs e =>
      split at h
      · next hc => subst hc; exact ⟨hl, fs, e, h⟩
      · cases h
    · cases h
  · cases h
theorem rz_av_of {hp : rz_Hp} {a : Nat} {x : Nat × Nat × (Nat → Int32)} (h : rz_av hp a = some x) : a < hp.2.1 ∧ hp.1 a = .inl x := by
  unfold rz_av at h
  split at h
  · next hl =>
    split at h
    · next y e => cases h; exact ⟨hl, e⟩
    · cases h
  · cases h
theorem rz_qv_of {hp : rz_Hp} {a : Nat} {x : Nat × (Nat → Option Nat)} (h : rz_qv hp a = some x) : a < hp.2.1 ∧ hp.1 a = .inr (.inl x) := by
  unfold rz_qv at h
  split at h
  · next hl =>
    split at h
    · next y e => cases h; exact ⟨hl, e⟩
    · cases h
  · cases h
theorem rz_co_of {hp : rz_Hp} {a c : Nat} (h : rz_co hp a = some c) : a < hp.2.1 ∧ ∃ fs, hp.1 a = .inr (.inr (c, fs)) := by
  unfold rz_co at h
  split at h
  · next hl =>
    split at h
    · next y e => cases h; exact ⟨hl, y.2, e⟩
    · cases h
  · cases h
theorem rz_ln_of {hp : rz_Hp} {a n : Nat} (h : rz_ln hp a = some n) : a < hp.2.1 ∧ ((∃ x, hp.1 a = .inl x ∧ x.2.1 = n) ∨ ∃ x, hp.1 a = .inr (.inl x) ∧ x.1 = n) := by
  unfold rz_ln at h
  split at h
  · next hl =>
    split at h
    · next y e => cases h; exact ⟨hl, Or.inl ⟨y, e, rfl⟩⟩
    · next y e => cases h; exact ⟨hl, Or.inr ⟨y, e, rfl⟩⟩
    · cases h
  · cases h
/-! locals -/
def rz_as (vs : List (Option Value)) : List (Nat × Value) := (List.range vs.length).filterMap (fun i => (vs[i]?.join).map (fun v => (i, v)))
theorem rz_as_iff {vs : List (Option Value)} {q : Nat × Value} : q ∈ rz_as vs ↔ vs[q.1]? = some (some q.2) := by
  unfold rz_as
  rw [List.mem_filterMap]
  constructor
  · rintro ⟨i, hi, h⟩
    cases hv : vs[i]? with
    | none => rw [hv] at h; simp at h
    | some o =>
      cases o with
      | none => rw [hv] at h; simp at h
      | some v => rw [hv] at h; simp at h; subst h; exact hv
  · intro h
    exact ⟨q.1, List.mem_range.mpr (List.getElem?_eq_some_iff.mp h).1, by rw [h]; rfl⟩
def rz_ls (G : rz_G) (b0 : Nat) (ls : Array Slot) (nL : Nat) (lv : List (Option Value)) : Prop := lv.length = nL ∧ ((∀ (i : Nat) (v : Value), lv[i]? = some (some v) → rz_val v = true) ∧ ∀ (i : Nat) (x : Int64), lv[i]? = some (some (.long x)) → lv[i + 1]? = some none) ∧ lv_has ls nL (rz_as (lv.map (Option.map (rz_mv G b0))))
theorem rz_one_cat {v : Value} (h : rz_one v = true) : v.category = 1 := by
  cases v <;> first | rfl | cases h
theorem rz_one_mv {G : rz_G} {b0 : Nat} {v : Value} (h : rz_one v = true) : rz_one (rz_mv G b0 v) = true := by
  cases v <;> first | rfl | cases h
theorem rz_cat_mv {G : rz_G} {b0 : Nat} {v : Value} (h : rz_one v = true) : (rz_mv G b0 v).category = 1 := rz_one_cat (rz_one_mv h)
theorem rz_one_val {v : Value} (h : rz_one v = true) : rz_val v = true := by
  cases v <;> first | rfl | cases h
theorem rz_val_cases {v : Value} (h : rz_val v = true) : rz_one v = true ∨ ∃ x, v = .long x := by
  cases v <;> first | exact Or.inl rfl | exact Or.inr ⟨_, rfl⟩ | cases h
theorem rz_ls_get {G : rz_G} {b0 : Nat} {ls : Array Slot} {nL : Nat} {lv : List (Option Value)} (h : rz_ls G b0 ls nL lv) {i : Nat} {v : Value} (hi : lv[i]? = some (some v)) : ls[i]? = some (.val (rz_mv G b0 v)) :=
  h.2.2.2.2 (i, rz_mv G b0 v) (rz_as_iff.mpr (by rw [List.getElem?_map, hi]; rfl))
theorem rz_nl_of {G : rz_G} {b0 : Nat} {ls : Array Slot} {nL : Nat} {lv : List (Option Value)} (h : rz_ls G b0 ls nL lv) {i : Nat} {v : Value} (hi : lv[i]? = some (some v)) : rz_nl lv i = true := by
  cases i with
  | zero => rfl
  | succ i =>
    cases hw : lv[i]? with
    | none => simp [rz_nl, hw]
    | some o =>
      cases o with
      | none => simp [rz_nl, hw]
      | some w => cases w <;> first | (simp [rz_nl, hw]; done) | (have := h.2.1.2 i _ hw; rw [hi] at this; cases this)
theorem rz_nl_iff {lv : List (Option Value)} {i j : Nat} {x : Int64} (h : rz_nl lv i = true) (hj : lv[j]? = some (some (.long x))) : ¬ j + 1 = i := by
  intro e
  subst e
  simp [rz_nl, hj] at h
theorem rz_as_mv {G : rz_G} {b0 : Nat} {lv : List (Option Value)} {q : Nat × Value} (hq : (lv.map (Option.map (rz_mv G b0)))[q.1]? = some (some q.2)) : ∃ w, lv[q.1]? = some (some w) ∧ rz_mv G b0 w = q.2 := by
  rw [List.getElem?_map] at hq
  cases hw : lv[q.1]? with
  | none => rw [hw] at hq; cases hq
  | some o =>
    cases o with
    | none => rw [hw] at hq; cases hq
    | some w =>
      rw [hw] at hq
      exact ⟨w, rfl, by simpa using hq⟩
theorem rz_ls_set {G : rz_G} {b0 : Nat} {ls : Array Slot} {nL : Nat} {lv : List (Option Value)} (h : rz_ls G b0 ls nL lv) {i : Nat} {v : Value} (hv : rz_one v = true) (hnl : rz_nl lv i = true) {ls' : Array Slot} (h' : lv_has ls' nL ((i, rz_mv G b0 v) :: (rz_as (lv.map (Option.map (rz_mv G b0)))).filter (fun q => !(q.1 == i) && !(q.1 + 1 == i && q.2.category == 2)))) : rz_ls G b0 ls' nL (lv.set i (some v)) := by
  refine ⟨by rw [List.length_set]; exact h.1, ⟨fun j w hj => ?_, fun j x hj => ?_⟩, h'.1, h'.2.1, fun q hq => ?_⟩
  · by_cases hji : j = i
    · subst hji
      have hl : j < lv.length := by have := (List.getElem?_eq_some_iff.mp hj).1; simpa using this
      rw [List.getElem?_set_self hl] at hj
      cases hj
      exact rz_one_val hv
    · rw [List.getElem?_set_ne (fun e => hji e.symm)] at hj
      exact h.2.1.1 j w hj
  · by_cases hji : j = i
    · subst hji
      have hl : j < lv.length := by have := (List.getElem?_eq_some_iff.mp hj).1; simpa using this
      rw [List.getElem?_set_self hl] at hj
      cases hj
      cases hv
    · rw [List.getElem?_set_ne (fun e => hji e.symm)] at hj
      have h2 := rz_nl_iff hnl hj
      rw [List.getElem?_set_ne (fun e => h2 e.symm)]
      exact h.2.1.2 j x hj
  · have hq := rz_as_iff.mp hq
    by_cases hji : q.1 = i
    · refine h'.2.2 q ?_
      obtain ⟨j, w⟩ := q
      dsimp only at hji hq
      subst hji
      have hl : j < lv.length := by have := (List.getElem?_eq_some_iff.mp hq).1; simpa using this
      rw [List.getElem?_map, List.getElem?_set_self hl] at hq
      cases hq
      exact List.mem_cons_self
    · have hq1 : (lv.map (Option.map (rz_mv G b0)))[q.1]? = some (some q.2) := by
        rw [List.getElem?_map, List.getElem?_set_ne (fun e => hji e.symm)] at hq
        rw [List.getElem?_map]; exact hq
      refine h'.2.2 q (List.mem_cons_of_mem _ (List.mem_filter.mpr ⟨rz_as_iff.mpr hq1, ?_⟩))
      obtain ⟨w, hw, e⟩ := rz_as_mv hq1
      rcases rz_val_cases (h.2.1.1 _ _ hw) with h1 | ⟨x, rfl⟩
      · have hc : q.2.category = 1 := by rw [← e]; exact rz_cat_mv h1
        simp [hji, hc]
      · have h2 := rz_nl_iff hnl hw
        simp [hji, h2]
theorem rz_ls_set2 {G : rz_G} {b0 : Nat} {ls : Array Slot} {nL : Nat} {lv : List (Option Value)} (h : rz_ls G b0 ls nL lv) {i : Nat} {x : Int64} (hl : i + 1 < lv.length) (hnl : rz_nl lv i = true) {ls' : Array Slot} (h' : lv_has ls' nL ((i, Value.long x) :: (rz_as (lv.map (Option.map (rz_mv G b0)))).filter (fun q => !(q.1 == i) && (!(q.1 == i + 1) && !(q.1 + 1 == i && q.2.category == 2))))) : rz_ls G b0 ls' nL ((lv.set i (some (.long x))).set (i + 1) none) := by
  have g1 : ((lv.set i (some (.long x))).set (i + 1) none)[i]? = some (some (.long x)) := by
    rw [List.getElem?_set_ne (by omega), List.getElem?_set_self (by omega)]
  have g2 : ((lv.set i (some (.long x))).set (i + 1) none)[i + 1]? = some none := by
    rw [List.getElem?_set_self (by rw [List.length_set]; exact hl)]
  have g3 : ∀ j, ¬ j = i → ¬ j = i + 1 → ((lv.set i (some (.long x))).set (i + 1) none)[j]? = lv[j]? := fun j h1 h2 => by
    rw [List.getElem?_set_ne (fun e => h2 e.symm), List.getElem?_set_ne (fun e => h1 e.symm)]
  refine ⟨by rw [List.length_set, List.length_set]; exact h.1, ⟨fun j w hj => ?_, fun j y hj => ?_⟩, h'.1, h'.2.1, fun q hq => ?_⟩
  · by_cases h1 : j = i
    · subst h1; rw [g1] at hj; cases hj; rfl
    · by_cases h2 : j = i + 1
      · subst h2; rw [g2] at hj; cases hj
      · rw [g3 j h1 h2] at hj; exact h.2.1.1 j w hj
  · by_cases h1 : j = i
    · subst h1; exact g2
    · by_cases h2 : j = i + 1
      · subst h2; rw [g2] at hj; cases hj
      · rw [g3 j h1 h2] at hj
        have h3 := rz_nl_iff hnl hj
        rw [g3 (j + 1) h3 (by omega)]
        exact h.2.1.2 j y hj
  · have hq := rz_as_iff.mp hq
    by_cases h1 : q.1 = i
    · refine h'.2.2 q ?_
      obtain ⟨j, w⟩ := q
      dsimp only at h1 hq
      subst h1
      rw [List.getElem?_map, g1] at hq
      cases hq
      exact List.mem_cons_self
    · by_cases h2 : q.1 = i + 1
      · rw [List.getElem?_map, h2, g2] at hq
        cases hq
      · have hq1 : (lv.map (Option.map (rz_mv G b0)))[q.1]? = some (some q.2) := by
          rw [List.getElem?_map, g3 _ h1 h2] at hq
          rw [List.getElem?_map]; exact hq
        refine h'.2.2 q (List.mem_cons_of_mem _ (List.mem_filter.mpr ⟨rz_as_iff.mpr hq1, ?_⟩))
        obtain ⟨w, hw, e⟩ := rz_as_mv hq1
        rcases rz_val_cases (h.2.1.1 _ _ hw) with h3 | ⟨y, rfl⟩
        · have hc : q.2.category = 1 := by rw [← e]; exact rz_cat_mv h3
          simp [h1, h2, hc]
        · have h3 := rz_nl_iff hnl hw
          simp [h1, h2, h3]
theorem rz_sl_ok (G : rz_G) (b0 : Nat) {as : List Value} (h : ∀ v ∈ as, rz_val v = true) : (lg_sl (as.map (rz_mv G b0))).length = (rz_sl as).length ∧ (∀ (j : Nat) (v : Value), (rz_sl as)[j]? = some (some v) → rz_val v = true) ∧ (∀ (j : Nat) (x : Int64), (rz_sl as)[j]? = some (some (.long x)) → (rz_sl as)[j + 1]? = some none) ∧ ∀ (i0 j : Nat) (v : Value), (rz_sl as)[j]? = some (some v) → (i0 + j, rz_mv G b0 v) ∈ lv_args i0 (as.map (rz_mv G b0)) := by
  induction as with
  | nil => exact ⟨rfl, fun _ _ h => by simp [rz_sl] at h, fun _ _ h => by simp [rz_sl] at h, fun _ _ _ h => by simp [rz_sl] at h⟩
  | cons a as ih =>
    obtain ⟨h1, h2, h3, h4⟩ := ih (fun v hv => h v (List.mem_cons_of_mem _ hv))
    rcases rz_val_cases (h a List.mem_cons_self) with ha | ⟨x, rfl⟩
    · have hc : ¬ (rz_mv G b0 a).category = 2 := by rw [rz_cat_mv ha]; decide
      have e : rz_sl (a :: as) = some a :: rz_sl as := by
        cases a <;> first | rfl | cases ha
      rw [e]
      refine ⟨?_, fun j v hj => ?_, fun j x hj => ?_, fun i0 j v hj => ?_⟩
      · unfold lg_sl at h1 ⊢
        rw [List.map_cons, List.flatMap_cons, if_neg hc]
        simp [h1]
      · cases j with
        | zero => cases hj; exact rz_one_val ha
        | succ j => exact h2 j v hj
      · cases j with
        | zero => cases hj; cases ha
        | succ j => exact h3 j x hj
      · rw [List.map_cons]
        unfold lv_args
        rw [if_neg hc]
        cases j with
        | zero => cases hj; exact List.mem_cons_self
        | succ j =>
          have := h4 (i0 + 1) j v hj
          rw [show i0 + (j + 1) = i0 + 1 + j by omega]
          exact List.mem_cons_of_mem _ this
    · have hc : (rz_mv G b0 (.long x)).category = 2 := rfl
      have e : rz_sl (.long x :: as) = some (.long x) :: none :: rz_sl as := rfl
      rw [e]
      refine ⟨?_, fun j v hj => ?_, fun j y hj => ?_, fun i0 j v hj => ?_⟩
      · unfold lg_sl at h1 ⊢
        rw [List.map_cons, List.flatMap_cons, if_pos hc]
        simp [h1]
      · match j, hj with
        | 0, hj => cases hj; rfl
        | 1, hj => cases hj
        | j + 2, hj => exact h2 j v hj
      · match j, hj with
        | 0, hj => rfl
        | 1, hj => cases hj
        | j + 2, hj => exact h3 j y hj
      · rw [List.map_cons]
        unfold lv_args
        rw [if_pos hc]
        match j, hj with
        | 0, hj => cases hj; exact List.mem_cons_self
        | 1, hj => cases hj
        | j + 2, hj =>
          have := h4 (i0 + 2) j v hj
          rw [show i0 + (j + 2) = i0 + 2 + j by omega]
          exact List.mem_cons_of_mem _ this
theorem rz_entry {G : rz_G} {b0 k : Nat} {as : List Value} (ha : ∀ v ∈ as, rz_val v = true) (hl : rz_cs as ≤ rz_ML k) : rz_ls G b0 ((lg_sl (as.map (rz_mv G b0)) ++ List.replicate (rz_ML k - (lg_sl (as.map (rz_mv G b0))).length) Slot.unset).toArray) (rz_ML k) (rz_en k as) := by
  obtain ⟨h1, h2, h3, h4⟩ := rz_sl_ok G b0 ha
  unfold rz_cs at hl
  have hE := lv_entry (as.map (rz_mv G b0)) (n := rz_ML k) (by rw [h1]; exact hl)
  have hg : ∀ (i : Nat) (v : Value), (rz_en k as)[i]? = some (some v) → (rz_sl as)[i]? = some (some v) := fun i v hi => by
    unfold rz_en at hi
    by_cases hi2 : i < (rz_sl as).length
    · rwa [List.getElem?_append_left hi2] at hi
    · rw [List.getElem?_append_right (Nat.not_lt.mp hi2), List.getElem?_replicate] at hi
      split at hi <;> simp at hi
  refine ⟨by unfold rz_en; simp; omega, ⟨fun i v hi => h2 i v (hg i v hi), fun i x hi => ?_⟩, hE.1, hE.2.1, fun q hq => ?_⟩
  · have g1 := h3 i x (hg i _ hi)
    unfold rz_en
    rw [List.getElem?_append_left (List.getElem?_eq_some_iff.mp g1).1]
    exact g1
  · have hq := rz_as_iff.mp hq
    obtain ⟨w, hw, e⟩ := rz_as_mv hq
    refine hE.2.2 q ?_
    have := h4 0 q.1 w (hg _ _ hw)
    rw [Nat.zero_add, e] at this
    exact this
theorem rz_cats {G : rz_G} {b0 : Nat} {st : List Value} (h : st.all rz_val = true) : ((st.map (rz_mv G b0)).map fun v => v.category).sum = rz_cs st := by
  induction st with
  | nil => rfl
  | cons a st ih =>
    simp only [List.all_cons, Bool.and_eq_true] at h
    have ih := ih h.2
    unfold rz_cs at ih ⊢
    rcases rz_val_cases h.1 with ha | ⟨x, rfl⟩
    · have e : rz_sl (a :: st) = some a :: rz_sl st := by
        cases a <;> first | rfl | cases ha
      rw [e]
      simp only [List.map_cons, List.sum_cons, List.length_cons, ih, rz_cat_mv ha]
      omega
    · have e : rz_sl (.long x :: st) = some (.long x) :: none :: rz_sl st := rfl
      rw [e]
      simp only [List.map_cons, List.sum_cons, List.length_cons, ih]
      show 2 + _ = _
      omega
/-- the locals of a method; none of the class itself holds a long -/
def rz_lo (G : rz_G) (b0 : Nat) (ls : Array Slot) (k : Nat) (lv : List (Option Value)) : Prop := rz_ls G b0 ls (rz_ML k) lv ∧ (rz_K k ≠ 9 → ∀ (i : Nat) (x : Int64), ¬ lv[i]? = some (some (.long x)))
theorem rz_nl_free {lv : List (Option Value)} (h : ∀ (i : Nat) (x : Int64), ¬ lv[i]? = some (some (.long x))) (i : Nat) : rz_nl lv i = true := by
  cases i with
  | zero => rfl
  | succ i =>
    cases hw : lv[i]? with
    | none => simp [rz_nl, hw]
    | some o =>
      cases o with
      | none => simp [rz_nl, hw]
      | some w => cases w <;> first | (simp [rz_nl, hw]; done) | exact absurd hw (h i _)
theorem rz_lo_set {G : rz_G} {b0 : Nat} {ls : Array Slot} {k : Nat} {lv : List (Option Value)} (h : rz_lo G b0 ls k lv) {i : Nat} {v : Value} (hv : rz_one v = true) (hnl : rz_K k ≠ 9 ∨ rz_nl lv i = true) {ls' : Array Slot} (h' : lv_has ls' (rz_ML k) ((i, rz_mv G b0 v) :: (rz_as (lv.map (Option.map (rz_mv G b0)))).filter (fun q => !(q.1 == i) && !(q.1 + 1 == i && q.2.category == 2)))) : rz_lo G b0 ls' k (lv.set i (some v)) := by
  refine ⟨rz_ls_set h.1 hv (by rcases hnl with h9 | hn; exact rz_nl_free (h.2 h9) i; exact hn) h', fun h9 j x hj => ?_⟩
  by_cases hji : j = i
  · subst hji
    have hl : j < lv.length := by have := (List.getElem?_eq_some_iff.mp hj).1; simpa using this
    rw [List.getElem?_set_self hl] at hj
    cases hj
    cases hv
  · rw [List.getElem?_set_ne (fun e => hji e.symm)] at hj
    exact h.2 h9 j x hj
theorem rz_sl_mem {as : List Value} : ∀ (j : Nat) (v : Value), (rz_sl as)[j]? = some (some v) → v ∈ as := by
  induction as with
  | nil => intro j v h; simp [rz_sl] at h
  | cons a as ih =>
    intro j v h
    by_cases ha : ∃ x, a = .long x
    · obtain ⟨x, rfl⟩ := ha
      have e : rz_sl (.long x :: as) = some (.long x) :: none :: rz_sl as := rfl
      rw [e] at h
      match j, h with
      | 0, h => cases h; exact List.mem_cons_self
      | 1, h => cases h
      | j + 2, h => exact List.mem_cons_of_mem _ (ih j v h)
    · have e : rz_sl (a :: as) = some a :: rz_sl as := by
        cases a <;> first | rfl | exact absurd ⟨_, rfl⟩ ha
      rw [e] at h
      match j, h with
      | 0, h => cases h; exact List.mem_cons_self
      | j + 1, h => exact List.mem_cons_of_mem _ (ih j v h)
theorem rz_lo_entry {G : rz_G} {b0 k : Nat} {as : List Value} (ha : ∀ v ∈ as, rz_val v = true) (hl : rz_cs as ≤ rz_ML k) (hn : rz_K k = 9 ∨ as.all rz_one = true) : rz_lo G b0 ((lg_sl (as.map (rz_mv G b0)) ++ List.replicate (rz_ML k - (lg_sl (as.map (rz_mv G b0))).length) Slot.unset).toArray) k (rz_en k as) := by
  refine ⟨rz_entry ha hl, fun h9 i x hx => ?_⟩
  have hn : as.all rz_one = true := by rcases hn with q | q; exact absurd q h9; exact q
  unfold rz_en at hx
  by_cases hi2 : i < (rz_sl as).length
  · rw [List.getElem?_append_left hi2] at hx
    have := List.all_eq_true.mp hn _ (rz_sl_mem i _ hx)
    cases this
  · rw [List.getElem?_append_right (Nat.not_lt.mp hi2), List.getElem?_replicate] at hx
    split at hx <;> simp at hx
