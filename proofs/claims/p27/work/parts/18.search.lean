/-! Search: the shortest ways, by piles -/
/-- how many roads lead from a town to one of the first n; in all, from the first n towns that are done -/
def rz_od (rd : Nat → Int32) (f : Nat) : Nat → Nat
  | 0 => 0
  | n + 1 => rz_od rd f n + if rd (f * 12 + n) = -5 then 0 else 1
def rz_ds (rd dist : Nat → Int32) : Nat → Nat
  | 0 => 0
  | n + 1 => rz_ds rd dist n + if dist n = -5 then 0 else rz_od rd n 12
def rz_tot (rd : Nat → Int32) : Nat := rz_ds rd (fun _ => 0) 12
theorem rz_od_s (rd : Nat → Int32) (f n : Nat) : rz_od rd f (n + 1) = rz_od rd f n + if rd (f * 12 + n) = -5 then 0 else 1 := rfl
theorem rz_ds_s (rd dist : Nat → Int32) (n : Nat) : rz_ds rd dist (n + 1) = rz_ds rd dist n + if dist n = -5 then 0 else rz_od rd n 12 := rfl
theorem rz_ds_upd {rd dist : Nat → Int32} {f : Nat} {v : Int32} (h : dist f = -5) (hv : ¬ v = -5) : ∀ n, rz_ds rd (upd dist f v) n = rz_ds rd dist n + if f < n then rz_od rd f 12 else 0 := by
  intro n
  induction n with
  | zero => rfl
  | succ n ih =>
    rw [rz_ds_s, rz_ds_s, ih]
    by_cases hn : n = f
    · subst hn
      rw [pk_us, if_neg hv, if_pos h, if_neg (Nat.lt_irrefl _), if_pos (Nat.lt_succ_self _)]
    · rw [pk_un hn]
      by_cases hlt : f < n
      · rw [if_pos hlt, if_pos (show f < n + 1 by omega)]; omega
      · rw [if_neg hlt, if_neg (show ¬ f < n + 1 by omega)]; omega
theorem rz_ds_le {rd dist : Nat → Int32} : ∀ n, rz_ds rd dist n ≤ rz_ds rd (fun _ => 0) n := by
  intro n
  induction n with
  | zero => exact Nat.le_refl _
  | succ n ih =>
    rw [rz_ds_s, rz_ds_s]
    have h0 : ¬ (0 : Int32) = -5 := by decide
    rw [if_neg h0]
    split <;> omega
theorem rz_ds_le2 {rd dist : Nat → Int32} {f : Nat} (h : dist f = -5) (hf : f < 12) : rz_ds rd dist 12 + rz_od rd f 12 ≤ rz_tot rd := by
  have h1 := rz_ds_upd (rd := rd) (v := 0) h (by decide) 12
  rw [if_pos hf] at h1
  rw [← h1]
  exact rz_ds_le 12
theorem rz_od_mono {rd : Nat → Int32} {f n m : Nat} (h : n ≤ m) : rz_od rd f n ≤ rz_od rd f m := by
  induction h with
  | refl => exact Nat.le_refl _
  | step _ ih => rw [rz_od_s]; omega
/-- the lengths are in range, and there are 40 at most -/
def rz_rdo (rd : Nat → Int32) : Prop := (∀ i, i < 144 → rd i = -5 ∨ ∃ a : Nat, a ≤ 999 ∧ rd i = nI a) ∧ rz_tot rd ≤ 40
/-- entries, floor, moves; distances, towns done, entries that came in, the greatest distance -/
abbrev rz_SS : Type := List rz_En × Int32 × Int32 × (Nat → Int32) × Int32 × Nat × Int32
def rz_SRF (w : Nat) (dn cm gr : Int32) (hp : rz_Hp) : Prop := rz_fv hp w 5 0 = some (.ref (w + 1)) ∧ rz_fv hp w 5 1 = some (.ref (w + 7)) ∧ rz_fv hp w 5 2 = some (.int dn) ∧ rz_fv hp w 5 3 = some (.int cm) ∧ rz_fv hp w 5 4 = some (.int gr)
def rz_SR (w : Nat) : rz_SS → rz_Hp → Prop := fun (L, fl, am, ds, dn, cm, gr) hp => rz_SRF w dn (nI cm) gr hp ∧ rz_PL (w + 1) L fl am hp ∧ ∃ f, rz_av hp (w + 7) = some (0, 12, f) ∧ ∀ i, i < 12 → f i = ds i
theorem rz_SRF_sm {lo hi w : Nat} {dn cm gr : Int32} {hp h1 : rz_Hp} (h : rz_SRF w dn cm gr hp) (s : rz_sm lo hi hp h1) (hd : w + 1 ≤ lo ∨ hi ≤ w) : rz_SRF w dn cm gr h1 := by
  obtain ⟨p0, p1, p2, p3, p4⟩ := h
  refine ⟨?_, ?_, ?_, ?_, ?_⟩ <;> (rw [s.fv (by omega)]; assumption)
theorem rz_SR_sm {lo hi w : Nat} {s : rz_SS} {hp h1 : rz_Hp} (h : rz_SR w s hp) (q : rz_sm lo hi hp h1) (hd : w + 8 ≤ lo ∨ hi ≤ w) : rz_SR w s h1 := by
  obtain ⟨L, fl, am, ds, dn, cm, gr⟩ := s
  obtain ⟨hF, hP, f, a0, hf⟩ := h
  exact ⟨rz_SRF_sm hF q (by omega), rz_PL_sm hP q (by omega), f, by rw [q.av (by omega)]; exact a0, hf⟩
/-- an entry's key is at most 999 times as great as a number, its value is a town -/
def rz_kv (L : List rz_En) (n : Nat) : Prop := ∀ x ∈ L, (∃ a : Nat, a ≤ 999 * n ∧ x.2.1 = nI a) ∧ ∃ t : Nat, t < 12 ∧ x.2.2.1 = nI t
theorem rz_kv_kr {L : List rz_En} {n : Nat} (h : rz_kv L n) (hn : n ≤ 41) : rz_kr L := fun x hx => by
  obtain ⟨⟨a, ha, e⟩, -⟩ := h x hx
  exact ⟨a, by omega, e⟩
theorem rz_kv_mono {L : List rz_En} {n m : Nat} (h : rz_kv L n) (hn : n ≤ m) : rz_kv L m := fun x hx => by
  obtain ⟨⟨a, ha, e⟩, h2⟩ := h x hx
  exact ⟨⟨a, Nat.le_trans ha (Nat.mul_le_mul_left _ hn), e⟩, h2⟩
theorem rz_kv_re {L : List rz_En} {e : rz_En} {n : Nat} (h : rz_kv L n) : rz_kv (rz_re L e) n := by
  unfold rz_re
  split
  · exact h
  · intro x hx
    obtain ⟨y, hy, rfl⟩ := List.mem_map.mp hx
    obtain ⟨e1, -, e3⟩ := rz_mo_key e.2.2.2.2 e.2.1 y
    rw [e1, e3]
    exact h y hy
theorem rz_kv_er {L : List rz_En} {j n : Nat} (h : rz_kv L n) : rz_kv (L.eraseIdx j) n := fun x hx => h x (List.mem_of_mem_eraseIdx hx)
/-- an entry comes in -/
def rz_sb (t : Nat) (key : Int32) : rz_SS → rz_SS := fun (L, fl, am, ds, dn, cm, gr) => (L ++ [(nI cm, key, nI t, 0, rz_pl fl key)], fl, am, ds, dn, cm + 1, gr)
set_option maxHeartbeats 4000000 in
set_option maxRecDepth 100000 in
theorem c_S_bringIn {d w t a c : Nat} {s : rz_SS} {key : Int32} {hp : rz_Hp} (h : rz_SR w s hp) (hl : s.1.length < 40) (hk : key = nI a) (hf : s.2.1 = nI c) (ha : a < 65536) (hc : c < 65536) {R : Option Value → rz_Hp → Prop} (kk : ∀ hp', rz_SR w (rz_sb t key s) hp' → rz_sm w (w + 8) hp hp' → R none hp') : rz_ev (d + 2) 71 0 [some (.ref w), some (.int (nI t)), some (.int key)] [] hp R := by
  obtain ⟨L, fl, am, ds, dn, cm, gr⟩ := s
  obtain ⟨⟨p0, p1, p2, p3, p4⟩, hP, f, a0, hf2⟩ := id h
  have hco : rz_co hp (w + 1) = some 3 := rz_co_fv hP.2.1.1
  simp only [↓ri_71_0, ↓ri_71_1, ↓ri_71_4, ↓ri_71_5, ↓ri_71_8, ↓ri_71_9, ↓ri_71_10, ↓ri_71_11, ↓ri_71_14, ↓ri_71_15, ↓ri_71_16, ↓ri_71_19, ↓ri_71_20, ↓ri_71_21, ↓ri_71_24, Option.some.injEq, Prod.mk.injEq, exists_eq_left', exists_eq', exists_and_left, exists_and_right, true_and, and_true, true_or, or_true, and_self, and_assoc, Option.toList_some, Option.toList_none, List.cons_append, List.nil_append, ↓reduceIte, rz_x01, rz_x10, p0, p3, hco]
  refine c_P_append (d := d) hP hl hk hf ha hc (fun h1 hP1 hs1 => ?_)
  obtain ⟨r0, r1, r2, r3, r4⟩ := rz_SRF_sm (w := w) ⟨p0, p1, p2, p3, p4⟩ hs1 (by omega)
  have b0 := hs1.av (a := w + 7) (by omega)
  rw [a0] at b0
  have hs2 : rz_sm w (w + 1) h1 (rz_pf h1 w 3 (.int (nI (cm + 1)))) := rz_sm_pf (by omega) (by omega)
  simp only [↓ri_71_0, ↓ri_71_1, ↓ri_71_4, ↓ri_71_5, ↓ri_71_8, ↓ri_71_9, ↓ri_71_10, ↓ri_71_11, ↓ri_71_14, ↓ri_71_15, ↓ri_71_16, ↓ri_71_19, ↓ri_71_20, ↓ri_71_21, ↓ri_71_24, Option.some.injEq, Prod.mk.injEq, exists_eq_left', exists_eq', exists_and_left, exists_and_right, true_and, and_true, true_or, or_true, and_self, and_assoc, Option.toList_some, Option.toList_none, List.cons_append, List.nil_append, ↓reduceIte, rz_x01, rz_x10, r3, nI_1]
  refine kk _ ⟨?_, rz_PL_sm hP1 hs2 (by omega), f, by simp only [rz_fv_pf, rz_av_pf, rz_qv_pf, rz_ln_pf, rz_co_pf, rz_fv_pa, rz_av_pa, rz_qv_pa, rz_ln_pa, rz_co_pa, rz_fv_pq, rz_av_pq, rz_qv_pq, rz_ln_pq, rz_co_pq, Nat.reduceEqDiff, Nat.add_eq_left, Nat.left_eq_add, Nat.one_ne_zero, Option.map_some, exists_const, b0], hf2⟩ ((hs1.wd (by omega) (by omega)).tr (hs2.wd (by omega) (by omega)))
  simp only [rz_SRF, rz_fv_pf, rz_av_pf, rz_qv_pf, rz_ln_pf, rz_co_pf, rz_fv_pa, rz_av_pa, rz_qv_pa, rz_ln_pa, rz_co_pa, rz_fv_pq, rz_av_pq, rz_qv_pq, rz_ln_pq, rz_co_pq, Nat.reduceEqDiff, Nat.add_eq_left, Nat.left_eq_add, Nat.one_ne_zero, Option.map_some, exists_const, Option.some.injEq, Prod.mk.injEq, exists_eq_left', exists_eq', exists_and_left, exists_and_right, true_and, and_true, true_or, or_true, and_self, and_assoc, Option.toList_some, Option.toList_none, List.cons_append, List.nil_append, ↓reduceIte, rz_x01, rz_x10, r0, r1, r2, r3, r4]
set_option maxHeartbeats 4000000 in
set_option maxRecDepth 100000 in
theorem c_S_distanceOf {d w : Nat} {s : rz_SS} {x : Int32} {hp : rz_Hp} (h : rz_SR w s hp) {R : Option Value → rz_Hp → Prop} (hx : rz_town x) : rz_ev (d + 1) 68 0 [some (.ref w), some (.int x)] [] hp R ↔ R (some (.int (s.2.2.2.1 x.toNatClampNeg))) hp := by
  obtain ⟨L, fl, am, ds, dn, cm, gr⟩ := s
  obtain ⟨⟨p0, p1, p2, p3, p4⟩, hP, f, a0, hf2⟩ := id h
  have tx := fun R => (c_C_isTown (d := d) (hp := hp) (R := R)).1 hx
  obtain ⟨t, ht, rfl⟩ := rz_town_of hx
  have hv : vp_in (nI t) 12 := vp_in_nI ht (by decide)
  simp only [↓ri_68_0, ↓ri_68_1, ↓ri_68_4, ↓ri_68_7, ↓ri_68_8, ↓ri_68_11, ↓ri_68_12, ↓ri_68_13, ↓ri_68_16, ↓ri_68_18, Option.some.injEq, Prod.mk.injEq, exists_eq_left', exists_eq', exists_and_left, exists_and_right, true_and, and_true, true_or, or_true, and_self, and_assoc, Option.toList_some, Option.toList_none, List.cons_append, List.nil_append, ↓reduceIte, rz_x01, rz_x10, tx, p1, a0, hv, nI_clamp (show t < 2 ^ 31 by omega), hf2 t ht]
/-- the roads from a town, to the first n: entries come in -/
def rz_fo (rd : Nat → Int32) (f : Nat) (key : Int32) : Nat → rz_SS → rz_SS
  | 0, s => s
  | n + 1, s => if rd (f * 12 + n) = -5 ∨ ¬ (rz_fo rd f key n s).2.2.2.1 n = -5 then rz_fo rd f key n s else rz_sb n (key + rd (f * 12 + n)) (rz_fo rd f key n s)
theorem rz_fo_s (rd : Nat → Int32) (f : Nat) (key : Int32) (n : Nat) (s : rz_SS) : rz_fo rd f key (n + 1) s = if rd (f * 12 + n) = -5 ∨ ¬ (rz_fo rd f key n s).2.2.2.1 n = -5 then rz_fo rd f key n s else rz_sb n (key + rd (f * 12 + n)) (rz_fo rd f key n s) := rfl
theorem rz_fo_ds (rd : Nat → Int32) (f : Nat) (key : Int32) (n : Nat) (s : rz_SS) : (rz_fo rd f key n s).2.2.2.1 = s.2.2.2.1 ∧ (rz_fo rd f key n s).2.1 = s.2.1 ∧ (rz_fo rd f key n s).2.2.2.2.1 = s.2.2.2.2.1 ∧ (rz_fo rd f key n s).2.2.2.2.2.2 = s.2.2.2.2.2.2 := by
  induction n with
  | zero => exact ⟨rfl, rfl, rfl, rfl⟩
  | succ n ih =>
    rw [rz_fo_s]
    split
    · exact ih
    · exact ih
theorem rz_fo_len (rd : Nat → Int32) (f : Nat) (key : Int32) (n : Nat) (s : rz_SS) : (rz_fo rd f key n s).1.length ≤ s.1.length + rz_od rd f n ∧ (rz_fo rd f key n s).2.2.2.2.2.1 ≤ s.2.2.2.2.2.1 + rz_od rd f n ∧ (rz_fo rd f key n s).1.length + s.2.2.2.2.2.1 = (rz_fo rd f key n s).2.2.2.2.2.1 + s.1.length := by
  induction n with
  | zero => exact ⟨Nat.le_refl _, Nat.le_refl _, Nat.add_comm _ _⟩
  | succ n ih =>
    obtain ⟨h1, h2, h3⟩ := ih
    by_cases h : rd (f * 12 + n) = -5 ∨ ¬ (rz_fo rd f key n s).2.2.2.1 n = -5
    · have ho : rz_od rd f n ≤ rz_od rd f (n + 1) := rz_od_mono (Nat.le_succ n)
      rw [rz_fo_s, if_pos h]
      exact ⟨by omega, by omega, h3⟩
    · have ho : rz_od rd f (n + 1) = rz_od rd f n + 1 := by rw [rz_od_s, if_neg (fun q => h (Or.inl q))]
      rw [rz_fo_s, if_neg h]
      have e1 : (rz_sb n (key + rd (f * 12 + n)) (rz_fo rd f key n s)).1.length = (rz_fo rd f key n s).1.length + 1 := by unfold rz_sb; dsimp only; rw [List.length_append, List.length_singleton]
      have e2 : (rz_sb n (key + rd (f * 12 + n)) (rz_fo rd f key n s)).2.2.2.2.2.1 = (rz_fo rd f key n s).2.2.2.2.2.1 + 1 := rfl
      rw [e1, e2]
      exact ⟨by omega, by omega, by omega⟩
theorem rz_fo_kv {rd : Nat → Int32} {f a c0 : Nat} {key : Int32} {s : rz_SS} (hrd : rz_rdo rd) (hf : f < 12) (hk : key = nI a) (ha : a ≤ 999 * c0) (hv : rz_kv s.1 c0) (hc : c0 ≤ s.2.2.2.2.2.1) (n : Nat) (hn : n ≤ 12) : rz_kv (rz_fo rd f key n s).1 (c0 + 1) := by
  induction n with
  | zero => exact rz_kv_mono hv (Nat.le_succ _)
  | succ n ih =>
    rw [rz_fo_s]
    split
    · exact ih (by omega)
    · next h =>
      intro x hx
      unfold rz_sb at hx
      dsimp only at hx
      rcases List.mem_append.mp hx with hx | hx
      · exact ih (by omega) x hx
      · rw [List.mem_singleton] at hx
        subst hx
        refine ⟨?_, n, by omega, rfl⟩
        rcases hrd.1 (f * 12 + n) (by omega) with q | ⟨b, hb, q⟩
        · exact absurd (Or.inl q) h
        · exact ⟨a + b, by omega, by show key + rd (f * 12 + n) = _; rw [q, hk, nI_add]⟩
set_option maxHeartbeats 4000000 in
set_option maxRecDepth 100000 in
theorem c_S_followRoads {d w r f a c0 : Nat} {rd : Nat → Int32} {laid key : Int32} {s : rz_SS} {hp : rz_Hp} {R : Option Value → rz_Hp → Prop} (hrd : rz_rdo rd) (hwr : r + 2 ≤ w ∨ w + 8 ≤ r) (hf : f < 12) (hk : key = nI a) (ha : a ≤ 999 * c0) (hc0 : c0 ≤ 40) (hv : rz_kv s.1 c0) (hcm : c0 ≤ s.2.2.2.2.2.1) (hfl : ∃ c, c < 65536 ∧ s.2.1 = nI c) (hlen : s.1.length + rz_od rd f 12 ≤ 40) (h : rz_SR w s hp) (hR : rz_RD r rd laid hp)
    (kk : ∀ hp', rz_SR w (rz_fo rd f key 12 s) hp' → rz_sm w (w + 8) hp hp' → R none hp') : rz_ev (d + 3) 73 0 [some (.ref w), some (.int (nI f)), some (.int key), some (.ref r), none, none] [] hp R := by
  have hl : ∀ i, i ≤ 12 → ∀ hp1 l5, rz_SR w (rz_fo rd f key i s) hp1 → rz_sm w (w + 8) hp hp1 → rz_ev (d + 3) 73 3 [some (.ref w), some (.int (nI f)), some (.int key), some (.ref r), some (.int (nI i)), l5] [] hp1 R := by
    refine rz_down 12 ?_ ?_
    · intro hp1 l5 h1 hs1
      have c1 : (12 : Int32) ≤ nI 12 := by decide
      rw [ri_73_3]
      simp only [↓ri_73_4, ↓ri_73_4N, ↓ri_73_7, ↓ri_73_9, ↓ri_73_11, ↓ri_73_14, ↓ri_73_15, ↓ri_73_16, ↓ri_73_18, ↓ri_73_21, ↓ri_73_23, ↓ri_73_25, ↓ri_73_27, ↓ri_73_30, ↓ri_73_31, ↓ri_73_33, ↓ri_73_36, ↓ri_73_38, ↓ri_73_41, ↓ri_73_42, ↓ri_73_44, ↓ri_73_45, ↓ri_73_47, ↓ri_73_48, ↓ri_73_51, ↓ri_73_54, ↓ri_73_57, Option.some.injEq, Prod.mk.injEq, exists_eq_left', exists_eq', exists_and_left, exists_and_right, true_and, and_true, true_or, or_true, and_self, and_assoc, Option.toList_some, Option.toList_none, List.cons_append, List.nil_append, ↓reduceIte, rz_x01, rz_x10, ↓if_pos c1]
      exact kk _ h1 hs1
    · intro i hi ih hp1 l5 h1 hs1
      have c1 : ¬ (12 : Int32) ≤ nI i := nI_ge (b := 12) hi (by decide)
      have hR1 := rz_RD_sm hR hs1 (by omega)
      have tf := rz_town_nI hf
      have ti := rz_town_nI hi
      have hlo : rz_lor rd (nI f) (nI i) = rd (f * 12 + i) := by
        unfold rz_lor rz_ix
        rw [if_pos ⟨tf, ti⟩, nI_clamp (by omega), nI_clamp (by omega)]
      have hh := fun R => c_R_lengthOf (d := d + 1) (x := nI f) (y := nI i) hR1 (R := R)
      rw [hlo] at hh
      have hco : rz_co hp1 r = some 4 := rz_co_fv hR1.1
      have hcow : rz_co hp1 w = some 5 := by
        obtain ⟨L, fl, am, ds, dn, cm, gr⟩ := rz_fo rd f key i s
        exact rz_co_fv h1.1.1
      have hdist := fun R => c_S_distanceOf (d := d + 1) h1 ti (R := R)
      rw [nI_clamp (by omega)] at hdist
      rw [rz_fo_s] at ih
      rw [ri_73_3]
      by_cases g1 : rd (f * 12 + i) = -5
      · simp only [if_pos (Or.inl g1)] at ih
        simp only [↓ri_73_4, ↓ri_73_4N, ↓ri_73_7, ↓ri_73_9, ↓ri_73_11, ↓ri_73_14, ↓ri_73_15, ↓ri_73_16, ↓ri_73_18, ↓ri_73_21, ↓ri_73_23, ↓ri_73_25, ↓ri_73_27, ↓ri_73_30, ↓ri_73_31, ↓ri_73_33, ↓ri_73_36, ↓ri_73_38, ↓ri_73_41, ↓ri_73_42, ↓ri_73_44, ↓ri_73_45, ↓ri_73_47, ↓ri_73_48, ↓ri_73_51, ↓ri_73_54, Option.some.injEq, Prod.mk.injEq, exists_eq_left', exists_eq', exists_and_left, exists_and_right, true_and, and_true, true_or, or_true, and_self, and_assoc, Option.toList_some, Option.toList_none, List.cons_append, List.nil_append, ↓reduceIte, rz_x01, rz_x10, ↓if_neg c1, hco, hh, ↓if_pos g1, nI_1]
        exact ih hp1 _ h1 hs1
      · by_cases g2 : (rz_fo rd f key i s).2.2.2.1 i = -5
        · have g3 : ¬ (rd (f * 12 + i) = -5 ∨ ¬ (rz_fo rd f key i s).2.2.2.1 i = -5) := fun q => q.elim g1 (fun z => z g2)
          simp only [if_neg g3] at ih
          simp only [↓ri_73_4, ↓ri_73_4N, ↓ri_73_7, ↓ri_73_9, ↓ri_73_11, ↓ri_73_14, ↓ri_73_15, ↓ri_73_16, ↓ri_73_18, ↓ri_73_21, ↓ri_73_23, ↓ri_73_25, ↓ri_73_27, ↓ri_73_30, ↓ri_73_31, ↓ri_73_33, ↓ri_73_36, ↓ri_73_38, ↓ri_73_41, ↓ri_73_42, ↓ri_73_44, ↓ri_73_45, ↓ri_73_47, ↓ri_73_48, Option.some.injEq, Prod.mk.injEq, exists_eq_left', exists_eq', exists_and_left, exists_and_right, true_and, and_true, true_or, or_true, and_self, and_assoc, Option.toList_some, Option.toList_none, List.cons_append, List.nil_append, ↓reduceIte, rz_x01, rz_x10, ↓if_neg c1, hco, hh, ↓if_neg g1, hcow, hdist, ↓if_pos g2]
          obtain ⟨q1, q2, q3, q4⟩ := rz_fo_ds rd f key i s
          obtain ⟨n1, n2, n3⟩ := rz_fo_len rd f key i s
          have n4 : rz_od rd f i + 1 ≤ rz_od rd f 12 := by
            have := rz_od_mono (rd := rd) (f := f) (show i + 1 ≤ 12 by omega)
            rw [rz_od_s, if_neg g1] at this
            exact this
          obtain ⟨c, hc, hfl2⟩ := hfl
          rcases hrd.1 (f * 12 + i) (by omega) with q | ⟨b, hb, q⟩
          · exact absurd q g1
          · refine c_S_bringIn (d := d) (t := i) (a := a + b) (c := c) h1 (by omega) (by rw [hk, q, nI_add]) (by rw [q2]; exact hfl2) (by omega) hc (fun h2 hS2 hs2 => ?_)
            simp only [↓ri_73_51, ↓ri_73_54, Option.some.injEq, Prod.mk.injEq, exists_eq_left', exists_eq', exists_and_left, exists_and_right, true_and, and_true, true_or, or_true, and_self, and_assoc, Option.toList_some, Option.toList_none, List.cons_append, List.nil_append, ↓reduceIte, rz_x01, rz_x10, nI_1]
            exact ih h2 _ hS2 (hs1.tr hs2)
        · simp only [if_pos (Or.inr g2)] at ih
          simp only [↓ri_73_4, ↓ri_73_4N, ↓ri_73_7, ↓ri_73_9, ↓ri_73_11, ↓ri_73_14, ↓ri_73_15, ↓ri_73_16, ↓ri_73_18, ↓ri_73_21, ↓ri_73_23, ↓ri_73_25, ↓ri_73_27, ↓ri_73_30, ↓ri_73_31, ↓ri_73_33, ↓ri_73_36, ↓ri_73_38, ↓ri_73_41, ↓ri_73_42, ↓ri_73_44, ↓ri_73_45, ↓ri_73_47, ↓ri_73_48, ↓ri_73_51, ↓ri_73_54, Option.some.injEq, Prod.mk.injEq, exists_eq_left', exists_eq', exists_and_left, exists_and_right, true_and, and_true, true_or, or_true, and_self, and_assoc, Option.toList_some, Option.toList_none, List.cons_append, List.nil_append, ↓reduceIte, rz_x01, rz_x10, ↓if_neg c1, hco, hh, ↓if_neg g1, hcow, hdist, ↓if_neg g2, nI_1]
          exact ih hp1 _ h1 hs1
  have := hl 0 (Nat.zero_le _) hp none h rz_sm.rf
  rw [nI_0] at this
  simp only [↓ri_73_0, ↓ri_73_1]
  exact this
