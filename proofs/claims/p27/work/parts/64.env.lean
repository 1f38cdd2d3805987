/-! what the law's entry gives -/
theorem rz_env_of {s : State} {args : Array Value} (hts : ∀ w ∈ lw_tbl, w.before args s = true) (scr : Nat × Nat × (Nat → Int32)) : ∃ G : rz_G, G.2.2.2.2.2 = scr ∧ rz_env G s := by
  have hk : ∀ c, ∃ (cC : ClassId) (iS : Nat → Nat), c < 9 → u_Kn s (rz_R c) (rz_T c) (rz_N c) cC iS := by
    intro c
    by_cases hc : c < 9
    · obtain ⟨-, h2, -⟩ := rz_okC c hc
      have hl : ∀ w ∈ u_ws (rz_R c) (rz_T c) (rz_N c), w ∈ rz_tbl := rz_lay c hc
      obtain ⟨cC, iS, h⟩ := u_known (C := rz_R c) (T := rz_T c) (N := rz_N c) (n := rz_N c) (ws := rz_tbl) (fun w hw => hts w (List.mem_filter.mp hw).1) hl (hts _ (List.mem_of_getElem? h2))
      exact ⟨cC, iS, fun _ => h⟩
    · exact ⟨0, fun _ => 0, fun h => absurd h hc⟩
  have hk1 := fun c => (hk c).choose_spec
  have hi := rz_w8
  obtain ⟨cI, kI, compI, i1, i2, i3⟩ := Cond.arrayClass_spec (hts _ hi.1)
  obtain ⟨cC, kC, compC, c1, c2, c3⟩ := Cond.arrayClass_spec (hts _ hi.2.1)
  obtain ⟨cJ, kJ, compJ, q1, q2, q3⟩ := Cond.arrayClass_spec (hts _ rz_w9)
  have ho := hts (Cond.arrayOver (.object "RisingPiles$State")) hi.2.2
  obtain ⟨comp, cS, kS, s1, s2, s3, s4, s5⟩ := Cond.arrayOver_spec ho
  refine ⟨((fun c => (hk c).choose, fun c => (hk1 c).choose), cI, cC, cS, cJ, scr), rfl, ⟨fun c q hq => ?_, fun k q hq => ?_⟩, fun q hq h3 => ?_, va_AO.of ho⟩
  · have hc : c < 9 := (List.getElem?_eq_some_iff.mp hq).1
    have h3 := (rz_okC c hc).2.2
    rw [h3] at hq
    cases hq
    exact (hk1 c).choose_spec hc
  · unfold rz_tys at hq
    match k, hq with
    | 0, hq => cases hq; exact ⟨fun n z => ⟨fun k h => (by cases h), kI, i2, compI, i3⟩, i1⟩
    | 1, hq => cases hq; exact ⟨fun n z => ⟨fun k h => (by cases h), kC, c2, compC, c3⟩, c1⟩
    | 2, hq => cases hq; exact ⟨fun n z => ⟨fun k h => (by cases h), kS, s3, comp, s4⟩, kS, comp, s3, s4, s1, s5⟩
    | 3, hq => cases hq; exact ⟨fun n z => ⟨fun k h => (by cases h), kJ, q2, compJ, q3⟩, q1⟩
    | k + 4, hq => cases hq
  · have h := List.all_eq_true.mp rz_okL
    obtain ⟨i, hi⟩ := List.getElem?_of_mem hq
    have hil := (List.getElem?_eq_some_iff.mp hi).1
    have hlen : rz_ml.length = rz_mlx.length := by decide +kernel
    have hz : (rz_ml.zip rz_mlx)[i]? = some (q, rz_mlx[i]'(by omega)) := by
      rw [List.getElem?_zip_eq_some]
      exact ⟨hi, List.getElem?_eq_getElem (by omega)⟩
    have h4 := h _ (List.mem_of_getElem? hz)
    simp only [Bool.and_eq_true, decide_eq_true_eq] at h4
    exact va_Nw.of (by unfold rz_mw; rw [h3]; rfl) (hts _ (List.mem_of_getElem? h4.1.1.1))
theorem lw_ts {s : State} {args : Array Value} (h : ∀ w ∈ lw_tbl, w.before args s = true) : ∀ w ∈ rz_tbl, w.before args s = true := fun w hw => h w (List.mem_filter.mp hw).1
/-- what is new alone was written -/
theorem lw_new_only {s t : State} {L : List Loc} {k n k' n' : Nat} (h : s.sameButNew t L k n) (hL : ∀ q ∈ L, s.heap.size ≤ q.base) (hk : k ≤ k') (hn : n ≤ n') : s.sameButNew t [] k' n' := by
  obtain ⟨a1, a2, a3, a4, a5, a6⟩ := h
  refine ⟨a1, a2, by omega, a4, by omega, fun a c hc => ?_⟩
  obtain ⟨c', b1, b2, b3, b4⟩ := a6 a c hc
  refine ⟨c', b1, b2, b3, fun i _ => b4 i (fun q => ?_)⟩
  have h1 := hL _ q
  have h2 := (Array.getElem?_eq_some_iff.mp hc).1
  have h1 : s.heap.size ≤ a := h1
  omega
