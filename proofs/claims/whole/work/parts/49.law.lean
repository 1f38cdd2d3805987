/-! the law's calls -/
/-- what stands fixed in the law's frame -/
def lw_fx (p : Program) (s : State) (m : MethodId) (b : Nat) (meth : Method) (c : Code) : Prop := p.tables.exec = Jvm.exec ∧ c.code = code ∧ c.maxLocals = 4 ∧ s.vm.findClass "RisingPilesLaw" = some m.cls ∧ (∀ w ∈ lw_tbl, w.before #[Value.ref b] s = true) ∧ meth.locks = false ∧ meth.sig.returnType = ret
theorem lw_ts {s : State} {args : Array Value} (h : ∀ w ∈ lw_tbl, w.before args s = true) : ∀ w ∈ rz_tbl, w.before args s = true := fun w hw => h w (List.mem_filter.mp hw).1
section LWC
variable {p : Program} {l : Launch} {e : Env} {s : State} {m : MethodId} {b : Nat} {below : List Frame} {meth : Method} {c : Code} {H : Heap} {locs : List Loc} {cells slots : Nat} {Q : State → Prop} {G : rz_G} {b0 : Nat} {hp hp1 : rz_Hp} {ls : Array Slot} {lv : List (Nat × Value)}
/-- a call of a method from the law -/
theorem lw_vcall {k index pc o mc ms : Nat} {as rest : List Value} {r : Option Value} (F : lw_fx p s m b meth c) (hk : k < 183) (hkd : rz_kd k = 0) (h : rz_ev 9 k 0 (rz_en k (.ref o :: as)) [] hp (fun r' h' => r' = r ∧ h' = hp1)) (hco : rz_co hp o = some (rz_K k)) (has : ∀ v ∈ as, rz_one v = true) (hn : as.length = rz_np k) (hw : Cond.methodLink "RisingPilesLaw" index (rz_Y k) ∈ lw_tbl) (hE : rz_env G s) (hP : rz_wd G b0 hp H) (hS : va_S (rz_A b0) s.heap H locs) (hb0 : b0 ≤ s.heap.size) (hsz : s.heap.size + cells = b0 + hp.2.1) (h1 : hp1.2.1 = mc + hp.2.1) (h2 : hp1.2.2 = ms + hp.2.2) (hls : ls.size = 4) (hdec : decode code pc = .ok (.invokevirtual index, 3)) (hc1 : cells + mc ≤ room_1.cells) (hc2 : slots + ms ≤ room_1.slots) (hrest : (rest.map fun v => v.category).sum ≤ 8)
    (kk : ∀ (H1 : Heap) (locs1 : List Loc), rz_wd G b0 hp1 H1 → va_S (rz_A b0) s.heap H1 locs1 → W p l e room_1 s m #[Value.ref b] below meth c H1 locs1 (cells + mc) (slots + ms) Q (F0 m (pc + 3) ls ((r.map (rz_mv b0)).toList ++ rest))) : W p l e room_1 s m #[Value.ref b] below meth c H locs cells slots Q (F0 m pc ls ((as.map (rz_mv b0)).reverse ++ .ref (b0 + o) :: rest)) := by
  obtain ⟨hx, hb, hml, hown, htl, -, -⟩ := F
  have hts := lw_ts htl
  obtain ⟨n, h⟩ := h
  have hy := rz_okY k hk
  obtain ⟨hlb, fsb, heb⟩ := rz_co_of hco
  have hgb := rz_ws_get G b0 hlb
  rw [heb] at hgb
  have hargs : ∀ v ∈ (Value.ref o :: as), rz_one v = true := fun v hv => by
    rcases List.mem_cons.mp hv with q | q
    · rw [q]; rfl
    · exact has v q
  have hlenA : (Value.ref o :: as).length ≤ rz_ML k := by
    have := hy.2.2.2.2.2.1
    rw [hkd] at this
    simp at this ⊢
    omega
  have hM := rz_met (rz_all n) h hk hargs hlenA l G b0 mc ms h1 h2
  have hcb : CallW room_1 s #[Value.ref b] "RisingPilesLaw" (rz_R (rz_K k)) index (rz_Y k) (rz_B k) (rz_ML k) (rz_RT k) (rz_wk k) (rz_rm 9 mc ms) mc ms (rz_np k) := by
    have hM2 := rz_okM k hk
    refine ⟨rz_cb hts hk (htl _ hw) (by decide) (by decide), hts _ (rz_mem (hM2.2.1 (by omega)) rfl), ?_⟩
    have := hts _ (rz_mem (hM2.2.2 hkd) rfl)
    rw [hy.1] at this
    exact this
  refine rz_sized (fun hsz2 => ?_)
  refine rz_back (mc := mc) (ms := ms) (r := r) (hp' := hp1) (rest := rest) (va_runV (As := as.map (rz_mv b0)) ⟨hx, hb, hml, hown, hts⟩ hM hcb ⟨rz_pc_blind, va_recv hE.1 hP (rz_inid hy.2.1).2.2 hgb, fun U hU hW => ⟨rfl, by rw [hU]; exact rz_size hP hS hb0 (by omega), by rw [hU]; exact hP, rz_env.warm hW hE⟩⟩ rfl (by simp; omega) hls rfl (lv_room hrest) hdec ⟨hc1, hc2⟩) hS kk
/-- a constructor's call from the law -/
theorem lw_icall {k index pc o mc ms : Nat} {rest : List Value} {r : Option Value} (F : lw_fx p s m b meth c) (hk : k < 183) (hkd : rz_kd k = 2) (h : rz_ev 9 k 0 (rz_en k [.ref o]) [] hp (fun r' h' => r' = r ∧ h' = hp1)) (hn : 0 = rz_np k) (hw : Cond.methodLink "RisingPilesLaw" index (rz_Y k) ∈ lw_tbl) (hE : rz_env G s) (hP : rz_wd G b0 hp H) (hS : va_S (rz_A b0) s.heap H locs) (hb0 : b0 ≤ s.heap.size) (hsz : s.heap.size + cells = b0 + hp.2.1) (h1 : hp1.2.1 = mc + hp.2.1) (h2 : hp1.2.2 = ms + hp.2.2) (hls : ls.size = 4) (hdec : decode code pc = .ok (.invokespecial index, 3)) (hc1 : cells + mc ≤ room_1.cells) (hc2 : slots + ms ≤ room_1.slots) (hrest : (rest.map fun v => v.category).sum ≤ 8)
    (kk : ∀ (H1 : Heap) (locs1 : List Loc), rz_wd G b0 hp1 H1 → va_S (rz_A b0) s.heap H1 locs1 → W p l e room_1 s m #[Value.ref b] below meth c H1 locs1 (cells + mc) (slots + ms) Q (F0 m (pc + 3) ls ((r.map (rz_mv b0)).toList ++ rest))) : W p l e room_1 s m #[Value.ref b] below meth c H locs cells slots Q (F0 m pc ls (.ref (b0 + o) :: rest)) := by
  obtain ⟨hx, hb, hml, hown, htl, -, -⟩ := F
  have hts := lw_ts htl
  obtain ⟨n, h⟩ := h
  have hy := rz_okY k hk
  have hargs : ∀ v ∈ [Value.ref o], rz_one v = true := fun v hv => by
    rw [List.mem_singleton] at hv; rw [hv]; rfl
  have hlenA : [Value.ref o].length ≤ rz_ML k := by
    have := hy.2.2.2.2.2.1
    rw [hkd] at this
    simp at this ⊢
    omega
  have hM := rz_met (rz_all n) h hk hargs hlenA l G b0 mc ms h1 h2
  have hini := hy.2.2.2.2.2.2.1 hkd
  have hcb : CallB room_1 s #[Value.ref b] "RisingPilesLaw" index (rz_Y k) (rz_B k) (rz_ML k) none (rz_wk k) (rz_rm 9 mc ms) mc ms (rz_np k) ∧ (rz_Y k).name = "<init>" ∧ (Cond.instanceMethod (rz_Y k)).before #[Value.ref b] s = true := by
    have hM2 := rz_okM k hk
    have q1 := rz_cb (R := room_1) (d := 9) (mc := mc) (ms := ms) hts hk (htl _ hw) (by decide) (by decide)
    rw [hini.2] at q1
    exact ⟨q1, hini.1, hts _ (rz_mem (hM2.2.1 (by omega)) rfl)⟩
  refine rz_sized (fun hsz2 => ?_)
  refine rz_back (mc := mc) (ms := ms) (r := r) (hp' := hp1) (rest := rest) (va_runI (As := []) ⟨hx, hb, hml, hown, hts⟩ hM hcb ⟨rz_pc_blind, fun U hU hW => ⟨rfl, by rw [hU]; exact rz_size hP hS hb0 (by omega), by rw [hU]; exact hP, rz_env.warm hW hE⟩⟩ rfl hn hls rfl (lv_room hrest) hdec ⟨hc1, hc2⟩) hS kk
/-- an object of a class is made by the law -/
theorem lw_new {ci index pc : Nat} {rest : List Value} (F : lw_fx p s m b meth c) (hci : ci < 10) (hw : Cond.classLink "RisingPilesLaw" index (rz_R ci) ∈ lw_tbl) (hE : rz_env G s) (hP : rz_wd G b0 hp H) (hS : va_S (rz_A b0) s.heap H locs) (hb0 : b0 = s.heap.size) (hsz : s.heap.size + cells = b0 + hp.2.1) (hdec : decode code pc = .ok (.new index, 3)) (hc1 : cells + 1 ≤ room_1.cells) (hc2 : slots + rz_N ci ≤ room_1.slots)
    (kk : ∀ (H1 : Heap), rz_wd G b0 (rz_push hp (.inr (.inr (ci, rz_dv ci))) (rz_N ci)) H1 → va_S (rz_A b0) s.heap H1 locs → W p l e room_1 s m #[Value.ref b] below meth c H1 locs (cells + 1) (slots + rz_N ci) Q (F0 m (pc + 3) ls (.ref (b0 + hp.2.1) :: rest))) : W p l e room_1 s m #[Value.ref b] below meth c H locs cells slots Q (F0 m pc ls rest) := by
  obtain ⟨hx, hb, hml, hown, htl, -, -⟩ := F
  have hts := lw_ts htl
  obtain ⟨i1, i2, i3⟩ := rz_inid hci
  have hD : va_D (rz_A b0) (rz_ws G b0 hp) := rz_ws_D G b0 hp
  refine va_new (ci := ci) (fs := (rz_dv ci).map (rz_mv b0)) hx hb hts (rz_lay ci hci) (rz_ty ci) (rz_tok ci hci) hown (htl _ hw) (hts _ i2) (hts _ i1) hE.1 hP hD hS (fun q hq => by show b0 ≤ q; omega) i3 (fun j hj => ?_) (by omega) (by omega) hdec (fun q H1 gP gD gS => ?_)
  · unfold vp_V rz_dv
    rw [List.getD_eq_getElem?_getD, List.map_map, List.getElem?_map, List.getElem?_range hj]
    show defaultValue (rz_ty ci j) = rz_mv b0 (defaultValue (rz_ty ci j))
    cases rz_ty ci j <;> rfl
  · refine rz_sized (fun hsz2 => ?_)
    have hq : q = b0 + hp.2.1 := rz_fresh gP gD (by omega)
    subst hq
    have e8 := rz_ws_push G b0 hp (.inr (.inr (ci, rz_dv ci))) (rz_N ci)
    exact kk H1 (by unfold rz_wd; rw [← e8]; exact gP) gS
end LWC
