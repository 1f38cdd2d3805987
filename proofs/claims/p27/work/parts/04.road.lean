/-! The road from places to the machine: what rz_go brings to an end, the machine brings to that end. -/
def rz_Q (G : rz_G) (b0 : Nat) (r : Option Value) (hp' : rz_Hp) : Array Value → State → Outcome → State → Prop := fun _ st oc t => (oc = .returned (r.map (rz_mv G b0)) ∧ rz_wd G b0 hp' t.heap) ∧ va_F (rz_A b0) st t
def rz_wk (k : Nat) : List Cond := Cond.code (rz_Y k) (rz_B k) (rz_ML k) (rz_RT k) :: rz_tbl
def rz_rm (d mc ms : Nat) : Room := { frames := d, cells := mc, slots := ms, locals := 30 * d }
def rz_fx (p : Program) (s : State) (m : MethodId) (args : Array Value) (meth : Method) (c : Code) (k : Nat) : Prop := p.tables.exec = Jvm.exec ∧ c.code = rz_B k ∧ c.maxLocals = rz_ML k ∧ s.vm.findClass (rz_R (rz_K k)) = some m.cls ∧ (∀ w ∈ rz_tbl, w.before args s = true) ∧ meth.locks = false ∧ meth.sig.returnType = rz_RT k ∧ ((rz_Y k).name = "<init>" → meth.name = (rz_Y k).name)
def rz_pc (G : rz_G) (b0 : Nat) (hp : rz_Hp) : State → Prop := fun U => U.heap.size = b0 + hp.2.1 ∧ rz_wd G b0 hp U.heap ∧ rz_env G U ∧ rz_xs G b0 U
theorem rz_xs.warm {G : rz_G} {b0 : Nat} {s U : State} {H : Heap} {locs : List Loc} (hW : s.WarmedH U.vm) (hU : U.heap = H) (hS : va_S (rz_A b0) s.heap H locs) (h : rz_xs G b0 s) : rz_xs G b0 U := by
  obtain ⟨⟨scr, h1, h2⟩, h3⟩ := h
  refine ⟨va_X.moved hW.alike ?_, h3⟩
  have hlt : G.2.2.2.2.2.1 < s.heap.size := (Array.getElem?_eq_some_iff.mp h1).1
  exact va_X.kept ⟨scr, h1, h2⟩ (by rw [hU]; exact hS.2.1 _ hlt (by show ¬ b0 ≤ _; omega))
theorem rz_xs.blind {G : rz_G} {b0 : Nat} {U : State} (h : rz_xs G b0 U) (g : JFrame) (mk : MethodId) (a : Array Value) : rz_xs G b0 (U.calling g mk a) :=
  ⟨va_X.moved (u := U) (U := U.calling g mk a) (Vm.Alike.refl U.vm) h.1, h.2⟩
theorem rz_pc_blind {G : rz_G} {b0 : Nat} {hp : rz_Hp} {av : List Value} : FrameBlind (va_Pc av (rz_pc G b0 hp)) := fun a U g mk q => by
  obtain ⟨q0, q1, q2, q3, q4⟩ := q
  exact ⟨q0, q1, q2, rz_env.blind q3 g mk a, rz_xs.blind q4 g mk a⟩
section RZW
variable {p : Program} {l : Launch} {e : Env} {R : Room} {s : State} {m : MethodId} {args : Array Value} {below : List Frame} {meth : Method} {c : Code} {H : Heap} {locs : List Loc} {cells slots : Nat} {Q : State → Prop}
theorem rz_sized {g : JFrame} (kk : H.size ≤ s.heap.size + cells → W p l e R s m args below meth c H locs cells slots Q g) : W p l e R s m args below meth c H locs cells slots Q g := fun T hT X => kk (hT ▸ X.heapSize) T hT X
/-- behind a call -/
theorem rz_back {G : rz_G} {b0 pc mc ms : Nat} {ls : Array Slot} {rest st0 : List Value} {a : Array Value} {r : Option Value} {hp' : rz_Hp} (hr : va_Run p l e R s m args below meth c H locs cells slots mc ms (F0 m pc ls st0) rest (rz_Q G b0 r hp' a) (rz_A b0)) (hS : va_S (rz_A b0) s.heap H locs)
    (kk : ∀ (H1 : Heap) (locs1 : List Loc), rz_wd G b0 hp' H1 → va_S (rz_A b0) s.heap H1 locs1 → W p l e R s m args below meth c H1 locs1 (cells + mc) (slots + ms) Q (F0 m (pc + 3) ls ((r.map (rz_mv G b0)).toList ++ rest))) : W p l e R s m args below meth c H locs cells slots Q (F0 m pc ls st0) := by
  intro T hT X
  obtain ⟨v, st₀, t, T', L, h0, X', hL, e1, e2, ⟨⟨hv, hp⟩, hz, hk⟩, st⟩ := hr T hT X
  cases hv
  rw [h0] at hz hk
  obtain ⟨t2, a1, b1⟩ := kk T'.heap (locs ++ L) (by rw [e1]; exact hp) ⟨Nat.le_trans hS.1 (by rw [e1]; exact hz), fun q h1 h2 => by rw [e1, hk q (Nat.lt_of_lt_of_le h1 hS.1) h2]; exact hS.2.1 q h1 h2, fun q hq => by
      rcases List.mem_append.mp hq with h | h
      · exact hS.2.2 q h
      · exact hL q h⟩ T' rfl X'
  exact ⟨t2, st t2 a1, b1⟩
end RZW
/-- what is claimed of n steps -/
def rz_ok (n : Nat) : Prop := ∀ (d k pc : Nat) (lv : List (Option Value)) (st : List Value) (hp : rz_Hp) (r : Option Value) (hp' : rz_Hp), rz_go n d k pc lv st hp (fun r1 h1 => r1 = r ∧ h1 = hp') → k < 128 →
  ∀ {p : Program} {l : Launch} {e : Env} {R : Room} {s : State} {m : MethodId} {args : Array Value} {below : List Frame} {meth : Method} {c : Code} {H : Heap} {locs : List Loc} {cells slots : Nat} {ls : Array Slot} {G : rz_G} {b0 mc ms : Nat},
    rz_fx p s m args meth c k → rz_env G s → rz_xs G b0 s → rz_wd G b0 hp H → va_S (rz_A b0) s.heap H locs → b0 ≤ s.heap.size → s.heap.size + cells = b0 + hp.2.1 → cells + hp'.2.1 = mc + hp.2.1 → slots + hp'.2.2 = ms + hp.2.2 → hp'.2.1 ≤ rz_SP → mc ≤ R.cells → ms ≤ R.slots → d ≤ R.frames → 30 * d ≤ R.locals → rz_lo G b0 ls k lv →
    W p l e R s m args below meth c H locs cells slots (MQ below (rz_Q G b0 r hp') args s mc ms (rz_A b0)) (F0 m pc ls (st.map (rz_mv G b0)))
set_option maxHeartbeats 4000000 in
/-- the contract of a method, out of n steps -/
theorem rz_met {n : Nat} (ok : rz_ok n) {d k : Nat} {as : List Value} {hp : rz_Hp} {r : Option Value} {hp' : rz_Hp} (h : rz_go n d k 0 (rz_en k as) [] hp (fun r1 h1 => r1 = r ∧ h1 = hp')) (hk : k < 127) (ha : ∀ v ∈ as, rz_val v = true) (hl : rz_cs as ≤ rz_ML k) (hn : rz_K k = 9 ∨ as.all rz_one = true) (l : Launch) (G : rz_G) (b0 mc ms : Nat) (h1 : hp'.2.1 = mc + hp.2.1) (h2 : hp'.2.2 = ms + hp.2.2) (h3 : hp'.2.1 ≤ rz_SP) : Met l (rz_Y k) (rz_wk k) (rz_rm d mc ms) (va_Pc (as.map (rz_mv G b0)) (rz_pc G b0 hp)) (rz_Q G b0 r hp') mc ms (rz_A b0) := by
  have hy := rz_okY k (Nat.lt_succ_of_lt hk)
  refine Met.ofW (cc := rz_B k) (maxL := rz_ML k) (ret := rz_RT k) hy.2.2.2.2.2.2.2 rfl ?_
  intro p e s m args below meth c s₁ B hml hv
  obtain ⟨rfl, hsz, hP, hE, hXs⟩ := hv
  have hts0 := atoms_spec (ws := rz_wk k) B.pre
  have hown : s.vm.findClass (rz_R (rz_K k)) = some m.cls := by rw [← hy.1]; exact findClass_of_methodNamed B.named
  rw [lg_entry_eq]
  exact ok d k 0 (rz_en k as) [] hp r hp' h (Nat.lt_succ_of_lt hk) ⟨B.exec, B.bytes, hml, hown, fun w hw => hts0 w (List.mem_cons_of_mem _ hw), B.notSynchronized, B.returns, fun _ => (name_of_methodNamed B.named B.method).1⟩ hE hXs hP va_S.rf (by omega) hsz (by omega) (by omega) h3 (Nat.le_refl _) (Nat.le_refl _) (Nat.le_refl _) (Nat.le_refl _) (rz_lo_entry ha hl hn)
theorem rz_goods {k : Nat} (hk : k < 127) : GoodIn rz_tbl (rz_wk k) := rz_goodIn (fun w hw => by
  rcases List.mem_cons.mp hw with h | h
  · rw [h]; exact rz_code hk
  · exact h)
section RZC
variable {s : State} {args : Array Value} {R : Room}
/-- what a call asks of the tables -/
theorem rz_cb (hts : ∀ w ∈ rz_tbl, w.before args s = true) {k d mc ms : Nat} (hk : k < 127) {own : String} {index : Nat} (hl : (Cond.methodLink own index (rz_Y k)).before args s = true) (hf : d + 1 ≤ R.frames) (hlo : 30 * (d + 1) ≤ R.locals) : CallB R s args own index (rz_Y k) (rz_B k) (rz_ML k) (rz_RT k) (rz_wk k) (rz_rm d mc ms) mc ms (rz_np k) := by
  have hy := rz_okY k (Nat.lt_succ_of_lt hk)
  have hG := rz_goods hk
  have hc : Cond.code (rz_Y k) (rz_B k) (rz_ML k) (rz_RT k) ∈ rz_wk k := List.mem_cons_self
  refine ⟨rfl, rfl, hf, ?_, pay_in hts hG, hc, hts _ (hG _ hc).1, ?_, hy.2.2.1, fun sig h => ?_, hl⟩
  · show 8 + (rz_ML k + 11) + 30 * d ≤ R.locals
    have := hy.2.2.2.2.1
    omega
  · rw [hy.1]; exact hts _ (rz_ini hy.2.1)
  · have h2 := hy.2.2.2.1
    rw [h] at h2
    exact (Option.some.inj h2).symm
theorem rz_cbN (hts : ∀ w ∈ rz_tbl, w.before args s = true) {k d mc ms : Nat} (hk : k < 127) {own host : String} {index : Nat} (hl : va_Nw (.methodLinkNest own index (rz_Y k) host) s) (hf : d + 1 ≤ R.frames) (hlo : 30 * (d + 1) ≤ R.locals) : va_CN R s args own index (rz_Y k) host (rz_B k) (rz_ML k) (rz_RT k) (rz_wk k) (rz_rm d mc ms) mc ms (rz_np k) := by
  have hy := rz_okY k (Nat.lt_succ_of_lt hk)
  refine va_cnB (rz_np k) hts (rz_goods hk) rfl rfl rfl hl ?_ ⟨hy.2.2.1.1, hy.2.2.1.2, hy.2.2.2.1⟩ ⟨hf, ?_⟩
  · rw [hy.1]; exact hts _ (rz_ini hy.2.1)
  · show 8 + (rz_ML k + 11) + 30 * d ≤ R.locals
    have := hy.2.2.2.2.1
    omega
end RZC
theorem rz_kd3 : ∀ k, k < 127 → ¬ rz_kd k = 3 := by decide +kernel
theorem rz_onces {st : List Value} (h : st.all rz_val = true) : ∀ v ∈ st, rz_val v = true := fun v hv => List.all_eq_true.mp h v hv
theorem rz_split {G : rz_G} {b0 n : Nat} {st : List Value} : st.map (rz_mv G b0) = (((st.take n).reverse.map (rz_mv G b0))).reverse ++ (st.drop n).map (rz_mv G b0) := by
  rw [← List.map_reverse, List.reverse_reverse, ← List.map_append, List.take_append_drop]
theorem rz_fits {G : rz_G} {ty : FieldType} {v : Value} {b0 : Nat} (h : rz_fit ty v) : narrow ty (rz_mv G b0 v) = rz_mv G b0 v ∧ fits ty (rz_mv G b0 v) = true := by
  unfold rz_fit at h
  split at h
  · exact ⟨rfl, rfl⟩
  · rcases h with rfl | rfl <;> exact ⟨rfl, rfl⟩
  · exact ⟨rfl, rfl⟩
  · exact ⟨rfl, rfl⟩
  · exact ⟨rfl, rfl⟩
  · exact ⟨rfl, rfl⟩
  · exact h.elim
theorem rz_pf_cv {G : rz_G} {b0 : Nat} {hp : rz_Hp} {a ci j : Nat} {fs : List Value} {v : Value} (h : a < hp.2.1) (he : hp.1 a = .inr (.inr (ci, fs))) (hc : ci < 9) : (rz_ws G b0 hp).set a (b0 + a, .inr (ci, (fs.map (rz_mv G b0)).set j (rz_mv G b0 v))) = rz_ws G b0 (rz_pf hp a j v) := by
  unfold rz_pf
  rw [he]
  rw [← rz_ws_set G b0 h]
  rw [rz_cv_obj hc, ← List.map_set]
theorem rz_pl_cv {G : rz_G} {b0 : Nat} {hp : rz_Hp} {a i : Nat} {fs : List Value} {x : Int64} (h : a < hp.2.1) (he : hp.1 a = .inr (.inr (10, fs))) (hi : i < fs.length) : (rz_ws G b0 hp).set a (b0 + a, .inl (G.2.2.2.2.1, fs.length, .inr (.inl (vp_updL (rz_lf fs) i x)))) = rz_ws G b0 (rz_pf hp a i (.long x)) := by
  unfold rz_pf
  rw [he]
  rw [← rz_ws_set G b0 h]
  rw [rz_cv_long]
  have e : vp_updL (rz_lf fs) i x = rz_lf (fs.set i (.long x)) := by
    funext j
    unfold vp_updL rz_lf
    by_cases hj : j = i
    · subst hj
      rw [if_pos rfl, List.getElem?_set_self hi]
    · rw [if_neg hj, List.getElem?_set_ne (fun e => hj e.symm)]
  rw [e, List.length_set]
theorem rz_pa_cv {G : rz_G} {b0 : Nat} {hp : rz_Hp} {a t n : Nat} {f g : Nat → Int32} (h : a < hp.2.1) (he : hp.1 a = .inl (t, n, f)) : (rz_ws G b0 hp).set a (b0 + a, .inl (if t = 0 then G.2.1 else G.2.2.1, n, .inl g)) = rz_ws G b0 (rz_pa hp a g) := by
  unfold rz_pa
  rw [he]
  rw [← rz_ws_set G b0 h]
  rfl
theorem rz_pq_cv {G : rz_G} {b0 : Nat} {hp : rz_Hp} {a n i v : Nat} {f : Nat → Option Nat} (h : a < hp.2.1) (he : hp.1 a = .inr (.inl (n, f))) : (rz_ws G b0 hp).set a (b0 + a, .inl (G.2.2.2.1, n, .inr (.inr (.inr (.inr (va_up (fun j => (f j).map (fun a => b0 + a)) i (some (b0 + v)))))))) = rz_ws G b0 (rz_pq hp a (va_up f i (some v))) := by
  have e : va_up (fun j => (f j).map (fun a => b0 + a)) i (some (b0 + v)) = fun j => ((va_up f i (some v)) j).map (fun a => b0 + a) := by
    funext j
    unfold va_up
    split <;> rfl
  rw [e]
  unfold rz_pq
  rw [he]
  rw [← rz_ws_set G b0 h]
  rfl
theorem rz_size {G : rz_G} {b0 : Nat} {hp : rz_Hp} {H H0 : Heap} {locs : List Loc} (hP : rz_wd G b0 hp H) (hS : va_S (rz_A b0) H0 H locs) (hb0 : b0 ≤ H0.size) (hsz : H.size ≤ b0 + hp.2.1) : H.size = b0 + hp.2.1 := by
  have h1 : b0 + hp.2.1 ≤ H.size := by
    by_cases h0 : hp.2.1 = 0
    · rw [h0]; exact Nat.le_trans hb0 hS.1
    · have hlt : hp.2.1 - 1 < hp.2.1 := by omega
      have := (hP.1 _ _ (rz_ws_get G b0 hlt)).lt
      dsimp only at this
      omega
  omega
theorem rz_fresh {G : rz_G} {b0 q : Nat} {hp : rz_Hp} {H1 : Heap} {e : va_E} (gP : va_P G.1 rz_cls (rz_ws G b0 hp ++ [(q, e)]) H1) (gD : va_D (rz_A b0) (rz_ws G b0 hp ++ [(q, e)])) (hsz : H1.size ≤ b0 + hp.2.1 + 1) : q = b0 + hp.2.1 := by
  have hlen : (rz_ws G b0 hp).length = hp.2.1 := by unfold rz_ws; simp
  have hn : (rz_ws G b0 hp ++ [(q, e)])[hp.2.1]? = some (q, e) := by
    rw [List.getElem?_append_right (by omega), hlen, Nat.sub_self]; rfl
  have h1 : b0 ≤ q := gD.2 _ _ hn
  have h2 : q < H1.size := (gP _ _ hn).lt
  by_cases h3 : q < b0 + hp.2.1
  · have hk : q - b0 < hp.2.1 := by omega
    have hk2 : (rz_ws G b0 hp ++ [(q, e)])[q - b0]? = some (b0 + (q - b0), rz_cv G b0 (hp.1 (q - b0))) := by
      rw [List.getElem?_append_left (by omega)]; exact rz_ws_get G b0 hk
    have := gD.1 _ _ _ _ hk2 hn (by dsimp only; omega)
    omega
  · omega
theorem rz_nof : ∀ c, c < 9 → ∀ j, j < rz_N c → (match rz_ty c j with | .float => false | _ => true) = true := by decide +kernel
theorem rz_same_obj {G : rz_G} {cA : ClassId} {s : State} (gK : va_K G.1 rz_cls (rz_tys G ++ [(cA, .object "RisingPiles$State")]) s) : cA = G.2.2.2.1 := by
  obtain ⟨k1, c1, -, -, -, e1⟩ := (gK.2 4 (cA, .object "RisingPiles$State") rfl).2
  obtain ⟨k2, c2, -, -, -, e2⟩ := (gK.2 2 (G.2.2.2.1, .object "RisingPiles$State") rfl).2
  exact Option.some.inj (e1.symm.trans e2)
set_option maxHeartbeats 40000000 in
set_option maxRecDepth 100000 in
theorem rz_all : ∀ n, rz_ok n := by
  intro n
  induction n with
  | zero => intro d k pc lv st hp r hp' h; exact h.elim
  | succ n ih =>
    intro d k pc lv st hp r hp' h hk p l e R s m args below meth c H locs cells slots ls G b0 mc ms fx hE hXs hW hS hb0 hN h1 h2 hM hmc hms hd hlo hl
    obtain ⟨hP, hC⟩ := id hW
    have hD : va_D (rz_A b0) (rz_ws G b0 hp) := rz_ws_D G b0 hp
    have hA : ∀ q : Nat, s.heap.size ≤ q → rz_A b0 q := fun q h => Nat.le_trans hb0 h
    have hmono : hp.2.1 ≤ hp'.2.1 ∧ hp.2.2 ≤ hp'.2.2 := by
      obtain ⟨r9, h9, ⟨-, e9⟩, g1, g2, -⟩ := rz_go_one _ _ _ _ _ _ _ _ h
      rw [← e9]; exact ⟨g1, g2⟩
    unfold rz_go at h
    have hh : ∃ i len, decode (rz_B k) pc = .ok (i, len) ∧ rz_stp k (0 < d) len pc lv st hp (fun pc' lv' st' hp2 => rz_go n d k pc' lv' st' hp2 (fun r1 h1 => r1 = r ∧ h1 = hp')) (fun k2 as h post => 0 < d ∧ k2 < 127 ∧ rz_go n (d - 1) k2 0 (rz_en k2 as) [] h post) (fun r1 h1 => r1 = r ∧ h1 = hp') i := by
      split at h
      · next i len e9 => exact ⟨i, len, e9, h⟩
      · exact h.elim
    clear h
    obtain ⟨i, len, hdec, h⟩ := hh
    have nx : ∀ {pc' : Nat} {lv' : List (Option Value)} {st' : List Value} {hp2 : rz_Hp} {H2 : Heap} {locs2 : List Loc} {cells2 slots2 : Nat} {ls2 : Array Slot}, rz_go n d k pc' lv' st' hp2 (fun r1 h1 => r1 = r ∧ h1 = hp') → rz_wd G b0 hp2 H2 → va_S (rz_A b0) s.heap H2 locs2 → s.heap.size + cells2 = b0 + hp2.2.1 → cells2 + hp'.2.1 = mc + hp2.2.1 → slots2 + hp'.2.2 = ms + hp2.2.2 → rz_lo G b0 ls2 k lv' → W p l e R s m args below meth c H2 locs2 cells2 slots2 (MQ below (rz_Q G b0 r hp') args s mc ms (rz_A b0)) (F0 m pc' ls2 (st'.map (rz_mv G b0))) :=
      fun g1 g2 g3 g4 g5 g6 g7 => ih d k _ _ _ _ r hp' g1 hk fx hE hXs g2 g3 hb0 g4 g5 g6 hM hmc hms hd hlo g7
    obtain ⟨hx, hb, hml, hown, hts, hlocks, hret, hname⟩ := id fx
    have hK := hE.1
    have hKk := (rz_okY k hk).2.1
    cases i with
    | aload_n j =>
      obtain ⟨rfl, h⟩ := h
      obtain ⟨v, hv, hi, h, -⟩ := rz_lda_w h
      have hg := rz_ls_get hl.1 hi
      rcases hv with rfl | ⟨a, rfl⟩ | ⟨a, rfl⟩
      · exact lv_aload_nN hx hb hdec rfl hg (nx h hW hS hN h1 h2 hl)
      · exact lv_aload_n hx hb hdec rfl hg (nx h hW hS hN h1 h2 hl)
      · exact lv_aload_n hx hb hdec rfl hg (nx h hW hS hN h1 h2 hl)
    | aload j =>
      obtain ⟨rfl, h⟩ := h
      obtain ⟨v, hv, hi, h, -⟩ := rz_lda_w h
      have hg := rz_ls_get hl.1 hi
      rcases hv with rfl | ⟨a, rfl⟩ | ⟨a, rfl⟩
      · exact lv_aloadN hx hb hdec hg (nx h hW hS hN h1 h2 hl)
      · exact lv_aload hx hb hdec hg (nx h hW hS hN h1 h2 hl)
      · exact lv_aload hx hb hdec hg (nx h hW hS hN h1 h2 hl)
    | astore j =>
      obtain ⟨rfl, hnl, h⟩ := h
      obtain ⟨v, s2, hv, rfl, hi, h, -⟩ := rz_sta_w h
      rcases hv with rfl | ⟨a, rfl⟩
      · exact lv_astoreN hx hb hdec hl.1.2.2 (hl.1.1 ▸ hi) rfl (fun ls' h' => nx h hW hS hN h1 h2 (rz_lo_set hl rfl hnl h'))
      · exact lv_astore hx hb hdec hl.1.2.2 (hl.1.1 ▸ hi) rfl (fun ls' h' => nx h hW hS hN h1 h2 (rz_lo_set hl rfl hnl h'))
    | lload_n j =>
      obtain ⟨rfl, h⟩ := h
      obtain ⟨v, hi, h, -⟩ := rz_ldl_w h
      exact lv_lload_n hx hb hdec rfl (rz_ls_get hl.1 hi) (nx h hW hS hN h1 h2 hl)
    | lstore_n j =>
      obtain ⟨rfl, h9, h⟩ := h
      obtain ⟨v, s2, rfl, hi, h, -⟩ := rz_stl_w h
      exact lv_lstore_n hx hb hdec rfl hl.1.2.2 (hl.1.1 ▸ hi.1) rfl (fun ls' h' => nx h hW hS hN h1 h2 ⟨rz_ls_set2 hl.1 hi.1 hi.2 h', fun q => absurd h9 q⟩)
    | ldc2_w index =>
      obtain ⟨rfl, h⟩ := h
      split at h
      · next v ev => exact lv_ldc2 hx hb hown (hts _ (rz_constsL (rz_lk ev))) hdec (nx h hW hS hN h1 h2 hl)
      · exact h.elim
    | lconst n9 =>
      obtain ⟨rfl, h⟩ := h
      exact lv_lconst hx hb hdec rfl (nx h hW hS hN h1 h2 hl)
    | i2l =>
      obtain ⟨rfl, h⟩ := h
      obtain ⟨x, s2, rfl, h, -⟩ := rz_i1_w h
      exact lv_i2l hx hb hdec rfl (nx h hW hS hN h1 h2 hl)
    | l2i =>
      obtain ⟨rfl, h⟩ := h
      obtain ⟨x, s2, rfl, h, -⟩ := rz_l1_w h
      exact lv_l2i hx hb hdec rfl (nx h hW hS hN h1 h2 hl)
    | lmul =>
      obtain ⟨rfl, h⟩ := h
      obtain ⟨x, y, s2, rfl, h, -⟩ := rz_l2_w h
      exact lv_lmul hx hb hdec (nx h hW hS hN h1 h2 hl)
    | ladd =>
      obtain ⟨rfl, h⟩ := h
      obtain ⟨x, y, s2, rfl, h, -⟩ := rz_l2_w h
      exact lv_ladd hx hb hdec (nx h hW hS hN h1 h2 hl)
    | land =>
      obtain ⟨rfl, h⟩ := h
      obtain ⟨x, y, s2, rfl, h, -⟩ := rz_l2_w h
      exact lv_land hx hb hdec (nx h hW hS hN h1 h2 hl)
    | lcmp =>
      obtain ⟨rfl, h⟩ := h
      obtain ⟨x, y, s2, rfl, h, -⟩ := rz_l2_w h
      exact W.lcmp hx hb hdec (nx h hW hS hN h1 h2 hl)
    | lshr =>
      obtain ⟨rfl, h⟩ := h
      obtain ⟨x, y, s2, rfl, h, -⟩ := rz_li_w h
      exact lv_lshr hx hb hdec rfl (nx h hW hS hN h1 h2 hl)
    | irem =>
      obtain ⟨rfl, h⟩ := h
      obtain ⟨x, y, s2, rfl, ⟨h0, h⟩, -⟩ := rz_i2_w h
      exact lv_irem hx hb hdec h0 (nx h hW hS hN h1 h2 hl)
    | laload =>
      obtain ⟨rfl, h⟩ := h
      unfold rz_lald at h
      split at h
      · next i a s2 =>
        obtain ⟨v, h0, hv, h⟩ := h
        obtain ⟨hla, fs, he, hj⟩ := rz_fv_of hv
        have hget := rz_ws_get G b0 hla
        rw [he, rz_cv_long] at hget
        have hjl := (List.getElem?_eq_some_iff.mp hj).1
        have e9 : rz_lf fs i.toNatClampNeg = v := by unfold rz_lf; rw [hj]
        refine va_lald hx hb hK hP a 3 (cA := G.2.2.2.2.1) (n := fs.length) (f := rz_lf fs) hget rfl (fun q => by rcases q with q | q; exact h0 q; omega) hdec ?_
        rw [e9]
        exact nx h hW hS hN h1 h2 hl
      · exact h.elim
    | lastore =>
      obtain ⟨rfl, h⟩ := h
      unfold rz_last at h
      split at h
      · next x i a s2 =>
        obtain ⟨h0, ⟨w, hv⟩, h⟩ := h
        obtain ⟨hla, fs, he, hj⟩ := rz_fv_of hv
        have hget := rz_ws_get G b0 hla
        rw [he, rz_cv_long] at hget
        have hjl := (List.getElem?_eq_some_iff.mp hj).1
        refine va_last hx hb hK hP hD hS a 3 (cA := G.2.2.2.2.1) (n := fs.length) (f := rz_lf fs) hget rfl (fun q => by rcases q with q | q; exact h0 q; omega) hdec (fun H1 locs1 gP gD gS => ?_)
        have e9 := rz_pl_cv (G := G) (b0 := b0) (x := x) hla he hjl
        exact nx h ⟨by rw [← e9]; exact gP, rz_sp_set hC hla (by omega)⟩ gS hN h1 h2 hl
      · exact h.elim
    | lreturn =>
      obtain ⟨rfl, h⟩ := h
      unfold rz_lret at h
      split at h
      · next v =>
        obtain ⟨er, rfl, rfl⟩ := h
        have e1 : cells = mc := by omega
        have e2 : slots = ms := by omega
        subst e1; subst e2
        exact W.lret (v := v) hx hb (hret.trans er) (fun t ht hWm => ⟨⟨rfl, by rw [ht]; exact hW⟩, hS.F ht⟩) hS.2.2 hdec hlocks
      · exact h.elim
    | iload_n j =>
      obtain ⟨rfl, h⟩ := h
      obtain ⟨v, hi, h, -⟩ := rz_ldi_w h
      exact lv_iload_n hx hb hdec rfl (rz_ls_get hl.1 hi) (nx h hW hS hN h1 h2 hl)
    | iload j =>
      obtain ⟨rfl, h⟩ := h
      obtain ⟨v, hi, h, -⟩ := rz_ldi_w h
      exact lv_iload hx hb hdec (rz_ls_get hl.1 hi) (nx h hW hS hN h1 h2 hl)
    | astore_n j =>
      obtain ⟨rfl, hnl, h⟩ := h
      obtain ⟨v, s2, hv, rfl, hi, h, -⟩ := rz_sta_w h
      rcases hv with rfl | ⟨a, rfl⟩
      · exact lv_astore_nN hx hb hdec rfl hl.1.2.2 (hl.1.1 ▸ hi) rfl (fun ls' h' => nx h hW hS hN h1 h2 (rz_lo_set hl rfl hnl h'))
      · exact lv_astore_n hx hb hdec rfl hl.1.2.2 (hl.1.1 ▸ hi) rfl (fun ls' h' => nx h hW hS hN h1 h2 (rz_lo_set hl rfl hnl h'))
    | istore_n j =>
      obtain ⟨rfl, hnl, h⟩ := h
      obtain ⟨v, s2, rfl, hi, h, -⟩ := rz_sti_w h
      exact lv_istore_n hx hb hdec rfl hl.1.2.2 (hl.1.1 ▸ hi) rfl (fun ls' h' => nx h hW hS hN h1 h2 (rz_lo_set hl rfl hnl h'))
    | istore j =>
      obtain ⟨rfl, hnl, h⟩ := h
      obtain ⟨v, s2, rfl, hi, h, -⟩ := rz_sti_w h
      exact lv_istore hx hb hdec hl.1.2.2 (hl.1.1 ▸ hi) rfl (fun ls' h' => nx h hW hS hN h1 h2 (rz_lo_set hl rfl hnl h'))
    | iinc j c9 =>
      obtain ⟨rfl, h⟩ := h
      split at h
      · next x ex =>
        have hg := rz_ls_get (i := j) hl.1 ex
        obtain ⟨k9, hk9⟩ := List.getElem?_of_mem (rz_as_iff.mpr (show (lv.map (Option.map (rz_mv G b0)))[(j, Value.int x).1]? = some (some (j, Value.int x).2) by rw [List.getElem?_map, ex]; rfl))
        exact lv_iinc (v := x + Int32.ofInt c9) hx hb hdec hl.1.2.2 hk9 rfl (hl.1.1 ▸ (List.getElem?_eq_some_iff.mp ex).1) rfl (fun ls' h' => nx h hW hS hN h1 h2 (rz_lo_set hl rfl (Or.inr (rz_nl_of hl.1 ex)) h'))
      · exact h.elim
    | iconst n9 =>
      obtain ⟨rfl, h⟩ := h
      exact lv_iconst hx hb hdec rfl (nx h hW hS hN h1 h2 hl)
    | bipush n9 =>
      obtain ⟨rfl, h⟩ := h
      exact lv_bipush hx hb hdec rfl (nx h hW hS hN h1 h2 hl)
    | sipush n9 =>
      obtain ⟨rfl, h⟩ := h
      exact lv_sipush hx hb hdec rfl (nx h hW hS hN h1 h2 hl)
    | aconst_null =>
      obtain ⟨rfl, h⟩ := h
      exact lv_null hx hb hdec (nx h hW hS hN h1 h2 hl)
    | ldc index =>
      obtain ⟨rfl, h⟩ := h
      split at h
      · next v ev => exact lv_ldc hx hb hown (hts _ (rz_consts (rz_lk ev))) hdec (nx h hW hS hN h1 h2 hl)
      · exact h.elim
    | iadd =>
      obtain ⟨rfl, h⟩ := h
      obtain ⟨x, y, s2, rfl, h, -⟩ := rz_i2_w h
      exact lv_iadd hx hb hdec (nx h hW hS hN h1 h2 hl)
    | isub =>
      obtain ⟨rfl, h⟩ := h
      obtain ⟨x, y, s2, rfl, h, -⟩ := rz_i2_w h
      exact lv_isub hx hb hdec (nx h hW hS hN h1 h2 hl)
    | imul =>
      obtain ⟨rfl, h⟩ := h
      obtain ⟨x, y, s2, rfl, h, -⟩ := rz_i2_w h
      exact lv_imul hx hb hdec (nx h hW hS hN h1 h2 hl)
    | iand =>
      obtain ⟨rfl, h⟩ := h
      obtain ⟨x, y, s2, rfl, h, -⟩ := rz_i2_w h
      exact lv_iand hx hb hdec (nx h hW hS hN h1 h2 hl)
    | ixor =>
      obtain ⟨rfl, h⟩ := h
      obtain ⟨x, y, s2, rfl, h, -⟩ := rz_i2_w h
      exact lv_ixor hx hb hdec (nx h hW hS hN h1 h2 hl)
    | ishr =>
      obtain ⟨rfl, h⟩ := h
      obtain ⟨x, y, s2, rfl, h, -⟩ := rz_i2_w h
      exact lv_ishr hx hb hdec (nx h hW hS hN h1 h2 hl)
    | idiv =>
      obtain ⟨rfl, h⟩ := h
      obtain ⟨x, y, s2, rfl, ⟨h0, h⟩, -⟩ := rz_i2_w h
      exact lv_idiv hx hb hdec h0 (nx h hW hS hN h1 h2 hl)
    | i2c =>
      obtain ⟨rfl, h⟩ := h
      obtain ⟨x, s2, rfl, h, -⟩ := rz_i1_w h
      exact lv_i2c hx hb hdec rfl (nx h hW hS hN h1 h2 hl)
    | dup =>
      obtain ⟨rfl, h⟩ := h
      split at h
      · exact lv_dup hx hb hdec (rz_cat_mv h.1) (nx h.2 hW hS hN h1 h2 hl)
      · exact h.elim
    | dup2 =>
      obtain ⟨rfl, h⟩ := h
      split at h
      · exact lv_dup2_11 hx hb hdec (rz_cat_mv h.1) (rz_cat_mv h.2.1) (nx h.2.2 hW hS hN h1 h2 hl)
      · exact h.elim
    | pop =>
      obtain ⟨rfl, h⟩ := h
      split at h
      · exact lv_pop hx hb hdec (rz_cat_mv h.1) (nx h.2 hW hS hN h1 h2 hl)
      · exact h.elim
    | getfield index =>
      obtain ⟨rfl, h⟩ := h
      obtain ⟨a, s2, rfl, h, -⟩ := rz_r1_w h
      split at h
      · next ci j ef =>
        obtain ⟨v, hv, h⟩ := h
        obtain ⟨hla, fs, he, hj⟩ := rz_fv_of hv
        obtain ⟨lk, hci, hj2, hdecl⟩ := rz_link (rz_lk ef)
        have hget := rz_ws_obj G b0 hla he hci
        exact va_get hx hb hts (rz_lay ci hci) hown hK hP a hget (rz_inid hci).2.2 j hj2 (hts _ lk) (ref := rz_R ci) (fun _ h9 => by rw [← hdecl]; exact h9) (v := rz_mv G b0 v) (by rw [List.getElem?_map, hj]; rfl) hdec (nx h hW hS hN h1 h2 hl)
      · exact h.elim
    | putfield index =>
      obtain ⟨rfl, h⟩ := h
      unfold rz_putf at h
      split at h
      · next v a s2 =>
        split at h
        · next ci j ef =>
          obtain ⟨⟨w, hw⟩, hfit, hfin, h⟩ := h
          obtain ⟨hla, fs, he, hj⟩ := rz_fv_of hw
          obtain ⟨lk, hci, hj2, hdecl⟩ := rz_link (rz_lk ef)
          have hget := rz_ws_obj G b0 hla he hci
          have hjl : j < (fs.map (rz_mv G b0)).length := by rw [List.length_map]; exact (List.getElem?_eq_some_iff.mp hj).1
          obtain ⟨hn1, hn2⟩ := rz_fits (b0 := b0) hfit
          by_cases hf9 : (rz_T ci j).2.2.2 = true
          · obtain ⟨hin2, hcik⟩ := hfin hf9
            refine va_putF hx hb hts (rz_lay ci hci) (rz_ty ci) (rz_tok ci hci) (rz_nm ci hci) hown hK hP hD hS a hget (rz_inid hci).2.2 j hj2 (hts _ lk) (ref := rz_R ci) (fun _ h9 => by rw [← hdecl]; exact h9) hf9 (by rw [hname hin2]; exact hin2) (by rw [hdecl, hcik]) (rz_tok ci hci j hj2) hn1 hn2 hjl hdec (fun H1 locs1 gP gD gS => ?_)
            rw [rz_pf_cv hla he hci] at gP
            exact nx h ⟨gP, rz_sp_set hC hla (by omega)⟩ gS hN h1 h2 hl
          · refine va_put hx hb hts (rz_lay ci hci) (rz_ty ci) (rz_tok ci hci) (rz_nm ci hci) hown hK hP hD hS a hget (rz_inid hci).2.2 j hj2 (hts _ lk) (ref := rz_R ci) (fun _ h9 => by rw [← hdecl]; exact h9) (by simpa using hf9) (rz_tok ci hci j hj2) hn1 hn2 hjl hdec (fun H1 locs1 gP gD gS => ?_)
            rw [rz_pf_cv hla he hci] at gP
            exact nx h ⟨gP, rz_sp_set hC hla (by omega)⟩ gS hN h1 h2 hl
        · exact h.elim
      · exact h.elim
    | iaload =>
      obtain ⟨rfl, h⟩ := h
      unfold rz_ald at h
      split at h
      · next i a s2 =>
        obtain ⟨n9, f, hv, hi, h⟩ := h
        obtain ⟨hla, he⟩ := rz_av_of hv
        have hget := rz_ws_get G b0 hla
        rw [he] at hget
        exact va_iald hx hb hK hP a 0 (cA := G.2.1) (n := n9) (f := f) hget rfl hi hdec (nx h hW hS hN h1 h2 hl)
      · next i a s2 =>
        obtain ⟨-, n9, f, hv, hi, h⟩ := h
        obtain ⟨rfl, rfl⟩ := rz_scr_of hC hv
        have hlt : G.2.2.2.2.2.1 < s.heap.size := by
          obtain ⟨scr, q1, q2⟩ := hXs.1
          exact (Array.getElem?_eq_some_iff.mp q1).1
        exact va_sld (A := rz_A b0) hx hb hXs.1 hlt (by have := hXs.2; show ¬ b0 ≤ _; omega) hS hi hdec (nx h hW hS hN h1 h2 hl)
      · exact h.elim
    | caload =>
      obtain ⟨rfl, h⟩ := h
      unfold rz_ald at h
      split at h
      · next i a s2 =>
        obtain ⟨n9, f, hv, hi, h⟩ := h
        obtain ⟨hla, he⟩ := rz_av_of hv
        have hget := rz_ws_get G b0 hla
        rw [he] at hget
        exact va_cald hx hb hK hP a 1 (cA := G.2.2.1) (n := n9) (f := f) hget rfl hi hdec (nx h hW hS hN h1 h2 hl)
      · exact absurd h.1 (by decide)
      · exact h.elim
    | iastore =>
      obtain ⟨rfl, h⟩ := h
      unfold rz_ast at h
      split at h
      · next x i a s2 =>
        obtain ⟨n9, f, hv, hi, h⟩ := h
        obtain ⟨hla, he⟩ := rz_av_of hv
        have hget := rz_ws_get G b0 hla
        rw [he] at hget
        refine va_iast hx hb hK hP hD hS a 0 (cA := G.2.1) (n := n9) (f := f) hget rfl hi hdec (fun H1 locs1 gP gD gS => ?_)
        have e9 := rz_pa_cv (G := G) (b0 := b0) (g := upd f i.toNatClampNeg (x)) hla he
        exact nx h ⟨by rw [← e9]; exact gP, rz_sp_set hC hla (by omega)⟩ gS hN h1 h2 hl
      · exact h.elim
    | castore =>
      obtain ⟨rfl, h⟩ := h
      unfold rz_ast at h
      split at h
      · next x i a s2 =>
        obtain ⟨n9, f, hv, hi, h⟩ := h
        obtain ⟨hla, he⟩ := rz_av_of hv
        have hget := rz_ws_get G b0 hla
        rw [he] at hget
        refine va_cast hx hb hK hP hD hS a 1 (cA := G.2.2.1) (n := n9) (f := f) hget rfl hi hdec (fun H1 locs1 gP gD gS => ?_)
        have e9 := rz_pa_cv (G := G) (b0 := b0) (g := upd f i.toNatClampNeg (vp_nar .char x)) hla he
        exact nx h ⟨by rw [← e9]; exact gP, rz_sp_set hC hla (by omega)⟩ gS hN h1 h2 hl
      · exact h.elim
    | aaload =>
      obtain ⟨rfl, h⟩ := h
      unfold rz_aald at h
      split at h
      · next i a s2 =>
        obtain ⟨n9, f, hv, hi, h⟩ := h
        obtain ⟨hla, he⟩ := rz_qv_of hv
        have hget := rz_ws_get G b0 hla
        rw [he] at hget
        refine va_aldq hx hb hK hP a 2 (cA := G.2.2.2.1) (n := n9) (f := fun j => (f j).map (fun a => b0 + a)) hget rfl hi hdec ?_
        have e9 : va_rf ((f i.toNatClampNeg).map (fun a => b0 + a)) = rz_mv G b0 (va_rf (f i.toNatClampNeg)) := by cases f i.toNatClampNeg <;> rfl
        rw [e9]
        exact nx h hW hS hN h1 h2 hl
      · exact h.elim
    | aastore =>
      obtain ⟨rfl, h⟩ := h
      unfold rz_aast at h
      split at h
      · next v i a s2 =>
        obtain ⟨n9, f, hv, hi, hc9, h⟩ := h
        obtain ⟨hla, he⟩ := rz_qv_of hv
        obtain ⟨hlv, fs, hev⟩ := rz_co_of hc9
        have hget := rz_ws_get G b0 hla
        rw [he] at hget
        have hgv := rz_ws_obj G b0 hlv hev (by decide)
        refine va_astq hx hb hK hP hD hS a 2 v 6 (cA := G.2.2.2.1) (n := n9) (f := fun j => (f j).map (fun a => b0 + a)) (r := (rz_R 6, rz_T 6, rz_N 6)) hget rfl hgv rfl hi hdec (fun H1 locs1 gP gD gS => ?_)
        have e9 := rz_pq_cv (G := G) (b0 := b0) (i := i.toNatClampNeg) (v := v) hla he
        exact nx h ⟨by rw [← e9]; exact gP, rz_sp_set hC hla (by omega)⟩ gS hN h1 h2 hl
      · exact h.elim
    | arraylength =>
      obtain ⟨rfl, h⟩ := h
      unfold rz_alen at h
      split at h
      · next a s2 =>
        obtain ⟨n9, hn9, h⟩ := h
        obtain ⟨hla, ⟨x, he, hx9⟩ | ⟨x, he, hx9⟩⟩ := rz_ln_of hn9
        · have hget := rz_ws_get G b0 hla
          rw [he] at hget
          by_cases ht : x.1 = 0
          · have hget : (rz_ws G b0 hp)[a]? = some (b0 + a, .inl (G.2.1, x.2.1, .inl x.2.2)) := by rw [hget]; show some (b0 + a, (Sum.inl (if x.1 = 0 then G.2.1 else G.2.2.1, x.2.1, .inl x.2.2) : va_E)) = _; rw [if_pos ht]
            exact va_alen hx hb hK hP a 0 hget (ty := .int) rfl (by show Int32.ofNat x.2.1 = Int32.ofNat n9; rw [hx9]) hdec (nx h hW hS hN h1 h2 hl)
          · have hget : (rz_ws G b0 hp)[a]? = some (b0 + a, .inl (G.2.2.1, x.2.1, .inl x.2.2)) := by rw [hget]; show some (b0 + a, (Sum.inl (if x.1 = 0 then G.2.1 else G.2.2.1, x.2.1, .inl x.2.2) : va_E)) = _; rw [if_neg ht]
            exact va_alen hx hb hK hP a 1 hget (ty := .char) rfl (by show Int32.ofNat x.2.1 = Int32.ofNat n9; rw [hx9]) hdec (nx h hW hS hN h1 h2 hl)
        · have hget := rz_ws_get G b0 hla
          rw [he] at hget
          exact va_alen hx hb hK hP a 2 hget (ty := .object "RisingPiles$State") rfl (by show Int32.ofNat x.1 = Int32.ofNat n9; rw [hx9]) hdec (nx h hW hS hN h1 h2 hl)
      · next a s2 =>
        obtain ⟨n9, f, hv, h⟩ := h
        obtain ⟨rfl, rfl⟩ := rz_scr_of hC hv
        have hlt : G.2.2.2.2.2.1 < s.heap.size := by
          obtain ⟨scr, q1, q2⟩ := hXs.1
          exact (Array.getElem?_eq_some_iff.mp q1).1
        exact va_slen (A := rz_A b0) hx hb hXs.1 hlt (by have := hXs.2; show ¬ b0 ≤ _; omega) hS hdec (nx h hW hS hN h1 h2 hl)
      · exact h.elim
    | new index =>
      obtain ⟨rfl, h⟩ := h
      split at h
      · next ci ec =>
        obtain ⟨lk, hci⟩ := rz_news (rz_lk ec)
        obtain ⟨i1, i2, i3⟩ := rz_inid hci
        obtain ⟨r9, h9, ⟨-, e9⟩, m1, m2, -⟩ := rz_go_one _ _ _ _ _ _ _ _ h
        have m1 : hp.2.1 + 1 ≤ hp'.2.1 := by rw [← e9]; exact m1
        have m2 : hp.2.2 + rz_N ci ≤ hp'.2.2 := by rw [← e9]; exact m2
        refine va_new (ci := ci) (fs := (rz_dv ci).map (rz_mv G b0)) hx hb hts (rz_lay ci hci) (rz_ty ci) (rz_tok ci hci) hown (hts _ lk) (hts _ i2) (hts _ i1) hK hP hD hS hA i3 (fun j hj => ?_) (by omega) (by omega) hdec (fun q H1 gP gD gS => ?_)
        · unfold vp_V rz_dv
          rw [List.getD_eq_getElem?_getD, List.map_map, List.getElem?_map, List.getElem?_range hj]
          show defaultValue (rz_ty ci j) = rz_mv G b0 (defaultValue (rz_ty ci j))
          cases hty : rz_ty ci j <;> first | rfl | (exfalso; have h5 := rz_nof ci hci j hj; rw [hty] at h5; cases h5)
        · refine rz_sized (fun hsz => ?_)
          have hq : q = b0 + hp.2.1 := rz_fresh gP gD (by omega)
          subst hq
          have e8 := rz_ws_push G b0 hp (.inr (.inr (ci, rz_dv ci))) (rz_N ci)
          rw [rz_cv_obj hci] at e8
          exact nx (hp2 := rz_push hp (.inr (.inr (ci, rz_dv ci))) (rz_N ci)) h ⟨by rw [← e8]; exact gP, rz_sp_push hC (by omega)⟩ gS (by show s.heap.size + (cells + 1) = b0 + (hp.2.1 + 1); omega) (by show cells + 1 + hp'.2.1 = mc + (hp.2.1 + 1); omega) (by show slots + rz_N ci + hp'.2.2 = ms + (hp.2.2 + rz_N ci); omega) hl
      · exact h.elim
    | newarray t =>
      obtain ⟨rfl, h⟩ := h
      split at h
      · obtain ⟨x, s2, rfl, ⟨h0, h9, h⟩, -⟩ := rz_i1_w h
        obtain ⟨r9, h8, ⟨-, e9⟩, m1, m2, -⟩ := rz_go_one _ _ _ _ _ _ _ _ h
        have m1 : hp.2.1 + 1 ≤ hp'.2.1 := by rw [← e9]; exact m1
        have m2 : hp.2.2 + x.toNatClampNeg ≤ hp'.2.2 := by rw [← e9]; exact m2
        refine va_newa (atype := .int) (ty := .int) (a0 := (x.toNatClampNeg, .inl (fun _ => 0))) hx hb (hts _ (rz_in rz_w8.1 rfl)) rfl hK hP hD hS hA (fun cA => rfl) h0 rfl (Nat.le_trans (Nat.mul_le_mul_right _ h9) (Nat.le_of_ble_eq_true rfl)) (by omega) (by omega) hdec (fun q cA H1 gK gP gD gS => ?_)
        refine rz_sized (fun hsz => ?_)
        have hq : q = b0 + hp.2.1 := rz_fresh gP gD (by omega)
        subst hq
        have hcA : cA = G.2.1 := Option.some.inj ((gK.2 4 (cA, .int) rfl).2.symm.trans (gK.2 0 (G.2.1, .int) rfl).2)
        subst hcA
        have e8 := rz_ws_push G b0 hp (.inl (0, x.toNatClampNeg, fun _ => 0)) x.toNatClampNeg
        exact nx (hp2 := rz_push hp (.inl (0, x.toNatClampNeg, fun _ => 0)) x.toNatClampNeg) h ⟨by rw [← e8]; exact gP, rz_sp_push hC (by omega)⟩ gS (by show s.heap.size + (cells + 1) = b0 + (hp.2.1 + 1); omega) (by show cells + 1 + hp'.2.1 = mc + (hp.2.1 + 1); omega) (by show slots + x.toNatClampNeg + hp'.2.2 = ms + (hp.2.2 + x.toNatClampNeg); omega) hl
      · obtain ⟨x, s2, rfl, ⟨h0, h9, h⟩, -⟩ := rz_i1_w h
        obtain ⟨r9, h8, ⟨-, e9⟩, m1, m2, -⟩ := rz_go_one _ _ _ _ _ _ _ _ h
        have m1 : hp.2.1 + 1 ≤ hp'.2.1 := by rw [← e9]; exact m1
        have m2 : hp.2.2 + x.toNatClampNeg ≤ hp'.2.2 := by rw [← e9]; exact m2
        refine va_newa (atype := .char) (ty := .char) (a0 := (x.toNatClampNeg, .inl (fun _ => 0))) hx hb (hts _ (rz_in rz_w8.2.1 rfl)) rfl hK hP hD hS hA (fun cA => rfl) h0 rfl (Nat.le_trans (Nat.mul_le_mul_right _ h9) (Nat.le_of_ble_eq_true rfl)) (by omega) (by omega) hdec (fun q cA H1 gK gP gD gS => ?_)
        refine rz_sized (fun hsz => ?_)
        have hq : q = b0 + hp.2.1 := rz_fresh gP gD (by omega)
        subst hq
        have hcA : cA = G.2.2.1 := Option.some.inj ((gK.2 4 (cA, .char) rfl).2.symm.trans (gK.2 1 (G.2.2.1, .char) rfl).2)
        subst hcA
        have e8 := rz_ws_push G b0 hp (.inl (1, x.toNatClampNeg, fun _ => 0)) x.toNatClampNeg
        exact nx (hp2 := rz_push hp (.inl (1, x.toNatClampNeg, fun _ => 0)) x.toNatClampNeg) h ⟨by rw [← e8]; exact gP, rz_sp_push hC (by omega)⟩ gS (by show s.heap.size + (cells + 1) = b0 + (hp.2.1 + 1); omega) (by show cells + 1 + hp'.2.1 = mc + (hp.2.1 + 1); omega) (by show slots + x.toNatClampNeg + hp'.2.2 = ms + (hp.2.2 + x.toNatClampNeg); omega) hl
      · obtain ⟨x, s2, rfl, ⟨h0, h9, h⟩, -⟩ := rz_i1_w h
        obtain ⟨r9, h8, ⟨-, e9⟩, m1, m2, -⟩ := rz_go_one _ _ _ _ _ _ _ _ h
        have m1 : hp.2.1 + 1 ≤ hp'.2.1 := by rw [← e9]; exact m1
        have m2 : hp.2.2 + x.toNatClampNeg ≤ hp'.2.2 := by rw [← e9]; exact m2
        refine va_newa (atype := .long) (ty := .long) (a0 := (x.toNatClampNeg, .inr (.inl (fun _ => 0)))) hx hb (hts _ (rz_in rz_w9 rfl)) rfl hK hP hD hS hA (fun cA => rfl) h0 rfl (Nat.le_trans (Nat.mul_le_mul_right _ h9) (Nat.le_of_ble_eq_true rfl)) (by omega) (by omega) hdec (fun q cA H1 gK gP gD gS => ?_)
        refine rz_sized (fun hsz => ?_)
        have hq : q = b0 + hp.2.1 := rz_fresh gP gD (by omega)
        subst hq
        have hcA : cA = G.2.2.2.2.1 := Option.some.inj ((gK.2 4 (cA, .long) rfl).2.symm.trans (gK.2 3 (G.2.2.2.2.1, .long) rfl).2)
        subst hcA
        have e8 := rz_ws_push G b0 hp (.inr (.inr (10, List.replicate x.toNatClampNeg (.long 0)))) x.toNatClampNeg
        have e7 : rz_lf (List.replicate x.toNatClampNeg (.long 0)) = fun _ => 0 := by
          funext j
          unfold rz_lf
          rw [List.getElem?_replicate]
          split <;> simp_all
        rw [rz_cv_long, List.length_replicate, e7] at e8
        exact nx (hp2 := rz_push hp (.inr (.inr (10, List.replicate x.toNatClampNeg (.long 0)))) x.toNatClampNeg) h ⟨by rw [← e8]; exact gP, rz_sp_push hC (by omega)⟩ gS (by show s.heap.size + (cells + 1) = b0 + (hp.2.1 + 1); omega) (by show cells + 1 + hp'.2.1 = mc + (hp.2.1 + 1); omega) (by show slots + x.toNatClampNeg + hp'.2.2 = ms + (hp.2.2 + x.toNatClampNeg); omega) hl
      · exact h.elim
    | anewarray index =>
      obtain ⟨rfl, ec, h⟩ := h
      obtain ⟨lk, hci⟩ := rz_news (rz_lk ec)
      obtain ⟨x, s2, rfl, ⟨h0, h9, h⟩, -⟩ := rz_i1_w h
      obtain ⟨r9, h8, ⟨-, e9⟩, m1, m2, -⟩ := rz_go_one _ _ _ _ _ _ _ _ h
      have m1 : hp.2.1 + 1 ≤ hp'.2.1 := by rw [← e9]; exact m1
      have m2 : hp.2.2 + x.toNatClampNeg ≤ hp'.2.2 := by rw [← e9]; exact m2
      refine va_newq (C := "RisingPiles$State") hx hb hown (hts _ lk) hE.2.2 hK hP hD hS hA h0 rfl (by omega) (by omega) (by omega) hdec (fun q cA H1 gK gP gD gS => ?_)
      refine rz_sized (fun hsz => ?_)
      have hq : q = b0 + hp.2.1 := rz_fresh gP gD (by omega)
      subst hq
      have hcA : cA = G.2.2.2.1 := rz_same_obj gK
      subst hcA
      have e8 := rz_ws_push G b0 hp (.inr (.inl (x.toNatClampNeg, fun _ => none))) x.toNatClampNeg
      exact nx (hp2 := rz_push hp (.inr (.inl (x.toNatClampNeg, fun _ => none))) x.toNatClampNeg) h ⟨by rw [← e8]; exact gP, rz_sp_push hC (by omega)⟩ gS (by show s.heap.size + (cells + 1) = b0 + (hp.2.1 + 1); omega) (by show cells + 1 + hp'.2.1 = mc + (hp.2.1 + 1); omega) (by show slots + x.toNatClampNeg + hp'.2.2 = ms + (hp.2.2 + x.toNatClampNeg); omega) hl
    | goto off =>
      obtain ⟨rfl, h⟩ := h
      obtain ⟨t, ht, h, -⟩ := rz_to_w h
      exact lv_goto hx hb hdec ht (nx h hW hS hN h1 h2 hl)
    | if_icmp c9 off =>
      obtain ⟨rfl, h⟩ := h
      obtain ⟨t, ht, h, -⟩ := rz_to_w h
      obtain ⟨x, y, s2, rfl, h, -⟩ := rz_i2_w h
      cases c9 with
      | eq => exact lv_icmp_eq hx hb hdec ht (fun hc => by dsimp only at h; rw [if_pos hc] at h; exact nx h hW hS hN h1 h2 hl) (fun hc => by dsimp only at h; rw [if_neg hc] at h; exact nx h hW hS hN h1 h2 hl)
      | ne => exact lv_icmp_ne hx hb hdec ht (fun hc => by dsimp only at h; rw [if_neg hc] at h; exact nx h hW hS hN h1 h2 hl) (fun hc => by dsimp only at h; rw [if_pos hc] at h; exact nx h hW hS hN h1 h2 hl)
      | lt => exact lv_icmp_lt hx hb hdec ht (fun hc => by dsimp only at h; rw [if_pos hc] at h; exact nx h hW hS hN h1 h2 hl) (fun hc => by dsimp only at h; rw [if_neg hc] at h; exact nx h hW hS hN h1 h2 hl)
      | ge => exact lv_icmp_ge hx hb hdec ht (fun hc => by dsimp only at h; rw [if_pos hc] at h; exact nx h hW hS hN h1 h2 hl) (fun hc => by dsimp only at h; rw [if_neg hc] at h; exact nx h hW hS hN h1 h2 hl)
      | gt => exact lv_icmp_gt hx hb hdec ht (fun hc => by dsimp only at h; rw [if_pos hc] at h; exact nx h hW hS hN h1 h2 hl) (fun hc => by dsimp only at h; rw [if_neg hc] at h; exact nx h hW hS hN h1 h2 hl)
      | le => exact lv_icmp_le hx hb hdec ht (fun hc => by dsimp only at h; rw [if_pos hc] at h; exact nx h hW hS hN h1 h2 hl) (fun hc => by dsimp only at h; rw [if_neg hc] at h; exact nx h hW hS hN h1 h2 hl)
    | ifCond c9 off =>
      obtain ⟨rfl, h⟩ := h
      obtain ⟨t, ht, h, -⟩ := rz_to_w h
      obtain ⟨x, s2, rfl, h, -⟩ := rz_i1_w h
      cases c9 with
      | eq => exact lv_if_eq hx hb hdec ht (fun hc => by dsimp only at h; rw [if_pos hc] at h; exact nx h hW hS hN h1 h2 hl) (fun hc => by dsimp only at h; rw [if_neg hc] at h; exact nx h hW hS hN h1 h2 hl)
      | ne => exact lv_if_ne hx hb hdec ht (fun hc => by dsimp only at h; rw [if_neg hc] at h; exact nx h hW hS hN h1 h2 hl) (fun hc => by dsimp only at h; rw [if_pos hc] at h; exact nx h hW hS hN h1 h2 hl)
      | lt => exact lv_if_lt hx hb hdec ht (fun hc => by dsimp only at h; rw [if_pos hc] at h; exact nx h hW hS hN h1 h2 hl) (fun hc => by dsimp only at h; rw [if_neg hc] at h; exact nx h hW hS hN h1 h2 hl)
      | ge => exact lv_if_ge hx hb hdec ht (fun hc => by dsimp only at h; rw [if_pos hc] at h; exact nx h hW hS hN h1 h2 hl) (fun hc => by dsimp only at h; rw [if_neg hc] at h; exact nx h hW hS hN h1 h2 hl)
      | gt => exact lv_if_gt hx hb hdec ht (fun hc => by dsimp only at h; rw [if_pos hc] at h; exact nx h hW hS hN h1 h2 hl) (fun hc => by dsimp only at h; rw [if_neg hc] at h; exact nx h hW hS hN h1 h2 hl)
      | le => exact lv_if_le hx hb hdec ht (fun hc => by dsimp only at h; rw [if_pos hc] at h; exact nx h hW hS hN h1 h2 hl) (fun hc => by dsimp only at h; rw [if_neg hc] at h; exact nx h hW hS hN h1 h2 hl)
    | ifnull off =>
      obtain ⟨rfl, h⟩ := h
      split at h
      · obtain ⟨t, ht, h, -⟩ := rz_to_w h
        exact lv_ifnullN hx hb hdec ht (nx h hW hS hN h1 h2 hl)
      · exact lv_ifnull hx hb hdec (nx h hW hS hN h1 h2 hl)
      · exact h.elim
    | ifnonnull off =>
      obtain ⟨rfl, h⟩ := h
      split at h
      · obtain ⟨t, ht, h, -⟩ := rz_to_w h
        exact lv_ifnonnull hx hb hdec ht (nx h hW hS hN h1 h2 hl)
      · exact lv_ifnonnullN hx hb hdec (nx h hW hS hN h1 h2 hl)
      · exact h.elim
    | tableswitch dflt lo hi offs =>
      obtain ⟨x, s2, rfl, h, -⟩ := rz_i1_w h
      split at h
      · next hc =>
        obtain ⟨t, ht, h, -⟩ := rz_to_w h
        exact lv_tableOut hx hb hdec hc ht (nx h hW hS hN h1 h2 hl)
      · next hc =>
        split at h
        · next off eo =>
          obtain ⟨t, ht, h, -⟩ := rz_to_w h
          exact lv_tableIn hx hb hdec (fun q => hc (Or.inl q)) (fun q => hc (Or.inr q)) eo ht (nx h hW hS hN h1 h2 hl)
        · exact h.elim
    | lookupswitch dflt ps =>
      obtain ⟨hps, h⟩ := h
      obtain ⟨x, s2, rfl, h, -⟩ := rz_i1_w h
      obtain ⟨t, ht, h, -⟩ := rz_to_w h
      exact lv_lookup hx hb hdec hps rfl ht (nx h hW hS hN h1 h2 hl)
    | invokevirtual index =>
      obtain ⟨rfl, h⟩ := h
      unfold rz_inv at h
      split at h
      · next k2 ek =>
        split at h
        · next b rest ed =>
          obtain ⟨hco, hnp, hall, hlen, -, hd0, hk2, h⟩ := h
          obtain ⟨hw, -, hkd, -⟩ := rz_calls (rz_lk ek)
          have hkd : rz_kd k2 = 0 := by rcases hkd with q | q | q; exact q; exact absurd q (by dsimp only; omega); exact absurd q.1 (by dsimp only; omega)
          obtain ⟨hlb, fsb, heb⟩ := rz_co_of hco
          have hgb := rz_ws_obj G b0 hlb heb (rz_okV k2 hk2 hkd)
          have hal := rz_onces hall
          have hargs : ∀ v ∈ (Value.ref b :: (st.take (rz_np k2)).reverse), rz_val v = true := fun v hv => by
            rcases List.mem_cons.mp hv with q | q
            · rw [q]; rfl
            · exact hal v (List.mem_of_mem_take (List.mem_reverse.mp q))
          have hy := rz_okY k2 (Nat.lt_succ_of_lt hk2)
          obtain ⟨r1, hp1, g1, m1, m2, g4⟩ := rz_go_one _ _ _ _ _ _ _ _ h
          obtain ⟨r9, h9, ⟨-, e9⟩, n1, n2, -⟩ := rz_go_one _ _ _ _ _ _ _ _ g1
          have n1 : hp1.2.1 ≤ hp'.2.1 := by rw [← e9]; exact n1
          have n2 : hp1.2.2 ≤ hp'.2.2 := by rw [← e9]; exact n2
          have hMt := rz_met ih (g4 (fun r1' h1' => r1' = r1 ∧ h1' = hp1) ⟨rfl, rfl⟩) hk2 hargs hlen.2.1 hlen.2.2 l G b0 (hp1.2.1 - hp.2.1) (hp1.2.2 - hp.2.2) (by omega) (by omega) (by omega)
          have hst : st.map (rz_mv G b0) = (((st.take (rz_np k2)).reverse).map (rz_mv G b0)).reverse ++ .ref (b0 + b) :: rest.map (rz_mv G b0) := by
            have := rz_split (G := G) (b0 := b0) (n := rz_np k2) (st := st)
            rw [ed] at this
            exact this
          have hrest : rest.all rz_val = true := List.all_eq_true.mpr fun v hv => hal v (List.mem_of_mem_drop (by rw [ed]; exact List.mem_cons_of_mem _ hv))
          have hcb : CallW R s args (rz_R (rz_K k)) (rz_R (rz_K k2)) index (rz_Y k2) (rz_B k2) (rz_ML k2) (rz_RT k2) (rz_wk k2) (rz_rm (d - 1) (hp1.2.1 - hp.2.1) (hp1.2.2 - hp.2.2)) (hp1.2.1 - hp.2.1) (hp1.2.2 - hp.2.2) (rz_np k2) := by
            have hM2 := rz_okM k2 hk2
            refine ⟨rz_cb hts hk2 (hts _ (rz_in hw rfl)) (by omega) (by omega), hts _ (rz_mem (hM2.2.1 (by omega)) rfl), ?_⟩
            have := hts _ (rz_mem (hM2.2.2 hkd) rfl)
            rw [hy.1] at this
            exact this
          refine rz_sized (fun hsz => ?_)
          refine rz_back (mc := hp1.2.1 - hp.2.1) (ms := hp1.2.2 - hp.2.2) (r := r1) (hp' := hp1) (rest := rest.map (rz_mv G b0)) (va_runV (As := ((st.take (rz_np k2)).reverse).map (rz_mv G b0)) ⟨hx, hb, hml, hown, hts⟩ hMt hcb ⟨rz_pc_blind, va_recv hK hP (rz_inid (rz_okV k2 hk2 hkd)).2.2 hgb, fun U hU hWm => ⟨rfl, by rw [hU]; exact rz_size hW hS hb0 (by omega), by rw [hU]; exact hW, rz_env.warm hWm hE, rz_xs.warm hWm hU hS hXs⟩⟩ rfl (by simp; omega) hl.1.2.2.1 hst (lv_room (by rw [rz_cats hrest]; exact hlen.1)) hdec ⟨by omega, by omega⟩) hS (fun H1 locs1 gP gS => ?_)
          have e8 : (r1.map (rz_mv G b0)).toList ++ rest.map (rz_mv G b0) = (r1.toList ++ rest).map (rz_mv G b0) := by cases r1 <;> rfl
          rw [e8]
          exact nx g1 gP gS (by omega) (by omega) (by omega) hl
        · exact h.elim
      · exact h.elim
    | invokespecial index =>
      obtain ⟨rfl, h⟩ := h
      unfold rz_ins at h
      split at h
      · next k2 ek =>
        split at h
        · next b rest ed =>
          obtain ⟨hnp, hall, hlen, -, hd0, hk2, h⟩ := h
          obtain ⟨hw, -, hkd, -⟩ := rz_calls (rz_lk ek)
          have hkd : rz_kd k2 = 2 := by rcases hkd with q | q | q; exact q; exact absurd q (by dsimp only; omega); exact absurd q.1 (by dsimp only; omega)
          have hal := rz_onces hall
          have hargs : ∀ v ∈ (Value.ref b :: (st.take (rz_np k2)).reverse), rz_val v = true := fun v hv => by
            rcases List.mem_cons.mp hv with q | q
            · rw [q]; rfl
            · exact hal v (List.mem_of_mem_take (List.mem_reverse.mp q))
          have hy := rz_okY k2 (Nat.lt_succ_of_lt hk2)
          obtain ⟨r1, hp1, g1, m1, m2, g4⟩ := rz_go_one _ _ _ _ _ _ _ _ h
          obtain ⟨r9, h9, ⟨-, e9⟩, n1, n2, -⟩ := rz_go_one _ _ _ _ _ _ _ _ g1
          have n1 : hp1.2.1 ≤ hp'.2.1 := by rw [← e9]; exact n1
          have n2 : hp1.2.2 ≤ hp'.2.2 := by rw [← e9]; exact n2
          have hMt := rz_met ih (g4 (fun r1' h1' => r1' = r1 ∧ h1' = hp1) ⟨rfl, rfl⟩) hk2 hargs hlen.2.1 hlen.2.2 l G b0 (hp1.2.1 - hp.2.1) (hp1.2.2 - hp.2.2) (by omega) (by omega) (by omega)
          have hst : st.map (rz_mv G b0) = (((st.take (rz_np k2)).reverse).map (rz_mv G b0)).reverse ++ .ref (b0 + b) :: rest.map (rz_mv G b0) := by
            have := rz_split (G := G) (b0 := b0) (n := rz_np k2) (st := st)
            rw [ed] at this
            exact this
          have hrest : rest.all rz_val = true := List.all_eq_true.mpr fun v hv => hal v (List.mem_of_mem_drop (by rw [ed]; exact List.mem_cons_of_mem _ hv))
          have hini := hy.2.2.2.2.2.2.1 hkd
          have hcb : CallB R s args (rz_R (rz_K k)) index (rz_Y k2) (rz_B k2) (rz_ML k2) none (rz_wk k2) (rz_rm (d - 1) (hp1.2.1 - hp.2.1) (hp1.2.2 - hp.2.2)) (hp1.2.1 - hp.2.1) (hp1.2.2 - hp.2.2) (rz_np k2) ∧ (rz_Y k2).name = "<init>" ∧ (Cond.instanceMethod (rz_Y k2)).before args s = true := by
            have hM2 := rz_okM k2 hk2
            have q1 := rz_cb (R := R) (d := d - 1) (mc := hp1.2.1 - hp.2.1) (ms := hp1.2.2 - hp.2.2) hts hk2 (hts _ (rz_in hw rfl)) (by omega) (by omega)
            rw [hini.2] at q1
            exact ⟨q1, hini.1, hts _ (rz_mem (hM2.2.1 (by omega)) rfl)⟩
          refine rz_sized (fun hsz => ?_)
          refine rz_back (mc := hp1.2.1 - hp.2.1) (ms := hp1.2.2 - hp.2.2) (r := r1) (hp' := hp1) (rest := rest.map (rz_mv G b0)) (va_runI (As := ((st.take (rz_np k2)).reverse).map (rz_mv G b0)) ⟨hx, hb, hml, hown, hts⟩ hMt hcb ⟨rz_pc_blind, fun U hU hWm => ⟨rfl, by rw [hU]; exact rz_size hW hS hb0 (by omega), by rw [hU]; exact hW, rz_env.warm hWm hE, rz_xs.warm hWm hU hS hXs⟩⟩ rfl (by simp; omega) hl.1.2.2.1 hst (lv_room (by rw [rz_cats hrest]; exact hlen.1)) hdec ⟨by omega, by omega⟩) hS (fun H1 locs1 gP gS => ?_)
          have e8 : (r1.map (rz_mv G b0)).toList ++ rest.map (rz_mv G b0) = (r1.toList ++ rest).map (rz_mv G b0) := by cases r1 <;> rfl
          rw [e8]
          exact nx g1 gP gS (by omega) (by omega) (by omega) hl
        · exact h.elim
      · next k2 ek =>
        split at h
        · next b rest =>
          obtain ⟨hrest, hlen, hd0, h⟩ := h
          obtain ⟨hw, -, -, -⟩ := rz_calls (rz_lk ek)
          refine W.objInit hx hb hown (hts _ (rz_in hw rfl)) (hts _ (rz_in rz_w7.1 rfl)) (hts _ (rz_in rz_w7.2 rfl)) rfl (by rw [hml]; exact hl.1.2.2.1) rfl hdec (by omega) ?_ ?_
          · show 2 * 0 + ((rest.map (rz_mv G b0)).map fun v => v.category).sum + 12 ≤ R.locals
            rw [rz_cats hrest]
            omega
          · exact W.eq rfl (nx h hW hS hN h1 h2 hl)
        · exact h.elim
      · exact h.elim
    | invokestatic index =>
      obtain ⟨rfl, h⟩ := h
      unfold rz_inS at h
      split at h
      · next k2 ek =>
        obtain ⟨hnp, hall, hlen, -, hd0, hk2, h⟩ := h
        obtain ⟨hw, -, hkd, -⟩ := rz_calls (rz_lk ek)
        have hkd : rz_kd k2 = 1 := by rcases hkd with q | q | q; exact q; exact absurd q (by dsimp only; omega); exact q.2
        have hal := rz_onces hall
        have hargs : ∀ v ∈ (st.take (rz_np k2)).reverse, rz_val v = true := fun v hv => hal v (List.mem_of_mem_take (List.mem_reverse.mp hv))
        have hy := rz_okY k2 (Nat.lt_succ_of_lt hk2)
        obtain ⟨r1, hp1, g1, m1, m2, g4⟩ := rz_go_one _ _ _ _ _ _ _ _ h
        obtain ⟨r9, h9, ⟨-, e9⟩, n1, n2, -⟩ := rz_go_one _ _ _ _ _ _ _ _ g1
        have n1 : hp1.2.1 ≤ hp'.2.1 := by rw [← e9]; exact n1
        have n2 : hp1.2.2 ≤ hp'.2.2 := by rw [← e9]; exact n2
        have hMt := rz_met ih (g4 (fun r1' h1' => r1' = r1 ∧ h1' = hp1) ⟨rfl, rfl⟩) hk2 hargs hlen.2.1 hlen.2.2 l G b0 (hp1.2.1 - hp.2.1) (hp1.2.2 - hp.2.2) (by omega) (by omega) (by omega)
        have hst : st.map (rz_mv G b0) = (((st.take (rz_np k2)).reverse).map (rz_mv G b0)).reverse ++ (st.drop (rz_np k2)).map (rz_mv G b0) := rz_split
        have hrest : (st.drop (rz_np k2)).all rz_val = true := List.all_eq_true.mpr fun v hv => hal v (List.mem_of_mem_drop hv)
        have hst1 : (Cond.static (rz_Y k2)).before args s = true := hts _ (rz_mem ((rz_okM k2 hk2).1 hkd) rfl)
        refine rz_sized (fun hsz => ?_)
        refine rz_back (mc := hp1.2.1 - hp.2.1) (ms := hp1.2.2 - hp.2.2) (r := r1) (hp' := hp1) (rest := (st.drop (rz_np k2)).map (rz_mv G b0)) (va_runS (As := ((st.take (rz_np k2)).reverse).map (rz_mv G b0)) ⟨hx, hb, hml, hown, hts⟩ hMt ⟨rz_cb hts hk2 (hts _ (rz_in hw rfl)) (by omega) (by omega), hst1⟩ ⟨rz_pc_blind, fun U hU hWm => ⟨rfl, by rw [hU]; exact rz_size hW hS hb0 (by omega), by rw [hU]; exact hW, rz_env.warm hWm hE, rz_xs.warm hWm hU hS hXs⟩⟩ rfl (by simp; omega) hl.1.2.2.1 hst (lv_room (by rw [rz_cats hrest]; exact hlen.1)) hdec ⟨by omega, by omega⟩) hS (fun H1 locs1 gP gS => ?_)
        have e8 : (r1.map (rz_mv G b0)).toList ++ (st.drop (rz_np k2)).map (rz_mv G b0) = (r1.toList ++ st.drop (rz_np k2)).map (rz_mv G b0) := by cases r1 <;> simp
        rw [e8]
        exact nx g1 gP gS (by omega) (by omega) (by omega) hl
      · next k2 ek =>
        obtain ⟨hnp, hall, hlen, -, hd0, hk2, h⟩ := h
        obtain ⟨hw, -, hkd, -⟩ := rz_calls (rz_lk ek)
        have hkd : rz_kd k2 = 1 := by rcases hkd with q | q | q; exact absurd q (by dsimp only; exact fun q9 => rz_kd3 k2 hk2 q9); exact absurd q (by dsimp only; omega); exact q.2
        have hal := rz_onces hall
        have hargs : ∀ v ∈ (st.take (rz_np k2)).reverse, rz_val v = true := fun v hv => hal v (List.mem_of_mem_take (List.mem_reverse.mp hv))
        have hy := rz_okY k2 (Nat.lt_succ_of_lt hk2)
        obtain ⟨r1, hp1, g1, m1, m2, g4⟩ := rz_go_one _ _ _ _ _ _ _ _ h
        obtain ⟨r9, h9, ⟨-, e9⟩, n1, n2, -⟩ := rz_go_one _ _ _ _ _ _ _ _ g1
        have n1 : hp1.2.1 ≤ hp'.2.1 := by rw [← e9]; exact n1
        have n2 : hp1.2.2 ≤ hp'.2.2 := by rw [← e9]; exact n2
        have hMt := rz_met ih (g4 (fun r1' h1' => r1' = r1 ∧ h1' = hp1) ⟨rfl, rfl⟩) hk2 hargs hlen.2.1 hlen.2.2 l G b0 (hp1.2.1 - hp.2.1) (hp1.2.2 - hp.2.2) (by omega) (by omega) (by omega)
        have hst : st.map (rz_mv G b0) = (((st.take (rz_np k2)).reverse).map (rz_mv G b0)).reverse ++ (st.drop (rz_np k2)).map (rz_mv G b0) := rz_split
        have hrest : (st.drop (rz_np k2)).all rz_val = true := List.all_eq_true.mpr fun v hv => hal v (List.mem_of_mem_drop hv)
        have hst1 : (Cond.static (rz_Y k2)).before args s = true := hts _ (rz_mem ((rz_okM k2 hk2).1 hkd) rfl)
        refine rz_sized (fun hsz => ?_)
        refine rz_back (mc := hp1.2.1 - hp.2.1) (ms := hp1.2.2 - hp.2.2) (r := r1) (hp' := hp1) (rest := (st.drop (rz_np k2)).map (rz_mv G b0)) (va_runSN (As := ((st.take (rz_np k2)).reverse).map (rz_mv G b0)) ⟨hx, hb, hml, hown, hts⟩ hMt ⟨rz_cbN hts hk2 (hE.2.1 _ (rz_lk ek) rfl) (by omega) (by omega), hst1, trivial⟩ ⟨rz_pc_blind, fun U hU hWm => ⟨rfl, by rw [hU]; exact rz_size hW hS hb0 (by omega), by rw [hU]; exact hW, rz_env.warm hWm hE, rz_xs.warm hWm hU hS hXs⟩⟩ rfl (by simp; omega) hl.1.2.2.1 hst (lv_room (by rw [rz_cats hrest]; exact hlen.1)) hdec ⟨by omega, by omega⟩) hS (fun H1 locs1 gP gS => ?_)
        have e8 : (r1.map (rz_mv G b0)).toList ++ (st.drop (rz_np k2)).map (rz_mv G b0) = (r1.toList ++ st.drop (rz_np k2)).map (rz_mv G b0) := by cases r1 <;> simp
        rw [e8]
        exact nx g1 gP gS (by omega) (by omega) (by omega) hl
      · next k2 ek =>
        unfold rz_cpS at h
        split at h
        · next n9 dp a sp a0 rest =>
          obtain ⟨hrest, hlen, hd0, n0, f, n1, g, ha0, ha1, q1, q2, q3, q4, q5, h⟩ := h
          obtain ⟨hw, -, -, -⟩ := rz_calls (rz_lk ek)
          obtain ⟨hl0, he0⟩ := rz_av_of ha0
          obtain ⟨hl1, he1⟩ := rz_av_of ha1
          have hget0 := rz_ws_get G b0 hl0
          rw [he0] at hget0
          have hget1 := rz_ws_get G b0 hl1
          rw [he1] at hget1
          refine va_copyi hx hb (by rw [hml]; exact hl.1.2.2.1.symm) hown (hts _ (rz_in hw rfl)) (hts _ (rz_in rz_w1 rfl)) (hts _ (rz_in rz_w2 rfl)) (hts _ (rz_in rz_w3 rfl)) hK hP hD hS a0 a 0 0 (c0 := G.2.1) (c1 := G.2.1) (n0 := n0) (n1 := n1) (f := f) (g := g) (ty := .int) hget0 hget1 rfl rfl rfl q1 q2 q3 q4 q5 (fun i hi => rfl) (by omega) (by rw [rz_cats hrest]; show rz_cs rest + (7 + 11) ≤ _; omega) hdec (fun H1 locs1 gP gD gS => ?_)
          have e9 := rz_pa_cv (G := G) (b0 := b0) (g := va_cpy f g sp.toNatClampNeg dp.toNatClampNeg n9.toNatClampNeg) hl1 he1
          exact nx h ⟨by rw [← e9]; exact gP, rz_sp_set hC hl1 (by omega)⟩ gS hN h1 h2 hl
        · exact h.elim
      · next k2 ek =>
        obtain ⟨x, y, s2, rfl, ⟨hrest, hlen, hd0, h⟩, -⟩ := rz_i2_w h
        obtain ⟨hw, -, -, -⟩ := rz_calls (rz_lk ek)
        exact va_mmin hx hb (by rw [hml]; exact hl.1.2.2.1.symm) hown (hts _ (rz_in hw rfl)) (hts _ (rz_in rz_w5.1 rfl)) (hts _ (rz_in rz_w4 rfl)) (hts _ (rz_in rz_w5.2 rfl)) (by omega) (by rw [rz_cats hrest]; omega) (by omega) (by omega) hdec (nx h hW hS hN h1 h2 hl)
      · next k2 ek =>
        obtain ⟨x, y, s2, rfl, ⟨hrest, hlen, hd0, h⟩, -⟩ := rz_i2_w h
        obtain ⟨hw, -, -, -⟩ := rz_calls (rz_lk ek)
        exact va_mmax hx hb (by rw [hml]; exact hl.1.2.2.1.symm) hown (hts _ (rz_in hw rfl)) (hts _ (rz_in rz_w6.1 rfl)) (hts _ (rz_in rz_w4 rfl)) (hts _ (rz_in rz_w6.2 rfl)) (by omega) (by rw [rz_cats hrest]; omega) (by omega) (by omega) hdec (nx h hW hS hN h1 h2 hl)
      · exact h.elim
    | ireturn =>
      obtain ⟨rfl, h⟩ := h
      unfold rz_iret at h
      split at h
      · next v =>
        split at h
        · next er =>
          obtain ⟨rfl, rfl⟩ := h
          have e1 : cells = mc := by omega
          have e2 : slots = ms := by omega
          subst e1; subst e2
          exact W.iret (v := v) hx hb (hret.trans er) (fun t ht hWm => ⟨⟨rfl, by rw [ht]; exact hW⟩, hS.F ht⟩) hS.2.2 hdec hlocks
        · next er =>
          obtain ⟨hv, rfl, rfl⟩ := h
          have e1 : cells = mc := by omega
          have e2 : slots = ms := by omega
          subst e1; subst e2
          exact W.zret (v := v) hx hb (hret.trans er) (by rcases hv with rfl | rfl <;> rfl) (fun t ht hWm => ⟨⟨rfl, by rw [ht]; exact hW⟩, hS.F ht⟩) hS.2.2 hdec hlocks
        · exact h.elim
      · exact h.elim
    | areturn =>
      obtain ⟨rfl, h⟩ := h
      unfold rz_aret at h
      split at h
      · obtain ⟨h9, rfl, rfl⟩ := h
        have e1 : cells = mc := by omega
        have e2 : slots = ms := by omega
        subst e1; subst e2
        unfold rz_arT at h9
        split at h9
        · next n9 er => exact W.aret hx hb (hret.trans er) (Or.inl ⟨n9, rfl⟩) (Or.inr ⟨_, rfl⟩) (fun t ht hWm => ⟨⟨rfl, by rw [ht]; exact hW⟩, hS.F ht⟩) hS.2.2 hdec hlocks
        · exact h9.elim
      · obtain ⟨h9, rfl, rfl⟩ := h
        have e1 : cells = mc := by omega
        have e2 : slots = ms := by omega
        subst e1; subst e2
        unfold rz_arT at h9
        split at h9
        · next n9 er => exact W.aret hx hb (hret.trans er) (Or.inl ⟨n9, rfl⟩) (Or.inl rfl) (fun t ht hWm => ⟨⟨rfl, by rw [ht]; exact hW⟩, hS.F ht⟩) hS.2.2 hdec hlocks
        · exact h9.elim
      · exact h.elim
    | return_ =>
      obtain ⟨rfl, rfl, er, rfl, rfl⟩ := h
      have e1 : cells = mc := by omega
      have e2 : slots = ms := by omega
      subst e1; subst e2
      exact W.vret hx hb (hret.trans er) (fun t ht hWm => ⟨⟨rfl, by rw [ht]; exact hW⟩, hS.F ht⟩) hS.2.2 hdec hlocks
    | _ => exact False.elim h
