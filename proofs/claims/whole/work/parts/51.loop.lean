/-! the law's loop -/
section LWE
variable {p : Program} {l : Launch} {e : Env} {s : State} {m : MethodId} {b L : Nat} {xs : Nat → Int32} {below : List Frame} {meth : Method} {c : Code} {cells slots : Nat} {G : rz_G} {b0 : Nat}
set_option maxHeartbeats 4000000 in
set_option maxRecDepth 100000 in
theorem lw_body {Q : State → Prop} {i B : Nat} {H : Heap} {locs : List Loc} {hp : rz_Hp} {ls : Array Slot} (F : lw_fx p s m b meth c) (hX : va_X b L xs s s.heap) (hbl : b < s.heap.size) (hb0 : b0 = s.heap.size) (hE : rz_env G s) (hP : rz_wd G b0 hp H) (hS : va_S (rz_A b0) s.heap H locs) (hl : lv_has ls 4 [(3, .int (nI i)), (2, .ref (b0 + 115)), (1, .ref (b0 + 0)), (0, .ref b)]) (hi : i + 3 < L) (hL : L ≤ 2048) (hJ : rz_JN B hp) (hB : B < 2 ^ 27) (hsz : s.heap.size + cells = b0 + hp.2.1) (hc1 : cells ≤ room_1.cells) (hc2 : slots ≤ room_1.slots) (kk : ∀ (H1 : Heap) (locs1 : List Loc) (hp1 : rz_Hp), rz_wd G b0 hp1 H1 → va_S (rz_A b0) s.heap H1 locs1 → rz_JN (B + 2000) hp1 → hp1.2 = hp.2 → W p l e room_1 s m #[Value.ref b] below meth c H1 locs1 cells slots Q (F0 m 738 ls [])) : W p l e room_1 s m #[Value.ref b] below meth c H locs cells slots Q (F0 m 26 ls []) := by
  obtain ⟨hx, hb, -⟩ := id F
  refine lv_aload_n hx hb (show decode code 26 = .ok (.aload_n 0, 1) by decide +kernel) rfl (lv_at hl 3 rfl) ?_
  refine lv_iload_n hx hb (show decode code 27 = .ok (.iload_n 3, 1) by decide +kernel) rfl (lv_at hl 0 rfl) ?_
  refine va_sld (A := rz_A b0) hx hb hX hbl (by show ¬ b0 ≤ b; omega) hS (vp_in_nI (by omega) (by omega)) (show decode code 28 = .ok (.iaload, 1) by decide +kernel) ?_
  refine lv_bipush (v := 31) hx hb (show decode code 29 = .ok (.bipush 31, 2) by decide +kernel) (by decide) ?_
  refine lv_iand hx hb (show decode code 31 = .ok (.iand, 1) by decide +kernel) ?_
  obtain ⟨j, hj, ej⟩ := pk_andE (xs (nI i).toNatClampNeg) (m := 31) 5 (by decide)
  rw [ej]
  have hdec : decode code 32 = .ok (.tableswitch 706 0 23 #[112, 145, 158, 181, 214, 237, 280, 313, 338, 351, 364, 387, 400, 413, 426, 459, 492, 515, 538, 551, 584, 617, 650, 683], 112) := by decide +kernel
  by_cases hj24 : j < 24
  · have hjs : j = 0 ∨ j = 1 ∨ j = 2 ∨ j = 3 ∨ j = 4 ∨ j = 5 ∨ j = 6 ∨ j = 7 ∨ j = 8 ∨ j = 9 ∨ j = 10 ∨ j = 11 ∨ j = 12 ∨ j = 13 ∨ j = 14 ∨ j = 15 ∨ j = 16 ∨ j = 17 ∨ j = 18 ∨ j = 19 ∨ j = 20 ∨ j = 21 ∨ j = 22 ∨ j = 23 := by omega
    rcases hjs with rfl | rfl | rfl | rfl | rfl | rfl | rfl | rfl | rfl | rfl | rfl | rfl | rfl | rfl | rfl | rfl | rfl | rfl | rfl | rfl | rfl | rfl | rfl | rfl
    · refine lv_tableIn (off := 112) (tgt := 144) hx hb hdec (by decide) (by decide) (by decide) rfl ?_
      exact lw_case0 F hX hbl hb0 hE hP hS hl hi hL hJ hB hsz hc1 hc2 kk
    · refine lv_tableIn (off := 145) (tgt := 177) hx hb hdec (by decide) (by decide) (by decide) rfl ?_
      exact lw_case1 F hX hbl hb0 hE hP hS hl hi hL hJ hB hsz hc1 hc2 kk
    · refine lv_tableIn (off := 158) (tgt := 190) hx hb hdec (by decide) (by decide) (by decide) rfl ?_
      exact lw_case2 F hX hbl hb0 hE hP hS hl hi hL hJ hB hsz hc1 hc2 kk
    · refine lv_tableIn (off := 181) (tgt := 213) hx hb hdec (by decide) (by decide) (by decide) rfl ?_
      exact lw_case3 F hX hbl hb0 hE hP hS hl hi hL hJ hB hsz hc1 hc2 kk
    · refine lv_tableIn (off := 214) (tgt := 246) hx hb hdec (by decide) (by decide) (by decide) rfl ?_
      exact lw_case4 F hX hbl hb0 hE hP hS hl hi hL hJ hB hsz hc1 hc2 kk
    · refine lv_tableIn (off := 237) (tgt := 269) hx hb hdec (by decide) (by decide) (by decide) rfl ?_
      exact lw_case5 F hX hbl hb0 hE hP hS hl hi hL hJ hB hsz hc1 hc2 kk
    · refine lv_tableIn (off := 280) (tgt := 312) hx hb hdec (by decide) (by decide) (by decide) rfl ?_
      exact lw_case6 F hX hbl hb0 hE hP hS hl hi hL hJ hB hsz hc1 hc2 kk
    · refine lv_tableIn (off := 313) (tgt := 345) hx hb hdec (by decide) (by decide) (by decide) rfl ?_
      exact lw_case7 F hX hbl hb0 hE hP hS hl hi hL hJ hB hsz hc1 hc2 kk
    · refine lv_tableIn (off := 338) (tgt := 370) hx hb hdec (by decide) (by decide) (by decide) rfl ?_
      exact lw_case8 F hX hbl hb0 hE hP hS hl hi hL hJ hB hsz hc1 hc2 kk
    · refine lv_tableIn (off := 351) (tgt := 383) hx hb hdec (by decide) (by decide) (by decide) rfl ?_
      exact lw_case9 F hX hbl hb0 hE hP hS hl hi hL hJ hB hsz hc1 hc2 kk
    · refine lv_tableIn (off := 364) (tgt := 396) hx hb hdec (by decide) (by decide) (by decide) rfl ?_
      exact lw_case10 F hX hbl hb0 hE hP hS hl hi hL hJ hB hsz hc1 hc2 kk
    · refine lv_tableIn (off := 387) (tgt := 419) hx hb hdec (by decide) (by decide) (by decide) rfl ?_
      exact lw_case11 F hX hbl hb0 hE hP hS hl hi hL hJ hB hsz hc1 hc2 kk
    · refine lv_tableIn (off := 400) (tgt := 432) hx hb hdec (by decide) (by decide) (by decide) rfl ?_
      exact lw_case12 F hX hbl hb0 hE hP hS hl hi hL hJ hB hsz hc1 hc2 kk
    · refine lv_tableIn (off := 413) (tgt := 445) hx hb hdec (by decide) (by decide) (by decide) rfl ?_
      exact lw_case13 F hX hbl hb0 hE hP hS hl hi hL hJ hB hsz hc1 hc2 kk
    · refine lv_tableIn (off := 426) (tgt := 458) hx hb hdec (by decide) (by decide) (by decide) rfl ?_
      exact lw_case14 F hX hbl hb0 hE hP hS hl hi hL hJ hB hsz hc1 hc2 kk
    · refine lv_tableIn (off := 459) (tgt := 491) hx hb hdec (by decide) (by decide) (by decide) rfl ?_
      exact lw_case15 F hX hbl hb0 hE hP hS hl hi hL hJ hB hsz hc1 hc2 kk
    · refine lv_tableIn (off := 492) (tgt := 524) hx hb hdec (by decide) (by decide) (by decide) rfl ?_
      exact lw_case16 F hX hbl hb0 hE hP hS hl hi hL hJ hB hsz hc1 hc2 kk
    · refine lv_tableIn (off := 515) (tgt := 547) hx hb hdec (by decide) (by decide) (by decide) rfl ?_
      exact lw_case17 F hX hbl hb0 hE hP hS hl hi hL hJ hB hsz hc1 hc2 kk
    · refine lv_tableIn (off := 538) (tgt := 570) hx hb hdec (by decide) (by decide) (by decide) rfl ?_
      exact lw_case18 F hX hbl hb0 hE hP hS hl hi hL hJ hB hsz hc1 hc2 kk
    · refine lv_tableIn (off := 551) (tgt := 583) hx hb hdec (by decide) (by decide) (by decide) rfl ?_
      exact lw_case19 F hX hbl hb0 hE hP hS hl hi hL hJ hB hsz hc1 hc2 kk
    · refine lv_tableIn (off := 584) (tgt := 616) hx hb hdec (by decide) (by decide) (by decide) rfl ?_
      exact lw_case20 F hX hbl hb0 hE hP hS hl hi hL hJ hB hsz hc1 hc2 kk
    · refine lv_tableIn (off := 617) (tgt := 649) hx hb hdec (by decide) (by decide) (by decide) rfl ?_
      exact lw_case21 F hX hbl hb0 hE hP hS hl hi hL hJ hB hsz hc1 hc2 kk
    · refine lv_tableIn (off := 650) (tgt := 682) hx hb hdec (by decide) (by decide) (by decide) rfl ?_
      exact lw_case22 F hX hbl hb0 hE hP hS hl hi hL hJ hB hsz hc1 hc2 kk
    · refine lv_tableIn (off := 683) (tgt := 715) hx hb hdec (by decide) (by decide) (by decide) rfl ?_
      exact lw_case23 F hX hbl hb0 hE hP hS hl hi hL hJ hB hsz hc1 hc2 kk
  · refine lv_tableOut (tgt := 738) hx hb hdec (Or.inr (by rw [nI_toInt (by omega)]; omega)) rfl ?_
    exact kk H locs hp hP hS (hJ.mono (by omega)) rfl
end LWE
