/-! A RisingPiles object as the law sees it: what it holds now and in the snapshot, its history, text, refusal; the states are such as calls lead to. -/
def rz_OJ (o : Nat) (nw sn : rz_AS) (hist : List rz_AS) (tx : List Int32) (tk ro re : Int32) (hp : rz_Hp) : Prop := (∃ bf os pl ss, rz_RP o nw bf sn hist tx os pl ss tk ro re hp) ∧ rz_IW nw ∧ rz_IW sn ∧ ∀ s ∈ hist, rz_IW s
theorem rz_OJ.co {o : Nat} {nw sn : rz_AS} {hist : List rz_AS} {tx : List Int32} {tk ro re : Int32} {hp : rz_Hp} (h : rz_OJ o nw sn hist tx tk ro re hp) : rz_co hp o = some 8 := by
  obtain ⟨⟨bf, os, pl, ss, h⟩, -⟩ := h
  exact (rz_RP_cos h).1
theorem rz_OJ.sm {o lo hi : Nat} {nw sn : rz_AS} {hist : List rz_AS} {tx : List Int32} {tk ro re : Int32} {hp h1 : rz_Hp} (h : rz_OJ o nw sn hist tx tk ro re hp) (s : rz_sm lo hi hp h1) (hd : o + 115 ≤ lo ∨ hi ≤ o) : rz_OJ o nw sn hist tx tk ro re h1 := by
  obtain ⟨⟨bf, os, pl, ss, h⟩, h2⟩ := h
  exact ⟨⟨bf, os, pl, ss, rz_RP_sm h s hd⟩, h2⟩
theorem rz_rec_mem {hist : List rz_AS} {s x : rz_AS} (h : x ∈ rz_rec hist s) : x ∈ hist ∨ x = s := by
  unfold rz_rec at h
  rcases List.mem_append.mp h with h | h
  · split at h
    · exact Or.inl h
    · exact Or.inl (List.mem_of_mem_tail h)
  · exact Or.inr (List.mem_singleton.mp h)
theorem rz_rec_IW {hist : List rz_AS} {s : rz_AS} (h : ∀ x ∈ hist, rz_IW x) (hs : rz_IW s) : ∀ x ∈ rz_rec hist s, rz_IW x := fun x hx => by
  rcases rz_rec_mem hx with q | q
  · exact h x q
  · rw [q]; exact hs
theorem rz_hs_IW {hist : List rz_AS} {s : rz_AS} {r : Int32} (h : ∀ x ∈ hist, rz_IW x) (hs : rz_IW s) : ∀ x ∈ rz_hs r s hist, rz_IW x := by
  unfold rz_hs
  split
  · exact h
  · exact rz_rec_IW h hs
section RZQ
variable {d o : Nat} {nw sn : rz_AS} {hist : List rz_AS} {tx : List Int32} {tk ro re : Int32} {hp : rz_Hp} {R : Option Value → rz_Hp → Prop}
theorem q_comeIn {key val : Int32} (h : rz_OJ o nw sn hist tx tk ro re hp) (kk : ∀ hp', rz_OJ o (rz_in_ nw key val).2 sn (rz_hs (rz_in_ nw key val).1 nw hist) tx tk ro re hp' → rz_sm o (o + 115) hp hp' → R (some (.int (rz_in_ nw key val).1)) hp') : rz_ev (d + 6) 88 0 [some (.ref o), some (.int key), some (.int val)] [] hp R := by
  obtain ⟨⟨bf, os, pl, ss, h⟩, h1, h2, h3⟩ := h
  exact c_C_comeIn h1.1.I0 h (fun hp' k s => kk hp' ⟨⟨_, _, _, _, k⟩, rz_IW_in h1, h2, rz_hs_IW h3 h1⟩ s)
theorem q_comeOut (h : rz_OJ o nw sn hist tx tk ro re hp) (kk : ∀ hp', rz_OJ o (rz_out_ nw).2 sn (rz_hs (rz_out_ nw).1 nw hist) tx tk ro re hp' → rz_sm o (o + 115) hp hp' → R (some (.int (rz_out_ nw).1)) hp') : rz_ev (d + 6) 89 0 [some (.ref o)] [] hp R := by
  obtain ⟨⟨bf, os, pl, ss, h⟩, h1, h2, h3⟩ := h
  exact c_C_comeOut h1.1.I0 h (fun hp' k s => kk hp' ⟨⟨_, _, _, _, k⟩, rz_IW_out h1, h2, rz_hs_IW h3 h1⟩ s)
theorem q_comeOutUpTo {key : Int32} (h : rz_OJ o nw sn hist tx tk ro re hp) (kk : ∀ hp', rz_OJ o (rz_upto_ nw key).2 sn (rz_hs (rz_upto_ nw key).1 nw hist) tx tk ro re hp' → rz_sm o (o + 115) hp hp' → R (some (.int (rz_upto_ nw key).1)) hp') : rz_ev (d + 6) 90 0 [some (.ref o), some (.int key)] [] hp R := by
  obtain ⟨⟨bf, os, pl, ss, h⟩, h1, h2, h3⟩ := h
  exact c_C_comeOutUpTo h1.1.I0 h (fun hp' k s => kk hp' ⟨⟨_, _, _, _, k⟩, rz_IW_upto h1, h2, rz_hs_IW h3 h1⟩ s)
theorem q_less {n key : Int32} (h : rz_OJ o nw sn hist tx tk ro re hp) (kk : ∀ hp', rz_OJ o (rz_less_ nw n key).2 sn (rz_hs (rz_less_ nw n key).1 nw hist) tx tk ro re hp' → rz_sm o (o + 115) hp hp' → R (some (.int (rz_less_ nw n key).1)) hp') : rz_ev (d + 6) 91 0 [some (.ref o), some (.int n), some (.int key)] [] hp R := by
  obtain ⟨⟨bf, os, pl, ss, h⟩, h1, h2, h3⟩ := h
  exact c_C_less h1.1.I0 h (fun hp' k s => kk hp' ⟨⟨_, _, _, _, k⟩, rz_IW_less h1, h2, rz_hs_IW h3 h1⟩ s)
theorem q_takeBack {n : Int32} (h : rz_OJ o nw sn hist tx tk ro re hp) (kk : ∀ hp', rz_OJ o (rz_back_ nw n).2 sn (rz_hs (rz_back_ nw n).1 nw hist) tx tk ro re hp' → rz_sm o (o + 115) hp hp' → R (some (.int (rz_back_ nw n).1)) hp') : rz_ev (d + 6) 92 0 [some (.ref o), some (.int n)] [] hp R := by
  obtain ⟨⟨bf, os, pl, ss, h⟩, h1, h2, h3⟩ := h
  exact c_C_takeBack h1.1.I0 h (fun hp' k s => kk hp' ⟨⟨_, _, _, _, k⟩, rz_IW_back h1, h2, rz_hs_IW h3 h1⟩ s)
theorem q_road {x y len : Int32} (h : rz_OJ o nw sn hist tx tk ro re hp) (kk : ∀ hp', rz_OJ o (rz_road_ nw x y len).2 sn (rz_hs (rz_road_ nw x y len).1 nw hist) tx tk ro re hp' → rz_sm o (o + 115) hp hp' → R (some (.int (rz_road_ nw x y len).1)) hp') : rz_ev (d + 6) 93 0 [some (.ref o), some (.int x), some (.int y), some (.int len)] [] hp R := by
  obtain ⟨⟨bf, os, pl, ss, h⟩, h1, h2, h3⟩ := h
  exact c_C_road h (fun hp' k s => kk hp' ⟨⟨_, _, _, _, k⟩, rz_IW_road h1, h2, rz_hs_IW h3 h1⟩ s)
theorem q_unroad {x y : Int32} (h : rz_OJ o nw sn hist tx tk ro re hp) (kk : ∀ hp', rz_OJ o (rz_unroad_ nw x y).2 sn (rz_hs (rz_unroad_ nw x y).1 nw hist) tx tk ro re hp' → rz_sm o (o + 115) hp hp' → R (some (.int (rz_unroad_ nw x y).1)) hp') : rz_ev (d + 6) 94 0 [some (.ref o), some (.int x), some (.int y)] [] hp R := by
  obtain ⟨⟨bf, os, pl, ss, h⟩, h1, h2, h3⟩ := h
  exact c_C_unroad h (fun hp' k s => kk hp' ⟨⟨_, _, _, _, k⟩, rz_IW_unroad h1, h2, rz_hs_IW h3 h1⟩ s)
theorem q_type {c : Int32} (hc : vp_nar .char c = c) (h : rz_OJ o nw sn hist tx tk ro re hp) (kk : ∀ hp', rz_OJ o nw sn hist (rz_type_ tx c).2 tk ro re hp' → rz_sm o (o + 115) hp hp' → R (some (.int (rz_type_ tx c).1)) hp') : rz_ev (d + 1) 95 0 [some (.ref o), some (.int c)] [] hp R := by
  obtain ⟨⟨bf, os, pl, ss, h⟩, h1⟩ := h
  exact c_C_type hc h (fun hp' k s => kk hp' ⟨⟨_, _, _, _, k⟩, h1⟩ s)
theorem q_clearText (h : rz_OJ o nw sn hist tx tk ro re hp) (kk : ∀ hp', rz_OJ o nw sn hist [] tk ro re hp' → rz_sm o (o + 115) hp hp' → R (some (.int (nI tx.length))) hp') : rz_ev (d + 1) 96 0 [some (.ref o)] [] hp R := by
  obtain ⟨⟨bf, os, pl, ss, h⟩, h1⟩ := h
  exact c_C_clearText h (fun hp' k s => kk hp' ⟨⟨_, _, _, _, k⟩, h1⟩ s)
theorem rz_IW_pw : ∀ (os : List rz_Or) (i : Nat) (s : rz_AS), rz_IW s → rz_IW (rz_pw os i s).2 := by
  intro os
  induction os with
  | nil => intro i s h; exact h
  | cons x os ih =>
    intro i s h
    unfold rz_pw
    split
    · exact h
    · exact ih _ _ (rz_IW_do h)
theorem q_perform (h : rz_OJ o nw sn hist tx tk ro re hp) (kk0 : ∀ hp' j, (rz_rt tx 30 0 []).1 = some j → rz_OJ o nw sn hist tx tk ro re hp' → rz_sm o (o + 115) hp hp' → R (some (.int (-100 - nI j))) hp')
    (kk1 : ∀ hp' nw', (rz_rt tx 30 0 []).1 = none → rz_pw (rz_rt tx 30 0 []).2 0 nw = (none, nw') → rz_OJ o nw' sn (rz_rec hist nw) tx tk ro re hp' → rz_sm o (o + 115) hp hp' → R (some (.int (nI (rz_rt tx 30 0 []).2.length))) hp')
    (kk2 : ∀ hp' i er nw', (rz_rt tx 30 0 []).1 = none → rz_pw (rz_rt tx 30 0 []).2 0 nw = (some (i, er), nw') → rz_OJ o nw sn hist tx tk (nI i) er hp' → rz_sm o (o + 115) hp hp' → R (some (.int (-4))) hp') : rz_ev (d + 6) 97 0 [some (.ref o), none, none, none] [] hp R := by
  obtain ⟨⟨bf, os, pl, ss, h⟩, h1, h2, h3⟩ := h
  exact c_C_perform h1.1.I0 h (fun hp' os' pl' j e k s => kk0 hp' j e ⟨⟨_, _, _, _, k⟩, h1, h2, h3⟩ s) (fun hp' pl' nw' e1 e2 k s => kk1 hp' nw' e1 e2 ⟨⟨_, _, _, _, k⟩, by have := rz_IW_pw (rz_rt tx 30 0 []).2 0 nw h1; rw [e2] at this; exact this, h2, rz_rec_IW h3 h1⟩ s) (fun hp' pl' i er nw' e1 e2 k s => kk2 hp' i er nw' e1 e2 ⟨⟨_, _, _, _, k⟩, h1, h2, h3⟩ s)
theorem q_refusal {what : Int32} (h : rz_OJ o nw sn hist tx tk ro re hp) : rz_ev d 98 0 [some (.ref o), some (.int what)] [] hp R ↔ R (some (.int (rz_refu what ro re))) hp := by
  obtain ⟨⟨bf, os, pl, ss, h⟩, h1⟩ := h
  exact c_C_refusal h
theorem q_undo (h : rz_OJ o nw sn hist tx tk ro re hp) (kk : ∀ hp' nw', ((hist = [] ∧ nw' = nw) ∨ hist.getLast? = some nw') → rz_OJ o nw' sn hist.dropLast tx tk ro re hp' → rz_sm o (o + 115) hp hp' → R (some (.int (if hist.length = 0 then -5 else nI (hist.length - 1)))) hp') : rz_ev (d + 5) 99 0 [some (.ref o)] [] hp R := by
  obtain ⟨⟨bf, os, pl, ss, h⟩, h1, h2, h3⟩ := h
  refine c_C_undo h (fun hp' nw' e k s => kk hp' nw' e ⟨⟨_, _, _, _, k⟩, ?_, h2, fun x hx => h3 x ((List.dropLast_sublist hist).subset hx)⟩ s)
  rcases e with ⟨-, e⟩ | e
  · rw [e]; exact h1
  · exact h3 _ (List.mem_of_getLast? e)
theorem q_keep (h : rz_OJ o nw sn hist tx tk ro re hp) (kk : ∀ hp', rz_OJ o nw nw hist tx 1 ro re hp' → rz_sm o (o + 115) hp hp' → R (some (.int (nI nw.1.length))) hp') : rz_ev (d + 4) 100 0 [some (.ref o)] [] hp R := by
  obtain ⟨⟨bf, os, pl, ss, h⟩, h1, h2, h3⟩ := h
  exact c_C_keep h (fun hp' k s => kk hp' ⟨⟨_, _, _, _, k⟩, h1, h1, h3⟩ s)
theorem q_restore (h : rz_OJ o nw sn hist tx tk ro re hp) (kk0 : tk = 0 → R (some (.int (-5))) hp) (kk : ¬ tk = 0 → ∀ hp', rz_OJ o sn sn (rz_rec hist nw) tx tk ro re hp' → rz_sm o (o + 115) hp hp' → R (some (.int (nI sn.1.length))) hp') : rz_ev (d + 6) 101 0 [some (.ref o)] [] hp R := by
  obtain ⟨⟨bf, os, pl, ss, h⟩, h1, h2, h3⟩ := h
  exact c_C_restore h kk0 (fun ht hp' k s => kk ht hp' ⟨⟨_, _, _, _, k⟩, h2, h2, rz_rec_IW h3 h1⟩ s)
theorem q_entry {n what : Int32} (h : rz_OJ o nw sn hist tx tk ro re hp) : rz_ev (d + 4) 102 0 [some (.ref o), some (.int n), some (.int what), none] [] hp R ↔ R (some (.int (rz_entry_ nw.1 n what))) hp := by
  obtain ⟨⟨bf, os, pl, ss, h⟩, h1⟩ := h
  exact c_C_entry h
theorem q_pile {p what : Int32} (h : rz_OJ o nw sn hist tx tk ro re hp) : rz_ev (d + 3) 103 0 [some (.ref o), some (.int p), some (.int what)] [] hp R ↔ R (some (.int (rz_pile_ nw.1 p what))) hp := by
  obtain ⟨⟨bf, os, pl, ss, h⟩, h1⟩ := h
  exact c_C_pile h
theorem q_next {what : Int32} (h : rz_OJ o nw sn hist tx tk ro re hp) : rz_ev (d + 4) 104 0 [some (.ref o), some (.int what), none] [] hp R ↔ R (some (.int (rz_next_ nw.1 what))) hp := by
  obtain ⟨⟨bf, os, pl, ss, h⟩, h1⟩ := h
  exact c_C_next h
theorem q_ranked {rank : Int32} (h : rz_OJ o nw sn hist tx tk ro re hp) : rz_ev (d + 4) 105 0 [some (.ref o), some (.int rank), none] [] hp R ↔ R (some (.int (rz_ranked_ nw.1 rank))) hp := by
  obtain ⟨⟨bf, os, pl, ss, h⟩, h1⟩ := h
  exact c_C_ranked h
theorem q_movesLeft (h : rz_OJ o nw sn hist tx tk ro re hp) : rz_ev (d + 3) 106 0 [some (.ref o)] [] hp R ↔ R (some (.int (rz_smp nw.1))) hp := by
  obtain ⟨⟨bf, os, pl, ss, h⟩, h1⟩ := h
  exact c_C_movesLeft h
theorem q_out {back what : Int32} (h : rz_OJ o nw sn hist tx tk ro re hp) : rz_ev (d + 1) 107 0 [some (.ref o), some (.int back), some (.int what)] [] hp R ↔ R (some (.int (rz_tell nw.2.2.2.1 back what))) hp := by
  obtain ⟨⟨bf, os, pl, ss, h⟩, h1⟩ := h
  exact c_C_out h
theorem q_roadOf {x y : Int32} (h : rz_OJ o nw sn hist tx tk ro re hp) : rz_ev (d + 2) 108 0 [some (.ref o), some (.int x), some (.int y)] [] hp R ↔ R (some (.int (rz_roadOf_ nw.2.2.2.2.1 x y))) hp := by
  obtain ⟨⟨bf, os, pl, ss, h⟩, h1⟩ := h
  exact c_C_roadOf h
theorem rz_IV.rdo {s : rz_AS} (h : rz_IV s) : rz_rdo s.2.2.2.2.1 := by
  obtain ⟨L, fl, am, lat, rd, laid, ci, co, tb⟩ := s
  exact h.2.2.1
theorem q_distance {x y : Int32} (h : rz_OJ o nw sn hist tx tk ro re hp) (kk : ∀ hp', rz_OJ o nw sn hist tx tk ro re hp' → rz_sm o (o + 115) hp hp' → R (some (.int (rz_distance_ nw.2.2.2.2.1 x y))) hp') : rz_ev (d + 6) 109 0 [some (.ref o), some (.int x), some (.int y)] [] hp R := by
  obtain ⟨⟨bf, os, pl, ss, h⟩, h1⟩ := h
  exact c_C_distance h1.1.1.rdo h (fun hp' ss' k s => kk hp' ⟨⟨_, _, _, _, k⟩, h1⟩ s)
theorem q_search {x what : Int32} (h : rz_OJ o nw sn hist tx tk ro re hp) (kk : ∀ hp', rz_OJ o nw sn hist tx tk ro re hp' → rz_sm o (o + 115) hp hp' → R (some (.int (rz_search_ nw.2.2.2.2.1 x what))) hp') : rz_ev (d + 6) 110 0 [some (.ref o), some (.int x), some (.int what)] [] hp R := by
  obtain ⟨⟨bf, os, pl, ss, h⟩, h1⟩ := h
  exact c_C_search h1.1.1.rdo h (fun hp' ss' k s => kk hp' ⟨⟨_, _, _, _, k⟩, h1⟩ s)
theorem q_count {what : Int32} (h : rz_OJ o nw sn hist tx tk ro re hp) : rz_ev (d + 4) 111 0 [some (.ref o), some (.int what)] [] hp R ↔ R (some (.int (rz_count_ nw hist.length tx.length what))) hp := by
  obtain ⟨⟨bf, os, pl, ss, h⟩, h1⟩ := h
  exact c_C_count h
theorem rz_kr0 : rz_IW rz_st0 := ⟨⟨rz_IE.nil (c := 0) (by decide) (n := 0) (by decide), Nat.zero_le _, ⟨fun i hi => Or.inl rfl, by show rz_tot (fun _ => -5) ≤ 40; decide +kernel⟩, by show (0 : Int32) = nI (rz_tot (fun _ => -5)); decide +kernel⟩, rfl⟩
theorem q_init {b : Nat} (h : rz_nw b 8 hp) (kk : ∀ hp', rz_OJ b rz_st0 rz_st0 [] [] 0 0 0 hp' → hp'.2 = (b + 115, hp.2.2 + 3167) → rz_ex b hp hp' → R none hp') : rz_ev (d + 4) 87 0 [some (.ref b)] [] hp R :=
  c_C_init h (fun hp' k e x => kk hp' ⟨⟨_, _, _, _, k⟩, rz_kr0, rz_kr0, fun _ h => absurd h List.not_mem_nil⟩ e x)
/-- bounds that the object itself gives -/
theorem rz_OJ.len (h : rz_OJ o nw sn hist tx tk ro re hp) : hist.length ≤ 4 ∧ tx.length ≤ 60 ∧ nw.2.2.2.1.length ≤ 8 := by
  obtain ⟨⟨bf, os, pl, ss, a, b, c, d1, e, f, g, i⟩, h1⟩ := h
  obtain ⟨L, fl, am, lat, rd, laid, ci, co, tb⟩ := nw
  exact ⟨e.1, f.1, b.2.2.1.1⟩
end RZQ
