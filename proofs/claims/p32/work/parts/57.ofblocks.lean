/-! what the law's rows become: blocks -/
def y_st (S : c_St) (o : Option c_St) : c_St := o.getD S
theorem y_setm {l : List Int32} {v : List Nat} {n i x : Nat} (hl : l.length = n) (hv : v.length = n) (e : ∀ k, k < n → l.getD k 0 = nI (v.getD k 0)) (hi : i < n) : ∀ k, k < n → (l.set i (nI x)).getD k 0 = nI ((v.set i x).getD k 0) := by
  intro k hk
  by_cases c : k = i
  · rw [c, y_at hl hi, g_set_at (by omega)]
  · rw [y_off (Ne.symm c), g_set_off (Ne.symm c)]; exact e k hk
section
variable {F : Nat → c_Sh} {S : c_St} {R : y_R}
theorem Ry.b {v : List Nat} {b2 : List Int32} (Y : Ry F S R) (l : b2.length = 24) (e : ∀ k, k < 24 → b2.getD k 0 = nI (v.getD k 0)) : Ry F (c_setCards S v) (y_sb R b2) := by
  obtain ⟨⟨o1, o2, o3, o4, o5, o6, o7, o8⟩, yq, yb, yp, yk⟩ := Y
  exact ⟨⟨o1, l, o3, o4, o5, o6, o7, o8⟩, yq, ⟨e, yb.2⟩, yp, yk⟩
theorem Ry.m {v : List Nat} {m2 : List Int32} (Y : Ry F S R) (l : m2.length = 24) (e : ∀ k, k < 24 → m2.getD k 0 = nI (v.getD k 0)) : Ry F (c_setBacks S v) (y_sm R m2) := by
  obtain ⟨⟨o1, o2, o3, o4, o5, o6, o7, o8⟩, yq, yb, yp, yk⟩ := Y
  exact ⟨⟨o1, o2, l, o4, o5, o6, o7, o8⟩, yq, ⟨yb.1, e, yb.2.2⟩, yp, yk⟩
theorem Ry.l {v l2 : List Int32} (Y : Ry F S R) (l : l2.length = 12) (e : ∀ j, j < 12 → l2.getD j 0 = v.getD (y_cc j) 0) : Ry F (c_setLeans S v) (y_sl R l2) := by
  obtain ⟨⟨o1, o2, o3, o4, o5, o6, o7, o8⟩, yq, yb, yp, yk⟩ := Y
  exact ⟨⟨o1, o2, o3, l, o5, o6, o7, o8⟩, yq, ⟨yb.1, yb.2.1, e⟩, yp, yk⟩
theorem Ry.s {i x : Nat} (Y : Ry F S R) (hi : i < 4) (l : (c_settings S).length = 4) : Ry F (c_setSettings S ((c_settings S).set i x)) (y_sq R ((y_q R).set i (nI x))) := by
  obtain ⟨⟨o1, o2, o3, o4, o5, o6, o7, o8⟩, yq, yb, yp, yk⟩ := Y
  have off : ∀ j, 4 ≤ j → ((y_q R).set i (nI x)).getD j 0 = (y_q R).getD j 0 := fun j hj => y_off (by omega)
  refine ⟨⟨(List.length_set ..).trans o1, o2, o3, o4, o5, o6, o7, o8⟩, ⟨fun k hk => ?_, (off 4 (by decide)).trans yq.2.1, (off 5 (by decide)).trans yq.2.2.1, (off 6 (by decide)).trans yq.2.2.2.1, (off 7 (by decide)).trans yq.2.2.2.2.1, (off 8 (by decide)).trans yq.2.2.2.2.2.1, (off 9 (by decide)).trans yq.2.2.2.2.2.2.1, (off 10 (by decide)).trans yq.2.2.2.2.2.2.2⟩, yb, yp, ⟨yk.1, fun hf => ?_⟩⟩
  · show ((y_q R).set i (nI x)).getD k 0 = nI (((c_settings S).set i x).getD k 0)
    by_cases c : k = i
    · rw [c, y_at o1 (by omega), g_set_at (by omega)]
    · rw [y_off (Ne.symm c), g_set_off (Ne.symm c)]; exact yq.1 k hk
  · obtain ⟨g1, g2, D, d1, d2, d3⟩ := yk.2 hf
    exact ⟨g1, g2, D, d1, (off 11 (by decide)).trans d2, d3⟩
end
theorem y_bswap {S : c_St} {i j : Nat} (hi : i < 24) (hj : j < 24) : b_swap S (nI i) (nI j) = if i = j then (-5, none) else (nI ((c_cards S).getD j 0), some (c_xch S i j)) := by
  rw [b_swap, if_pos ⟨g_in_yes hi (by decide), g_in_yes hj (by decide)⟩, m_cl (by omega), m_cl (by omega)]
  by_cases c : i = j
  · rw [if_pos c, if_pos (by rw [c])]
  · rw [if_neg c, if_neg (fun z => c (m_inj (by omega) (by omega) z))]
theorem y_ofB0 {d : Nat} {n : List Nat} {p i j : Nat} {F : Nat → c_Sh} {S : c_St} {e : Int32} {R : y_R} {h : m_Hp} (H : Hrw h R) (Y : Ry F S R) (t : Tok n p S) (hi : i < 24) (hj : j < 24) : ∃ r h', m_Call m_P (d + 2) 88 [.int (nI 0), .int (nI i), .int (nI j), .int e, .ref 61, .ref 62, .ref 63, .ref 64] (h) r h' ∧ (fun r h2 => r = some (.int (b_swap S (nI i) (nI j)).1) ∧ Chg 61 69 h h2 ∧ ∃ R2, Hrw h2 R2 ∧ Ry F (y_st S (b_swap S (nI i) (nI j)).2) R2) r h' := by
  refine m_call_ex (tab := tL_ofBlocks) (nL := 9) rfl rfl ?_
  obtain ⟨ok, yq, yb, yp, yk⟩ := id Y
  have lc := t.1.1
  rw [y_bswap hi hj]
  refine m_E.run 1 (pc1 := 1) (ls1 := [some _, some _, some _, some _, some _, some _, some _, some _, none]) (st1 := [_]) rfl ?_
  refine m_E.iff (by decide) rfl ?_
  refine m_E.run 2 (pc1 := 7) (ls1 := [some _, some _, some _, some _, some _, some _, some _, some _, none]) (st1 := [_, _]) rfl ?_
  refine m_E.yr H.2.1 ok.2.1 rfl (by omega) (by decide) ((yb.1 i hi)) rfl ?_
  refine m_E.run 5 (pc1 := 16) (ls1 := [some _, some _, some _, some _, some _, some _, some _, some _, some _]) (st1 := [_, _, _, _]) rfl ?_
  refine m_E.yr H.2.1 ok.2.1 rfl (by omega) (by decide) ((yb.1 j hj)) rfl ?_
  refine m_E.yb H ok rfl (by omega) rfl (fun h1 g1 c1 => ?_)
  have ok1 := ok.wb (j := i) (x := nI ((c_cards S).getD j 0))
  refine m_E.run 3 (pc1 := 23) (ls1 := [some _, some _, some _, some _, some _, some _, some _, some _, some _]) (st1 := [_, _, _]) rfl ?_
  refine m_E.yb g1 ok1 rfl (by omega) rfl (fun h2 g2 c2 => ?_)
  have ok2 := ok1.wb (j := j) (x := nI ((c_cards S).getD i 0))
  have l1 : ((y_b R).set i (nI ((c_cards S).getD j 0))).length = 24 := (List.length_set ..).trans ok.2.1
  have l2 : (((y_b R).set i (nI ((c_cards S).getD j 0))).set j (nI ((c_cards S).getD i 0))).length = 24 := (List.length_set ..).trans l1
  have e1 := y_setm (x := (c_cards S).getD j 0) ok.2.1 lc yb.1 hi
  have e2 := y_setm (x := (c_cards S).getD i 0) l1 ((List.length_set ..).trans lc) e1 hj
  refine m_E.run 2 (pc1 := 26) (ls1 := [some _, some _, some _, some _, some _, some _, some _, some _, some _]) (st1 := [_, _]) rfl ?_
  by_cases c : i = j
  · skip
    rw [if_pos c]
    refine m_E.icf (by rw [c, m_neI (by omega) (by omega)]; simp) rfl ?_
    refine m_E.run 2 (pc1 := 38) (ls1 := [some _, some _, some _, some _, some _, some _, some _, some _, some _]) (st1 := [_]) rfl ?_
    subst c
    exact m_E.iret rfl ⟨rfl, c1.tr c2, _, g2, Y.b (v := c_cards S) (R := R) l2 (fun k hk => by show (((y_b R).set i _).set i _).getD k 0 = nI ((c_cards S).getD k 0); by_cases z : k = i; rw [z, y_at l1 hi]; rw [y_off (Ne.symm z), y_off (Ne.symm z)]; exact yb.1 k hk)⟩
  · skip
    rw [if_neg c]
    refine m_E.ict ((m_neI (by omega) (by omega)).trans (decide_eq_true c)) rfl ?_
    refine m_E.run 2 (pc1 := 37) (ls1 := [some _, some _, some _, some _, some _, some _, some _, some _, some _]) (st1 := [_, _]) rfl ?_
    refine m_E.yr g2.2.1 ok2.2.1 rfl (by omega) (by decide) (((y_off (Ne.symm c)).trans (y_at ok.2.1 hi))) rfl ?_
    exact m_E.iret rfl ⟨rfl, c1.tr c2, _, g2, Y.b (R := R) l2 e2⟩
theorem y_bmark {S : c_St} {i m : Nat} {is : Bool} (hi : i < 24) (hm : m < 4) : b_mark S (nI i) (nI m) is = if ((c_backs S).getD i 0).testBit m = is then (-5, none) else (nI (g_mset ((c_backs S).getD i 0) m is), some (c_mark S i m is)) := by
  rw [b_mark, if_pos ⟨g_in_yes hi (by decide), g_in_yes hm (by decide)⟩, m_cl (by omega), m_cl (by omega)]
theorem y_mset0 : ∀ v, v < 16 → ∀ m, m < 4 → g_mset v m (v.testBit m) = v := by decide +kernel
theorem y_ofB1 {d : Nat} {n : List Nat} {p i m : Nat} {is : Bool} {F : Nat → c_Sh} {S : c_St} {e : Int32} {R : y_R} {h : m_Hp} (H : Hrw h R) (Y : Ry F S R) (t : Tok n p S) (hi : i < 24) (hm : m < 4) (he : e = m_bI is) : ∃ r h', m_Call m_P (d + 2) 88 [.int (nI 1), .int (nI i), .int (nI m), .int e, .ref 61, .ref 62, .ref 63, .ref 64] (h) r h' ∧ (fun r h2 => r = some (.int (b_mark S (nI i) (nI m) is).1) ∧ Chg 61 69 h h2 ∧ ∃ R2, Hrw h2 R2 ∧ Ry F (y_st S (b_mark S (nI i) (nI m) is).2) R2) r h' := by
  refine m_call_ex (tab := tL_ofBlocks) (nL := 9) rfl rfl ?_
  subst he
  obtain ⟨ok, yq, yb, yp, yk⟩ := id Y
  have lv := t.bck i hi
  have lb := t.1.2.2.2.1
  rw [y_bmark hi hm]
  have e1 := y_setm (x := g_mset ((c_backs S).getD i 0) m is) ok.2.2.1 lb yb.2.1 hi
  have l1 : ((y_m R).set i (nI (g_mset ((c_backs S).getD i 0) m is))).length = 24 := (List.length_set ..).trans ok.2.2.1
  have fin : ∀ h1, Hrw h1 (y_sm R ((y_m R).set i (nI (g_mset ((c_backs S).getD i 0) m is)))) → Chg 61 69 h h1 → m_E (m_Call m_P (d + 1)) tL_ofBlocks 93 [some (.int (nI 1)), some (.int (nI i)), some (.int (nI m)), some (.int (m_bI is)), some (.ref 61), some (.ref 62), some (.ref 63), some (.ref 64), some (.int (m_bI (decide (((c_backs S).getD i 0).testBit m = is))))] [] h1 (fun r h2 => r = some (.int (if ((c_backs S).getD i 0).testBit m = is then (-5, none) else (nI (g_mset ((c_backs S).getD i 0) m is), some (c_mark S i m is)) : Int32 × Option c_St).1) ∧ Chg 61 69 h h2 ∧ ∃ R2, Hrw h2 R2 ∧ Ry F (y_st S (if ((c_backs S).getD i 0).testBit m = is then (-5, none) else (nI (g_mset ((c_backs S).getD i 0) m is), some (c_mark S i m is)) : Int32 × Option c_St).2) R2) := by
    intro h1 g1 c1
    have ok1 := ok.wm (j := i) (x := nI (g_mset ((c_backs S).getD i 0) m is))
    refine m_E.run 1 (pc1 := 95) (ls1 := [some _, some _, some _, some _, some _, some _, some _, some _, some _]) (st1 := [_]) rfl ?_
    by_cases c : ((c_backs S).getD i 0).testBit m = is
    · skip
      rw [if_pos c, decide_eq_true c]
      refine m_E.iff (rfl) rfl ?_
      refine m_E.run 2 (pc1 := 107) (ls1 := [some _, some _, some _, some _, some _, some _, some _, some _, some _]) (st1 := [_]) rfl ?_
      exact m_E.iret rfl ⟨rfl, c1, _, g1, Y.m (v := c_backs S) (R := R) l1 (fun k hk => by rw [e1 k hk, ← c, y_mset0 _ lv m hm]; by_cases z : k = i; rw [z, g_set_at (by omega)]; rw [g_set_off (Ne.symm z)])⟩
    · skip
      rw [if_neg c, decide_eq_false c]
      refine m_E.ift (rfl) rfl ?_
      refine m_E.run 2 (pc1 := 106) (ls1 := [some _, some _, some _, some _, some _, some _, some _, some _, some _]) (st1 := [_, _]) rfl ?_
      refine m_E.yr g1.2.2.1 ok1.2.2.1 rfl (by omega) (by decide) ((y_at ok.2.2.1 hi)) rfl ?_
      exact m_E.iret rfl ⟨rfl, c1, _, g1, Y.m (R := R) l1 e1⟩
  refine m_E.run 1 (pc1 := 1) (ls1 := [some _, some _, some _, some _, some _, some _, some _, some _, none]) (st1 := [_]) rfl ?_
  refine m_E.ift (by decide) rfl ?_
  refine m_E.run 2 (pc1 := 41) (ls1 := [some _, some _, some _, some _, some _, some _, some _, some _, none]) (st1 := [_, _]) rfl ?_
  refine m_E.icf (by decide) rfl ?_
  refine m_E.run 2 (pc1 := 47) (ls1 := [some _, some _, some _, some _, some _, some _, some _, some _, none]) (st1 := [_, _]) rfl ?_
  refine m_E.yr H.2.2.1 ok.2.2.1 rfl (by omega) (by decide) ((yb.2.1 i hi)) rfl ?_
  refine m_E.run 5 (pc1 := 53) (ls1 := [some _, some _, some _, some _, some _, some _, some _, some _, none]) (st1 := [_, _]) rfl ?_
  dsimp only
  rw [g_bit_shr _ lv _ hm]
  have mid : ∀ b, decide (((c_backs S).getD i 0).testBit m = is) = b → m_E (m_Call m_P (d + 1)) tL_ofBlocks 61 [some (.int (nI 1)), some (.int (nI i)), some (.int (nI m)), some (.int (m_bI is)), some (.ref 61), some (.ref 62), some (.ref 63), some (.ref 64), none] [.int (m_bI b)] h (fun r h2 => r = some (.int (if ((c_backs S).getD i 0).testBit m = is then (-5, none) else (nI (g_mset ((c_backs S).getD i 0) m is), some (c_mark S i m is)) : Int32 × Option c_St).1) ∧ Chg 61 69 h h2 ∧ ∃ R2, Hrw h2 R2 ∧ Ry F (y_st S (if ((c_backs S).getD i 0).testBit m = is then (-5, none) else (nI (g_mset ((c_backs S).getD i 0) m is), some (c_mark S i m is)) : Int32 × Option c_St).2) R2) := by
    intro b hb
    subst hb
    refine m_E.run 5 (pc1 := 68) (ls1 := [some _, some _, some _, some _, some _, some _, some _, some _, some _]) (st1 := [_, _, _, _]) rfl ?_
    cases is
    · skip
      refine m_E.ict (rfl) rfl ?_
      refine m_E.run 2 (pc1 := 85) (ls1 := [some _, some _, some _, some _, some _, some _, some _, some _, some _]) (st1 := [_, _, _, _]) rfl ?_
      refine m_E.yr H.2.2.1 ok.2.2.1 rfl (by omega) (by decide) ((yb.2.1 i hi)) rfl ?_
      refine m_E.run 6 (pc1 := 92) (ls1 := [some _, some _, some _, some _, some _, some _, some _, some _, some _]) (st1 := [_, _, _]) rfl ?_
      dsimp only
      rw [(g_clr_ok _ lv m hm).1]
      refine m_E.ym H ok rfl (by omega) rfl (fun h1 g1 c1 => ?_)
      exact fin h1 g1 c1
    · skip
      refine m_E.icf (rfl) rfl ?_
      refine m_E.run 2 (pc1 := 74) (ls1 := [some _, some _, some _, some _, some _, some _, some _, some _, some _]) (st1 := [_, _, _, _]) rfl ?_
      refine m_E.yr H.2.2.1 ok.2.2.1 rfl (by omega) (by decide) ((yb.2.1 i hi)) rfl ?_
      refine m_E.run 5 (pc1 := 92) (ls1 := [some _, some _, some _, some _, some _, some _, some _, some _, some _]) (st1 := [_, _, _]) rfl ?_
      dsimp only
      rw [y_mset _ lv m hm]
      refine m_E.ym H ok rfl (by omega) rfl (fun h1 g1 c1 => ?_)
      exact fin h1 g1 c1
  by_cases c : ((c_backs S).getD i 0).testBit m = is
  · skip
    refine m_E.icf (by rw [m_bI_ne, decide_eq_true c]; rfl) rfl ?_
    refine m_E.run 2 (pc1 := 61) (ls1 := [some _, some _, some _, some _, some _, some _, some _, some _, none]) (st1 := [_]) rfl ?_
    exact mid true (decide_eq_true c)
  · skip
    refine m_E.ict (by rw [m_bI_ne, decide_eq_false c]; rfl) rfl ?_
    refine m_E.run 1 (pc1 := 61) (ls1 := [some _, some _, some _, some _, some _, some _, some _, some _, none]) (st1 := [_]) rfl ?_
    exact mid false (decide_eq_false c)
theorem y_rng19 : ∀ v, v < 19 → ¬ (nI v - nI 9 < -9 ∨ ¬ nI v - nI 9 ≤ nI 9) := by decide +kernel
theorem y_blean {S : c_St} {i v : Nat} (hi : i < 24) (hv : v < 19) : b_lean S (nI i) (nI v - nI 9) = if 3 ≤ i % 6 then (if (c_leans S).getD i 0 = nI v - nI 9 then (-5, none) else ((c_leans S).getD i 0 + nI 100, some (c_setLeans S ((c_leans S).set i (nI v - nI 9))))) else (-4, none) := by
  rw [b_lean, if_pos (g_in_yes hi (by decide)), if_neg (y_rng19 v hv), m_cl (by omega)]
theorem y_ofB2 {d : Nat} {n : List Nat} {p i v : Nat} {F : Nat → c_Sh} {S : c_St} {b : Int32} {R : y_R} {h : m_Hp} (H : Hrw h R) (Y : Ry F S R) (t : Tok n p S) (hi : i < 24) (hv : v < 19) : ∃ r h', m_Call m_P (d + 2) 88 [.int (nI 2), .int (nI i), .int b, .int (nI v), .ref 61, .ref 62, .ref 63, .ref 64] (h) r h' ∧ (fun r h2 => r = some (.int (b_lean S (nI i) (nI v - nI 9)).1) ∧ Chg 61 69 h h2 ∧ ∃ R2, Hrw h2 R2 ∧ Ry F (y_st S (b_lean S (nI i) (nI v - nI 9)).2) R2) r h' := by
  refine m_call_ex (tab := tL_ofBlocks) (nL := 9) rfl rfl ?_
  obtain ⟨ok, yq, yb, yp, yk⟩ := id Y
  have ll := t.1.2.2.1
  rw [y_blean hi hv]
  refine m_E.run 1 (pc1 := 1) (ls1 := [some _, some _, some _, some _, some _, some _, some _, some _, none]) (st1 := [_]) rfl ?_
  refine m_E.ift (by decide) rfl ?_
  refine m_E.run 2 (pc1 := 41) (ls1 := [some _, some _, some _, some _, some _, some _, some _, some _, none]) (st1 := [_, _]) rfl ?_
  refine m_E.ict (by decide) rfl ?_
  refine m_E.run 2 (pc1 := 110) (ls1 := [some _, some _, some _, some _, some _, some _, some _, some _, none]) (st1 := [_, _]) rfl ?_
  refine m_E.icf (by decide) rfl ?_
  refine m_E.run 2 (pc1 := 116) (ls1 := [some _, some _, some _, some _, some _, some _, some _, some _, none]) (st1 := [_, _]) rfl ?_
  refine m_E.div (by decide) rfl ?_
  rw [m_rem (by omega) 6 (by decide) (by decide)]
  refine m_E.run 1 (pc1 := 118) (ls1 := [some _, some _, some _, some _, some _, some _, some _, some _, none]) (st1 := [_, _]) rfl ?_
  by_cases c : 3 ≤ i % 6
  · skip
    rw [if_pos c]
    obtain ⟨c1, c2⟩ := y_ct_ok hi c
    have e0 : (y_l R).getD (y_ct i) 0 = (c_leans S).getD i 0 := (yb.2.2 _ c1).trans (by rw [c2])
    have l1 : ((y_l R).set (y_ct i) (nI v - nI 9)).length = 12 := (List.length_set ..).trans ok.2.2.2.1
    have e1 : ∀ j, j < 12 → ((y_l R).set (y_ct i) (nI v - nI 9)).getD j 0 = ((c_leans S).set i (nI v - nI 9)).getD (y_cc j) 0 := fun j hj => by
      by_cases z : j = y_ct i
      · rw [z, y_at ok.2.2.2.1 c1, c2, y_at ll hi]
      · rw [y_off (Ne.symm z), y_off (fun z2 => z (by rw [z2]; exact (y_cc_ok hj).2.2.symm))]; exact yb.2.2 j hj
    refine m_E.ict ((m_leI (by omega) (by omega)).trans (decide_eq_true c)) rfl ?_
    refine m_E.run 2 (pc1 := 127) (ls1 := [some _, some _, some _, some _, some _, some _, some _, some _, none]) (st1 := [_, _]) rfl ?_
    refine m_E.cv rfl rfl (y_court rfl hi c) ?_
    refine m_E.yr H.2.2.2.1 ok.2.2.2.1 rfl (by omega) (by decide) (e0) rfl ?_
    refine m_E.run 3 (pc1 := 136) (ls1 := [some _, some _, some _, some _, some _, some _, some _, some _, some _]) (st1 := [_, _]) rfl ?_
    refine m_E.cv rfl rfl (y_court rfl hi c) ?_
    refine m_E.run 3 (pc1 := 143) (ls1 := [some _, some _, some _, some _, some _, some _, some _, some _, some _]) (st1 := [_, _, _]) rfl ?_
    dsimp only
    refine m_E.yl H ok rfl (by omega) rfl (fun h1 g1 c3 => ?_)
    refine m_E.run 4 (pc1 := 150) (ls1 := [some _, some _, some _, some _, some _, some _, some _, some _, some _]) (st1 := [_, _]) rfl ?_
    dsimp only
    by_cases z : (c_leans S).getD i 0 = nI v - nI 9
    · skip
      rw [if_pos z]
      refine m_E.icf (by rw [z]; simp) rfl ?_
      refine m_E.run 2 (pc1 := 163) (ls1 := [some _, some _, some _, some _, some _, some _, some _, some _, some _]) (st1 := [_]) rfl ?_
      exact m_E.iret rfl ⟨rfl, c3, _, g1, Y.l (v := c_leans S) (R := R) l1 (fun j hj => by rw [e1 j hj, ← z]; by_cases q : y_cc j = i; rw [q, y_at ll hi]; rw [y_off (Ne.symm q)])⟩
    · skip
      rw [if_neg z]
      refine m_E.ict (by rw [Bool.not_eq_true', beq_eq_false_iff_ne]; exact z) rfl ?_
      refine m_E.run 3 (pc1 := 163) (ls1 := [some _, some _, some _, some _, some _, some _, some _, some _, some _]) (st1 := [_]) rfl ?_
      dsimp only
      exact m_E.iret rfl ⟨rfl, c3, _, g1, Y.l (R := R) l1 e1⟩
  · skip
    rw [if_neg c]
    refine m_E.icf ((m_leI (by omega) (by omega)).trans (decide_eq_false c)) rfl ?_
    refine m_E.run 1 (pc1 := 123) (ls1 := [some _, some _, some _, some _, some _, some _, some _, some _, none]) (st1 := [_]) rfl ?_
    exact m_E.iret rfl ⟨rfl, Chg.rf, _, H, Y⟩
theorem y_bset {S : c_St} {i v : Nat} (hi : i < 4) (h1 : b_least i ≤ v) (h2 : v ≤ b_most i) (hs : (c_settings S).getD i 0 < 100) : b_set S (nI i) (nI v) = if (c_settings S).getD i 0 = v then (-5, none) else (nI ((c_settings S).getD i 0), some (c_setSettings S ((c_settings S).set i v))) := by
  obtain ⟨b1, b2, _⟩ := b_bounds i hi
  rw [b_set, m_cl (by omega), m_cl (by omega), if_pos ⟨g_in_yes hi (by decide), fun z => by rw [m_ge b1 (by omega)] at z; omega, (m_le' b2 (by omega)).mpr h2⟩]
  by_cases c : (c_settings S).getD i 0 = v
  · rw [if_pos c, if_pos (by rw [c])]
  · rw [if_neg c, if_neg (fun z => c (m_inj (by omega) (by omega) z))]
theorem y_ofB3 {d : Nat} {n : List Nat} {p i v : Nat} {F : Nat → c_Sh} {S : c_St} {e : Int32} {R : y_R} {h : m_Hp} (H : Hrw h R) (Y : Ry F S R) (t : Tok n p S) (hi : i < 4) (v1 : b_least i ≤ v) (v2 : v ≤ b_most i) : ∃ r h', m_Call m_P (d + 2) 88 [.int (nI 3), .int (nI i), .int (nI v), .int e, .ref 61, .ref 62, .ref 63, .ref 64] (h) r h' ∧ (fun r h2 => r = some (.int (b_set S (nI i) (nI v)).1) ∧ Chg 61 69 h h2 ∧ ∃ R2, Hrw h2 R2 ∧ Ry F (y_st S (b_set S (nI i) (nI v)).2) R2) r h' := by
  refine m_call_ex (tab := tL_ofBlocks) (nL := 9) rfl rfl ?_
  obtain ⟨ok, yq, yb, yp, yk⟩ := id Y
  have ls := t.1.2.2.2.2.2.1
  have hs := t.set_lt hi
  have bb := b_bounds i hi
  rw [y_bset hi v1 v2 hs]
  refine m_E.run 1 (pc1 := 1) (ls1 := [some _, some _, some _, some _, some _, some _, some _, some _, none]) (st1 := [_]) rfl ?_
  refine m_E.ift (by decide) rfl ?_
  refine m_E.run 2 (pc1 := 41) (ls1 := [some _, some _, some _, some _, some _, some _, some _, some _, none]) (st1 := [_, _]) rfl ?_
  refine m_E.ict (by decide) rfl ?_
  refine m_E.run 2 (pc1 := 110) (ls1 := [some _, some _, some _, some _, some _, some _, some _, some _, none]) (st1 := [_, _]) rfl ?_
  refine m_E.ict (by decide) rfl ?_
  refine m_E.run 2 (pc1 := 167) (ls1 := [some _, some _, some _, some _, some _, some _, some _, some _, none]) (st1 := [_, _]) rfl ?_
  refine m_E.yr H.1 ok.1 rfl (by omega) (by decide) ((yq.1 i hi)) rfl ?_
  refine m_E.run 4 (pc1 := 174) (ls1 := [some _, some _, some _, some _, some _, some _, some _, some _, some _]) (st1 := [_, _, _]) rfl ?_
  refine m_E.yq H ok rfl (by omega) rfl (fun h1 g1 c1 => ?_)
  refine m_E.run 2 (pc1 := 178) (ls1 := [some _, some _, some _, some _, some _, some _, some _, some _, some _]) (st1 := [_, _]) rfl ?_
  by_cases z : (c_settings S).getD i 0 = v
  · skip
    rw [if_pos z]
    refine m_E.icf (by rw [z, m_neI (by omega) (by omega)]; simp) rfl ?_
    refine m_E.run 2 (pc1 := 188) (ls1 := [some _, some _, some _, some _, some _, some _, some _, some _, some _]) (st1 := [_]) rfl ?_
    have Y2 := Y.s (x := v) hi ls
    rw [show c_setSettings S ((c_settings S).set i v) = S from by rw [← z, show (c_settings S).set i ((c_settings S).getD i 0) = c_settings S from m_set_self (by rw [List.getElem?_eq_getElem (by omega), List.getD_eq_getElem?_getD, List.getElem?_eq_getElem (by omega)]; rfl)]; rfl] at Y2
    exact m_E.iret rfl ⟨rfl, c1, _, g1, Y2⟩
  · skip
    rw [if_neg z]
    refine m_E.ict ((m_neI (by omega) (by omega)).trans (decide_eq_true z)) rfl ?_
    refine m_E.run 1 (pc1 := 188) (ls1 := [some _, some _, some _, some _, some _, some _, some _, some _, some _]) (st1 := [_]) rfl ?_
    exact m_E.iret rfl ⟨rfl, c1, _, g1, Y.s hi ls⟩
