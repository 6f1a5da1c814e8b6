/-! the law's rows after a call, whatever its kind -/
theorem y_nlen {h : m_Hp} {h2 : m_Hp} (c : h2.length = h.length) : ∀ k, h.length ≤ k → g_bd h2 k := fun k hk x hx => by rw [List.getElem?_eq_none (by omega)] at hx; cases hx
set_option maxRecDepth 100000 in
theorem y_rows0 {turn a b e p : Nat} {x y told : Int32} {was : Int64} {v20 : Option Value} {n : List Nat} {F F2 : Nat → c_Sh} {S S2 : c_St} {R : y_R} {h : m_Hp} {Q : Option Value → m_Hp → Prop} (H : Hrw h R) (Y : Ry F S R) (t : Tok n p S) (hl : 69 ≤ h.length) (G : Gsh n F) (GL : Gln n F) (L : Lnk (c_leans S)) (hpr : c_printed S + 1 < 2 ^ 30) (rg : y_rg 0 a b e) (ag : ∀ k, k ∈ n → g_sh F2 k = g_sh F k) (T : y_To 0 a b e F S F2 S2) (K : ∀ h2 R2, Hrw h2 R2 → Ry F2 S2 R2 → Lfr h h2 → h2.length ≤ h.length + 1 → (∀ k, h.length ≤ k → g_bd h2 k) → m_E (m_Call m_P 8) tL_law 674 [some (.ref 3), some (.ref 4), some (.ref 61), some (.ref 62), some (.ref 63), some (.ref 64), some (.ref 65), some (.ref 66), some (.ref 67), some (.ref 68), some (.int (nI turn)), some (.int x), some (.int y), some (.int (nI 0)), some (.int (nI a)), some (.int (nI b)), some (.int (nI e)), some (.long was), none, some (.int told), some (.int (y_bk 0 a b e F S).1)] [] h2 Q) : m_E (m_Call m_P 8) tL_law 567 [some (.ref 3), some (.ref 4), some (.ref 61), some (.ref 62), some (.ref 63), some (.ref 64), some (.ref 65), some (.ref 66), some (.ref 67), some (.ref 68), some (.int (nI turn)), some (.int x), some (.int y), some (.int (nI 0)), some (.int (nI a)), some (.int (nI b)), some (.int (nI e)), some (.long was), none, some (.int told), v20] [] h Q := by
  obtain ⟨r0, r1, r2, r3, r4, r5, r6, r7, r8, r9, r10⟩ := rg
  rw [y_To, if_neg (fun z => by omega)] at T
  obtain ⟨rfl, rfl⟩ := T
  obtain ⟨_, h2, p2, rfl, c2, R2, g2, Y2⟩ := y_ofB0 (d := 6) (e := nI e) H Y t (r1 (by decide)) (r2 rfl)
  refine m_E.run 2 (pc1 := 570) (ls1 := [some _, some _, some _, some _, some _, some _, some _, some _, some _, some _, some _, some _, some _, some _, some _, some _, some _, some _, none, some _, _]) (st1 := [_, _]) rfl ?_
  refine m_E.icf (by decide) rfl ?_
  refine m_E.run 8 (pc1 := 587) (ls1 := [some _, some _, some _, some _, some _, some _, some _, some _, some _, some _, some _, some _, some _, some _, some _, some _, some _, some _, none, some _, _]) (st1 := [_, _, _, _, _, _, _, _]) rfl ?_
  refine m_E.cv rfl rfl (p2) ?_
  refine m_E.run 4 (pc1 := 641) (ls1 := [some _, some _, some _, some _, some _, some _, some _, some _, some _, some _, some _, some _, some _, some _, some _, some _, some _, some _, none, some _, some _]) (st1 := [_, _]) rfl ?_
  refine m_E.ict (by decide) rfl ?_
  exact K h2 R2 g2 Y2 c2.lfr (by rw [c2.1]; exact Nat.le_succ _) (y_nlen c2.1)
set_option maxRecDepth 100000 in
theorem y_rows1 {turn a b e p : Nat} {x y told : Int32} {was : Int64} {v20 : Option Value} {n : List Nat} {F F2 : Nat → c_Sh} {S S2 : c_St} {R : y_R} {h : m_Hp} {Q : Option Value → m_Hp → Prop} (H : Hrw h R) (Y : Ry F S R) (t : Tok n p S) (hl : 69 ≤ h.length) (G : Gsh n F) (GL : Gln n F) (L : Lnk (c_leans S)) (hpr : c_printed S + 1 < 2 ^ 30) (rg : y_rg 1 a b e) (ag : ∀ k, k ∈ n → g_sh F2 k = g_sh F k) (T : y_To 1 a b e F S F2 S2) (K : ∀ h2 R2, Hrw h2 R2 → Ry F2 S2 R2 → Lfr h h2 → h2.length ≤ h.length + 1 → (∀ k, h.length ≤ k → g_bd h2 k) → m_E (m_Call m_P 8) tL_law 674 [some (.ref 3), some (.ref 4), some (.ref 61), some (.ref 62), some (.ref 63), some (.ref 64), some (.ref 65), some (.ref 66), some (.ref 67), some (.ref 68), some (.int (nI turn)), some (.int x), some (.int y), some (.int (nI 1)), some (.int (nI a)), some (.int (nI b)), some (.int (nI e)), some (.long was), none, some (.int told), some (.int (y_bk 1 a b e F S).1)] [] h2 Q) : m_E (m_Call m_P 8) tL_law 567 [some (.ref 3), some (.ref 4), some (.ref 61), some (.ref 62), some (.ref 63), some (.ref 64), some (.ref 65), some (.ref 66), some (.ref 67), some (.ref 68), some (.int (nI turn)), some (.int x), some (.int y), some (.int (nI 1)), some (.int (nI a)), some (.int (nI b)), some (.int (nI e)), some (.long was), none, some (.int told), v20] [] h Q := by
  obtain ⟨r0, r1, r2, r3, r4, r5, r6, r7, r8, r9, r10⟩ := rg
  rw [y_To, if_neg (fun z => by omega)] at T
  obtain ⟨rfl, rfl⟩ := T
  obtain ⟨_, h2, p2, rfl, c2, R2, g2, Y2⟩ := y_ofB1 (d := 6) H Y t (r1 (by decide)) (r3 rfl).1 (y_e01 (r3 rfl).2)
  refine m_E.run 2 (pc1 := 570) (ls1 := [some _, some _, some _, some _, some _, some _, some _, some _, some _, some _, some _, some _, some _, some _, some _, some _, some _, some _, none, some _, _]) (st1 := [_, _]) rfl ?_
  refine m_E.icf (by decide) rfl ?_
  refine m_E.run 8 (pc1 := 587) (ls1 := [some _, some _, some _, some _, some _, some _, some _, some _, some _, some _, some _, some _, some _, some _, some _, some _, some _, some _, none, some _, _]) (st1 := [_, _, _, _, _, _, _, _]) rfl ?_
  refine m_E.cv rfl rfl (p2) ?_
  refine m_E.run 4 (pc1 := 641) (ls1 := [some _, some _, some _, some _, some _, some _, some _, some _, some _, some _, some _, some _, some _, some _, some _, some _, some _, some _, none, some _, some _]) (st1 := [_, _]) rfl ?_
  refine m_E.ict (by decide) rfl ?_
  exact K h2 R2 g2 Y2 c2.lfr (by rw [c2.1]; exact Nat.le_succ _) (y_nlen c2.1)
set_option maxRecDepth 100000 in
theorem y_rows2 {turn a b e p : Nat} {x y told : Int32} {was : Int64} {v20 : Option Value} {n : List Nat} {F F2 : Nat → c_Sh} {S S2 : c_St} {R : y_R} {h : m_Hp} {Q : Option Value → m_Hp → Prop} (H : Hrw h R) (Y : Ry F S R) (t : Tok n p S) (hl : 69 ≤ h.length) (G : Gsh n F) (GL : Gln n F) (L : Lnk (c_leans S)) (hpr : c_printed S + 1 < 2 ^ 30) (rg : y_rg 2 a b e) (ag : ∀ k, k ∈ n → g_sh F2 k = g_sh F k) (T : y_To 2 a b e F S F2 S2) (K : ∀ h2 R2, Hrw h2 R2 → Ry F2 S2 R2 → Lfr h h2 → h2.length ≤ h.length + 1 → (∀ k, h.length ≤ k → g_bd h2 k) → m_E (m_Call m_P 8) tL_law 674 [some (.ref 3), some (.ref 4), some (.ref 61), some (.ref 62), some (.ref 63), some (.ref 64), some (.ref 65), some (.ref 66), some (.ref 67), some (.ref 68), some (.int (nI turn)), some (.int x), some (.int y), some (.int (nI 2)), some (.int (nI a)), some (.int (nI b)), some (.int (nI e)), some (.long was), none, some (.int told), some (.int (y_bk 2 a b e F S).1)] [] h2 Q) : m_E (m_Call m_P 8) tL_law 567 [some (.ref 3), some (.ref 4), some (.ref 61), some (.ref 62), some (.ref 63), some (.ref 64), some (.ref 65), some (.ref 66), some (.ref 67), some (.ref 68), some (.int (nI turn)), some (.int x), some (.int y), some (.int (nI 2)), some (.int (nI a)), some (.int (nI b)), some (.int (nI e)), some (.long was), none, some (.int told), v20] [] h Q := by
  obtain ⟨r0, r1, r2, r3, r4, r5, r6, r7, r8, r9, r10⟩ := rg
  rw [y_To, if_neg (fun z => by omega)] at T
  obtain ⟨rfl, rfl⟩ := T
  obtain ⟨_, h2, p2, rfl, c2, R2, g2, Y2⟩ := y_ofB2 (d := 6) (b := nI b) H Y t (r1 (by decide)) r4
  refine m_E.run 2 (pc1 := 570) (ls1 := [some _, some _, some _, some _, some _, some _, some _, some _, some _, some _, some _, some _, some _, some _, some _, some _, some _, some _, none, some _, _]) (st1 := [_, _]) rfl ?_
  refine m_E.icf (by decide) rfl ?_
  refine m_E.run 8 (pc1 := 587) (ls1 := [some _, some _, some _, some _, some _, some _, some _, some _, some _, some _, some _, some _, some _, some _, some _, some _, some _, some _, none, some _, _]) (st1 := [_, _, _, _, _, _, _, _]) rfl ?_
  refine m_E.cv rfl rfl (p2) ?_
  refine m_E.run 4 (pc1 := 641) (ls1 := [some _, some _, some _, some _, some _, some _, some _, some _, some _, some _, some _, some _, some _, some _, some _, some _, some _, some _, none, some _, some _]) (st1 := [_, _]) rfl ?_
  refine m_E.ict (by decide) rfl ?_
  exact K h2 R2 g2 Y2 c2.lfr (by rw [c2.1]; exact Nat.le_succ _) (y_nlen c2.1)
set_option maxRecDepth 100000 in
theorem y_rows3 {turn a b e p : Nat} {x y told : Int32} {was : Int64} {v20 : Option Value} {n : List Nat} {F F2 : Nat → c_Sh} {S S2 : c_St} {R : y_R} {h : m_Hp} {Q : Option Value → m_Hp → Prop} (H : Hrw h R) (Y : Ry F S R) (t : Tok n p S) (hl : 69 ≤ h.length) (G : Gsh n F) (GL : Gln n F) (L : Lnk (c_leans S)) (hpr : c_printed S + 1 < 2 ^ 30) (rg : y_rg 3 a b e) (ag : ∀ k, k ∈ n → g_sh F2 k = g_sh F k) (T : y_To 3 a b e F S F2 S2) (K : ∀ h2 R2, Hrw h2 R2 → Ry F2 S2 R2 → Lfr h h2 → h2.length ≤ h.length + 1 → (∀ k, h.length ≤ k → g_bd h2 k) → m_E (m_Call m_P 8) tL_law 674 [some (.ref 3), some (.ref 4), some (.ref 61), some (.ref 62), some (.ref 63), some (.ref 64), some (.ref 65), some (.ref 66), some (.ref 67), some (.ref 68), some (.int (nI turn)), some (.int x), some (.int y), some (.int (nI 3)), some (.int (nI a)), some (.int (nI b)), some (.int (nI e)), some (.long was), none, some (.int told), some (.int (y_bk 3 a b e F S).1)] [] h2 Q) : m_E (m_Call m_P 8) tL_law 567 [some (.ref 3), some (.ref 4), some (.ref 61), some (.ref 62), some (.ref 63), some (.ref 64), some (.ref 65), some (.ref 66), some (.ref 67), some (.ref 68), some (.int (nI turn)), some (.int x), some (.int y), some (.int (nI 3)), some (.int (nI a)), some (.int (nI b)), some (.int (nI e)), some (.long was), none, some (.int told), v20] [] h Q := by
  obtain ⟨r0, r1, r2, r3, r4, r5, r6, r7, r8, r9, r10⟩ := rg
  rw [y_To, if_neg (fun z => by omega)] at T
  obtain ⟨rfl, rfl⟩ := T
  obtain ⟨_, h2, p2, rfl, c2, R2, g2, Y2⟩ := y_ofB3 (d := 6) (e := nI e) H Y t (r5 rfl).1 (r5 rfl).2.1 (r5 rfl).2.2
  refine m_E.run 2 (pc1 := 570) (ls1 := [some _, some _, some _, some _, some _, some _, some _, some _, some _, some _, some _, some _, some _, some _, some _, some _, some _, some _, none, some _, _]) (st1 := [_, _]) rfl ?_
  refine m_E.icf (by decide) rfl ?_
  refine m_E.run 8 (pc1 := 587) (ls1 := [some _, some _, some _, some _, some _, some _, some _, some _, some _, some _, some _, some _, some _, some _, some _, some _, some _, some _, none, some _, _]) (st1 := [_, _, _, _, _, _, _, _]) rfl ?_
  refine m_E.cv rfl rfl (p2) ?_
  refine m_E.run 4 (pc1 := 641) (ls1 := [some _, some _, some _, some _, some _, some _, some _, some _, some _, some _, some _, some _, some _, some _, some _, some _, some _, some _, none, some _, some _]) (st1 := [_, _]) rfl ?_
  refine m_E.ict (by decide) rfl ?_
  exact K h2 R2 g2 Y2 c2.lfr (by rw [c2.1]; exact Nat.le_succ _) (y_nlen c2.1)
set_option maxRecDepth 100000 in
theorem y_rows5 {turn a b e p : Nat} {x y told : Int32} {was : Int64} {v20 : Option Value} {n : List Nat} {F F2 : Nat → c_Sh} {S S2 : c_St} {R : y_R} {h : m_Hp} {Q : Option Value → m_Hp → Prop} (H : Hrw h R) (Y : Ry F S R) (t : Tok n p S) (hl : 69 ≤ h.length) (G : Gsh n F) (GL : Gln n F) (L : Lnk (c_leans S)) (hpr : c_printed S + 1 < 2 ^ 30) (rg : y_rg 5 a b e) (ag : ∀ k, k ∈ n → g_sh F2 k = g_sh F k) (T : y_To 5 a b e F S F2 S2) (K : ∀ h2 R2, Hrw h2 R2 → Ry F2 S2 R2 → Lfr h h2 → h2.length ≤ h.length + 1 → (∀ k, h.length ≤ k → g_bd h2 k) → m_E (m_Call m_P 8) tL_law 674 [some (.ref 3), some (.ref 4), some (.ref 61), some (.ref 62), some (.ref 63), some (.ref 64), some (.ref 65), some (.ref 66), some (.ref 67), some (.ref 68), some (.int (nI turn)), some (.int x), some (.int y), some (.int (nI 5)), some (.int (nI a)), some (.int (nI b)), some (.int (nI e)), some (.long was), none, some (.int told), some (.int (y_bk 5 a b e F S).1)] [] h2 Q) : m_E (m_Call m_P 8) tL_law 567 [some (.ref 3), some (.ref 4), some (.ref 61), some (.ref 62), some (.ref 63), some (.ref 64), some (.ref 65), some (.ref 66), some (.ref 67), some (.ref 68), some (.int (nI turn)), some (.int x), some (.int y), some (.int (nI 5)), some (.int (nI a)), some (.int (nI b)), some (.int (nI e)), some (.long was), none, some (.int told), v20] [] h Q := by
  obtain ⟨r0, r1, r2, r3, r4, r5, r6, r7, r8, r9, r10⟩ := rg
  rw [y_To, if_neg (fun z => by omega)] at T
  obtain ⟨rfl, rfl⟩ := T
  obtain ⟨_, h2, p2, rfl, c2, l2, b2, R2, g2, Y2⟩ := y_ofP5 (d := 4) H Y t G (r7 rfl)
  refine m_E.run 2 (pc1 := 570) (ls1 := [some _, some _, some _, some _, some _, some _, some _, some _, some _, some _, some _, some _, some _, some _, some _, some _, some _, some _, none, some _, _]) (st1 := [_, _]) rfl ?_
  refine m_E.ict (by decide) rfl ?_
  refine m_E.run 2 (pc1 := 596) (ls1 := [some _, some _, some _, some _, some _, some _, some _, some _, some _, some _, some _, some _, some _, some _, some _, some _, some _, some _, none, some _, _]) (st1 := [_, _]) rfl ?_
  refine m_E.ict (by decide) rfl ?_
  refine m_E.run 7 (pc1 := 633) (ls1 := [some _, some _, some _, some _, some _, some _, some _, some _, some _, some _, some _, some _, some _, some _, some _, some _, some _, some _, none, some _, _]) (st1 := [_, _, _, _, _, _, _]) rfl ?_
  refine m_E.cv rfl rfl (p2) ?_
  refine m_E.run 3 (pc1 := 641) (ls1 := [some _, some _, some _, some _, some _, some _, some _, some _, some _, some _, some _, some _, some _, some _, some _, some _, some _, some _, none, some _, some _]) (st1 := [_, _]) rfl ?_
  refine m_E.ict (by decide) rfl ?_
  exact K h2 R2 g2 Y2 c2 l2 b2
set_option maxRecDepth 100000 in
theorem y_rows6 {turn a b e p : Nat} {x y told : Int32} {was : Int64} {v20 : Option Value} {n : List Nat} {F F2 : Nat → c_Sh} {S S2 : c_St} {R : y_R} {h : m_Hp} {Q : Option Value → m_Hp → Prop} (H : Hrw h R) (Y : Ry F S R) (t : Tok n p S) (hl : 69 ≤ h.length) (G : Gsh n F) (GL : Gln n F) (L : Lnk (c_leans S)) (hpr : c_printed S + 1 < 2 ^ 30) (rg : y_rg 6 a b e) (ag : ∀ k, k ∈ n → g_sh F2 k = g_sh F k) (T : y_To 6 a b e F S F2 S2) (K : ∀ h2 R2, Hrw h2 R2 → Ry F2 S2 R2 → Lfr h h2 → h2.length ≤ h.length + 1 → (∀ k, h.length ≤ k → g_bd h2 k) → m_E (m_Call m_P 8) tL_law 674 [some (.ref 3), some (.ref 4), some (.ref 61), some (.ref 62), some (.ref 63), some (.ref 64), some (.ref 65), some (.ref 66), some (.ref 67), some (.ref 68), some (.int (nI turn)), some (.int x), some (.int y), some (.int (nI 6)), some (.int (nI a)), some (.int (nI b)), some (.int (nI e)), some (.long was), none, some (.int told), some (.int (y_bk 6 a b e F S).1)] [] h2 Q) : m_E (m_Call m_P 8) tL_law 567 [some (.ref 3), some (.ref 4), some (.ref 61), some (.ref 62), some (.ref 63), some (.ref 64), some (.ref 65), some (.ref 66), some (.ref 67), some (.ref 68), some (.int (nI turn)), some (.int x), some (.int y), some (.int (nI 6)), some (.int (nI a)), some (.int (nI b)), some (.int (nI e)), some (.long was), none, some (.int told), v20] [] h Q := by
  obtain ⟨r0, r1, r2, r3, r4, r5, r6, r7, r8, r9, r10⟩ := rg
  rw [y_To, if_neg (fun z => by omega)] at T
  obtain ⟨rfl, rfl⟩ := T
  obtain ⟨_, h2, p2, rfl, c2, l2, b2, R2, g2, Y2⟩ := y_ofP6 (d := 4) H Y t (r8 (by decide)).1 r9
  refine m_E.run 2 (pc1 := 570) (ls1 := [some _, some _, some _, some _, some _, some _, some _, some _, some _, some _, some _, some _, some _, some _, some _, some _, some _, some _, none, some _, _]) (st1 := [_, _]) rfl ?_
  refine m_E.ict (by decide) rfl ?_
  refine m_E.run 2 (pc1 := 596) (ls1 := [some _, some _, some _, some _, some _, some _, some _, some _, some _, some _, some _, some _, some _, some _, some _, some _, some _, some _, none, some _, _]) (st1 := [_, _]) rfl ?_
  refine m_E.ict (by decide) rfl ?_
  refine m_E.run 7 (pc1 := 633) (ls1 := [some _, some _, some _, some _, some _, some _, some _, some _, some _, some _, some _, some _, some _, some _, some _, some _, some _, some _, none, some _, _]) (st1 := [_, _, _, _, _, _, _]) rfl ?_
  refine m_E.cv rfl rfl (p2) ?_
  refine m_E.run 3 (pc1 := 641) (ls1 := [some _, some _, some _, some _, some _, some _, some _, some _, some _, some _, some _, some _, some _, some _, some _, some _, some _, some _, none, some _, some _]) (st1 := [_, _]) rfl ?_
  refine m_E.ict (by decide) rfl ?_
  exact K h2 R2 g2 Y2 c2 l2 b2
set_option maxRecDepth 100000 in
theorem y_rows7 {turn a b e p : Nat} {x y told : Int32} {was : Int64} {v20 : Option Value} {n : List Nat} {F F2 : Nat → c_Sh} {S S2 : c_St} {R : y_R} {h : m_Hp} {Q : Option Value → m_Hp → Prop} (H : Hrw h R) (Y : Ry F S R) (t : Tok n p S) (hl : 69 ≤ h.length) (G : Gsh n F) (GL : Gln n F) (L : Lnk (c_leans S)) (hpr : c_printed S + 1 < 2 ^ 30) (rg : y_rg 7 a b e) (ag : ∀ k, k ∈ n → g_sh F2 k = g_sh F k) (T : y_To 7 a b e F S F2 S2) (K : ∀ h2 R2, Hrw h2 R2 → Ry F2 S2 R2 → Lfr h h2 → h2.length ≤ h.length + 1 → (∀ k, h.length ≤ k → g_bd h2 k) → m_E (m_Call m_P 8) tL_law 674 [some (.ref 3), some (.ref 4), some (.ref 61), some (.ref 62), some (.ref 63), some (.ref 64), some (.ref 65), some (.ref 66), some (.ref 67), some (.ref 68), some (.int (nI turn)), some (.int x), some (.int y), some (.int (nI 7)), some (.int (nI a)), some (.int (nI b)), some (.int (nI e)), some (.long was), none, some (.int told), some (.int (y_bk 7 a b e F S).1)] [] h2 Q) : m_E (m_Call m_P 8) tL_law 567 [some (.ref 3), some (.ref 4), some (.ref 61), some (.ref 62), some (.ref 63), some (.ref 64), some (.ref 65), some (.ref 66), some (.ref 67), some (.ref 68), some (.int (nI turn)), some (.int x), some (.int y), some (.int (nI 7)), some (.int (nI a)), some (.int (nI b)), some (.int (nI e)), some (.long was), none, some (.int told), v20] [] h Q := by
  obtain ⟨r0, r1, r2, r3, r4, r5, r6, r7, r8, r9, r10⟩ := rg
  rw [y_To, if_neg (fun z => by omega)] at T
  obtain ⟨rfl, rfl⟩ := T
  obtain ⟨_, h2, p2, rfl, c2, l2, b2, R2, g2, Y2⟩ := y_ofP7 (d := 4) H Y t hl (r8 (by decide)).1 r9
  refine m_E.run 2 (pc1 := 570) (ls1 := [some _, some _, some _, some _, some _, some _, some _, some _, some _, some _, some _, some _, some _, some _, some _, some _, some _, some _, none, some _, _]) (st1 := [_, _]) rfl ?_
  refine m_E.ict (by decide) rfl ?_
  refine m_E.run 2 (pc1 := 596) (ls1 := [some _, some _, some _, some _, some _, some _, some _, some _, some _, some _, some _, some _, some _, some _, some _, some _, some _, some _, none, some _, _]) (st1 := [_, _]) rfl ?_
  refine m_E.ict (by decide) rfl ?_
  refine m_E.run 7 (pc1 := 633) (ls1 := [some _, some _, some _, some _, some _, some _, some _, some _, some _, some _, some _, some _, some _, some _, some _, some _, some _, some _, none, some _, _]) (st1 := [_, _, _, _, _, _, _]) rfl ?_
  refine m_E.cv rfl rfl (p2) ?_
  refine m_E.run 3 (pc1 := 641) (ls1 := [some _, some _, some _, some _, some _, some _, some _, some _, some _, some _, some _, some _, some _, some _, some _, some _, some _, some _, none, some _, some _]) (st1 := [_, _]) rfl ?_
  refine m_E.ict (by decide) rfl ?_
  exact K h2 R2 g2 Y2 c2 l2 b2
set_option maxRecDepth 100000 in
theorem y_rows8 {turn a b e p : Nat} {x y told : Int32} {was : Int64} {v20 : Option Value} {n : List Nat} {F F2 : Nat → c_Sh} {S S2 : c_St} {R : y_R} {h : m_Hp} {Q : Option Value → m_Hp → Prop} (H : Hrw h R) (Y : Ry F S R) (t : Tok n p S) (hl : 69 ≤ h.length) (G : Gsh n F) (GL : Gln n F) (L : Lnk (c_leans S)) (hpr : c_printed S + 1 < 2 ^ 30) (rg : y_rg 8 a b e) (ag : ∀ k, k ∈ n → g_sh F2 k = g_sh F k) (T : y_To 8 a b e F S F2 S2) (K : ∀ h2 R2, Hrw h2 R2 → Ry F2 S2 R2 → Lfr h h2 → h2.length ≤ h.length + 1 → (∀ k, h.length ≤ k → g_bd h2 k) → m_E (m_Call m_P 8) tL_law 674 [some (.ref 3), some (.ref 4), some (.ref 61), some (.ref 62), some (.ref 63), some (.ref 64), some (.ref 65), some (.ref 66), some (.ref 67), some (.ref 68), some (.int (nI turn)), some (.int x), some (.int y), some (.int (nI 8)), some (.int (nI a)), some (.int (nI b)), some (.int (nI e)), some (.long was), none, some (.int told), some (.int (y_bk 8 a b e F S).1)] [] h2 Q) : m_E (m_Call m_P 8) tL_law 567 [some (.ref 3), some (.ref 4), some (.ref 61), some (.ref 62), some (.ref 63), some (.ref 64), some (.ref 65), some (.ref 66), some (.ref 67), some (.ref 68), some (.int (nI turn)), some (.int x), some (.int y), some (.int (nI 8)), some (.int (nI a)), some (.int (nI b)), some (.int (nI e)), some (.long was), none, some (.int told), v20] [] h Q := by
  obtain ⟨r0, r1, r2, r3, r4, r5, r6, r7, r8, r9, r10⟩ := rg
  rw [y_To, if_neg (fun z => by omega)] at T
  obtain ⟨rfl, rfl⟩ := T
  obtain ⟨_, h2, p2, rfl, c2, l2, b2, R2, g2, Y2⟩ := y_ofP8 (d := 4) H Y t (r8 (by decide)).1 r9
  refine m_E.run 2 (pc1 := 570) (ls1 := [some _, some _, some _, some _, some _, some _, some _, some _, some _, some _, some _, some _, some _, some _, some _, some _, some _, some _, none, some _, _]) (st1 := [_, _]) rfl ?_
  refine m_E.ict (by decide) rfl ?_
  refine m_E.run 2 (pc1 := 596) (ls1 := [some _, some _, some _, some _, some _, some _, some _, some _, some _, some _, some _, some _, some _, some _, some _, some _, some _, some _, none, some _, _]) (st1 := [_, _]) rfl ?_
  refine m_E.ict (by decide) rfl ?_
  refine m_E.run 7 (pc1 := 633) (ls1 := [some _, some _, some _, some _, some _, some _, some _, some _, some _, some _, some _, some _, some _, some _, some _, some _, some _, some _, none, some _, _]) (st1 := [_, _, _, _, _, _, _]) rfl ?_
  refine m_E.cv rfl rfl (p2) ?_
  refine m_E.run 3 (pc1 := 641) (ls1 := [some _, some _, some _, some _, some _, some _, some _, some _, some _, some _, some _, some _, some _, some _, some _, some _, some _, some _, none, some _, some _]) (st1 := [_, _]) rfl ?_
  refine m_E.ict (by decide) rfl ?_
  exact K h2 R2 g2 Y2 c2 l2 b2
set_option maxRecDepth 100000 in
theorem y_rows9 {turn a b e p : Nat} {x y told : Int32} {was : Int64} {v20 : Option Value} {n : List Nat} {F F2 : Nat → c_Sh} {S S2 : c_St} {R : y_R} {h : m_Hp} {Q : Option Value → m_Hp → Prop} (H : Hrw h R) (Y : Ry F S R) (t : Tok n p S) (hl : 69 ≤ h.length) (G : Gsh n F) (GL : Gln n F) (L : Lnk (c_leans S)) (hpr : c_printed S + 1 < 2 ^ 30) (rg : y_rg 9 a b e) (ag : ∀ k, k ∈ n → g_sh F2 k = g_sh F k) (T : y_To 9 a b e F S F2 S2) (K : ∀ h2 R2, Hrw h2 R2 → Ry F2 S2 R2 → Lfr h h2 → h2.length ≤ h.length + 1 → (∀ k, h.length ≤ k → g_bd h2 k) → m_E (m_Call m_P 8) tL_law 674 [some (.ref 3), some (.ref 4), some (.ref 61), some (.ref 62), some (.ref 63), some (.ref 64), some (.ref 65), some (.ref 66), some (.ref 67), some (.ref 68), some (.int (nI turn)), some (.int x), some (.int y), some (.int (nI 9)), some (.int (nI a)), some (.int (nI b)), some (.int (nI e)), some (.long was), none, some (.int told), some (.int (y_bk 9 a b e F S).1)] [] h2 Q) : m_E (m_Call m_P 8) tL_law 567 [some (.ref 3), some (.ref 4), some (.ref 61), some (.ref 62), some (.ref 63), some (.ref 64), some (.ref 65), some (.ref 66), some (.ref 67), some (.ref 68), some (.int (nI turn)), some (.int x), some (.int y), some (.int (nI 9)), some (.int (nI a)), some (.int (nI b)), some (.int (nI e)), some (.long was), none, some (.int told), v20] [] h Q := by
  obtain ⟨r0, r1, r2, r3, r4, r5, r6, r7, r8, r9, r10⟩ := rg
  rw [y_To, if_neg (fun z => by omega)] at T
  obtain ⟨rfl, rfl⟩ := T
  obtain ⟨_, h2, p2, rfl, c2, l2, b2, R2, g2, Y2⟩ := y_ofP9 (d := 4) (a := a) H Y t G GL
  refine m_E.run 2 (pc1 := 570) (ls1 := [some _, some _, some _, some _, some _, some _, some _, some _, some _, some _, some _, some _, some _, some _, some _, some _, some _, some _, none, some _, _]) (st1 := [_, _]) rfl ?_
  refine m_E.ict (by decide) rfl ?_
  refine m_E.run 2 (pc1 := 596) (ls1 := [some _, some _, some _, some _, some _, some _, some _, some _, some _, some _, some _, some _, some _, some _, some _, some _, some _, some _, none, some _, _]) (st1 := [_, _]) rfl ?_
  refine m_E.ict (by decide) rfl ?_
  refine m_E.run 7 (pc1 := 633) (ls1 := [some _, some _, some _, some _, some _, some _, some _, some _, some _, some _, some _, some _, some _, some _, some _, some _, some _, some _, none, some _, _]) (st1 := [_, _, _, _, _, _, _]) rfl ?_
  refine m_E.cv rfl rfl (p2) ?_
  refine m_E.run 3 (pc1 := 641) (ls1 := [some _, some _, some _, some _, some _, some _, some _, some _, some _, some _, some _, some _, some _, some _, some _, some _, some _, some _, none, some _, some _]) (st1 := [_, _]) rfl ?_
  refine m_E.ict (by decide) rfl ?_
  exact K h2 R2 g2 Y2 c2 l2 b2
set_option maxRecDepth 100000 in
theorem y_rows10 {turn a b e p : Nat} {x y told : Int32} {was : Int64} {v20 : Option Value} {n : List Nat} {F F2 : Nat → c_Sh} {S S2 : c_St} {R : y_R} {h : m_Hp} {Q : Option Value → m_Hp → Prop} (H : Hrw h R) (Y : Ry F S R) (t : Tok n p S) (hl : 69 ≤ h.length) (G : Gsh n F) (GL : Gln n F) (L : Lnk (c_leans S)) (hpr : c_printed S + 1 < 2 ^ 30) (rg : y_rg 10 a b e) (ag : ∀ k, k ∈ n → g_sh F2 k = g_sh F k) (T : y_To 10 a b e F S F2 S2) (K : ∀ h2 R2, Hrw h2 R2 → Ry F2 S2 R2 → Lfr h h2 → h2.length ≤ h.length + 1 → (∀ k, h.length ≤ k → g_bd h2 k) → m_E (m_Call m_P 8) tL_law 674 [some (.ref 3), some (.ref 4), some (.ref 61), some (.ref 62), some (.ref 63), some (.ref 64), some (.ref 65), some (.ref 66), some (.ref 67), some (.ref 68), some (.int (nI turn)), some (.int x), some (.int y), some (.int (nI 10)), some (.int (nI a)), some (.int (nI b)), some (.int (nI e)), some (.long was), none, some (.int told), some (.int (y_bk 10 a b e F S).1)] [] h2 Q) : m_E (m_Call m_P 8) tL_law 567 [some (.ref 3), some (.ref 4), some (.ref 61), some (.ref 62), some (.ref 63), some (.ref 64), some (.ref 65), some (.ref 66), some (.ref 67), some (.ref 68), some (.int (nI turn)), some (.int x), some (.int y), some (.int (nI 10)), some (.int (nI a)), some (.int (nI b)), some (.int (nI e)), some (.long was), none, some (.int told), v20] [] h Q := by
  obtain ⟨r0, r1, r2, r3, r4, r5, r6, r7, r8, r9, r10⟩ := rg
  rw [y_To, if_neg (fun z => by omega)] at T
  obtain ⟨rfl, rfl⟩ := T
  obtain ⟨_, h2, p2, rfl, c2, l2, b2, R2, g2, Y2⟩ := y_ofP10 (d := 4) (a := a) H Y t
  refine m_E.run 2 (pc1 := 570) (ls1 := [some _, some _, some _, some _, some _, some _, some _, some _, some _, some _, some _, some _, some _, some _, some _, some _, some _, some _, none, some _, _]) (st1 := [_, _]) rfl ?_
  refine m_E.ict (by decide) rfl ?_
  refine m_E.run 2 (pc1 := 596) (ls1 := [some _, some _, some _, some _, some _, some _, some _, some _, some _, some _, some _, some _, some _, some _, some _, some _, some _, some _, none, some _, _]) (st1 := [_, _]) rfl ?_
  refine m_E.ict (by decide) rfl ?_
  refine m_E.run 7 (pc1 := 633) (ls1 := [some _, some _, some _, some _, some _, some _, some _, some _, some _, some _, some _, some _, some _, some _, some _, some _, some _, some _, none, some _, _]) (st1 := [_, _, _, _, _, _, _]) rfl ?_
  refine m_E.cv rfl rfl (p2) ?_
  refine m_E.run 3 (pc1 := 641) (ls1 := [some _, some _, some _, some _, some _, some _, some _, some _, some _, some _, some _, some _, some _, some _, some _, some _, some _, some _, none, some _, some _]) (st1 := [_, _]) rfl ?_
  refine m_E.ict (by decide) rfl ?_
  exact K h2 R2 g2 Y2 c2 l2 b2
set_option maxRecDepth 100000 in
theorem y_rows4 {turn a b e p : Nat} {x y told : Int32} {was : Int64} {v20 : Option Value} {n : List Nat} {F F2 : Nat → c_Sh} {S S2 : c_St} {R : y_R} {h : m_Hp} {Q : Option Value → m_Hp → Prop} (H : Hrw h R) (Y : Ry F S R) (t : Tok n p S) (hl : 69 ≤ h.length) (G : Gsh n F) (GL : Gln n F) (L : Lnk (c_leans S)) (hpr : c_printed S + 1 < 2 ^ 30) (rg : y_rg 4 a b e) (ag : ∀ k, k ∈ n → g_sh F2 k = g_sh F k) (T : y_To 4 a b e F S F2 S2) (K : ∀ h2 R2, Hrw h2 R2 → Ry F2 S2 R2 → Lfr h h2 → h2.length ≤ h.length + 1 → (∀ k, h.length ≤ k → g_bd h2 k) → m_E (m_Call m_P 8) tL_law 674 [some (.ref 3), some (.ref 4), some (.ref 61), some (.ref 62), some (.ref 63), some (.ref 64), some (.ref 65), some (.ref 66), some (.ref 67), some (.ref 68), some (.int (nI turn)), some (.int x), some (.int y), some (.int (nI 4)), some (.int (nI a)), some (.int (nI b)), some (.int (nI e)), some (.long was), none, some (.int told), some (.int (y_bk 4 a b e F S).1)] [] h2 Q) : m_E (m_Call m_P 8) tL_law 567 [some (.ref 3), some (.ref 4), some (.ref 61), some (.ref 62), some (.ref 63), some (.ref 64), some (.ref 65), some (.ref 66), some (.ref 67), some (.ref 68), some (.int (nI turn)), some (.int x), some (.int y), some (.int (nI 4)), some (.int (nI a)), some (.int (nI b)), some (.int (nI e)), some (.long was), none, some (.int told), v20] [] h Q := by
  obtain ⟨r0, r1, r2, r3, r4, r5, r6, r7, r8, r9, r10⟩ := rg
  obtain ⟨ok, yq, yb, yp, yk⟩ := id Y
  have l6 := t.1.2.2.2.2.2.2.2.2.2.2.2.1
  refine m_E.run 2 (pc1 := 570) (ls1 := [some _, some _, some _, some _, some _, some _, some _, some _, some _, some _, some _, some _, some _, some _, some _, some _, some _, some _, none, some _, _]) (st1 := [_, _]) rfl ?_
  refine m_E.ict (by decide) rfl ?_
  refine m_E.run 2 (pc1 := 596) (ls1 := [some _, some _, some _, some _, some _, some _, some _, some _, some _, some _, some _, some _, some _, some _, some _, some _, some _, some _, none, some _, _]) (st1 := [_, _]) rfl ?_
  refine m_E.icf (by decide) rfl ?_
  refine m_E.run 2 (pc1 := 601) (ls1 := [some _, some _, some _, some _, some _, some _, some _, some _, some _, some _, some _, some _, some _, some _, some _, some _, some _, some _, none, some _, _]) (st1 := [_, _]) rfl ?_
  refine m_E.yr H.1 ok.1 rfl (by omega) (by decide) (yq.2.2.1) rfl ?_
  refine m_E.run 1 (pc1 := 604) (ls1 := [some _, some _, some _, some _, some _, some _, some _, some _, some _, some _, some _, some _, some _, some _, some _, some _, some _, some _, none, some _, _]) (st1 := [_, _]) rfl ?_
  by_cases c6 : c_piled S = 6
  · skip
    have eb : y_bk 4 a b e F S = (-3, none) := if_neg (by omega)
    rw [y_To, if_neg (fun z => by omega), eb] at T
    obtain ⟨rfl, rfl⟩ := T
    rw [eb] at K
    refine m_E.icf (by rw [c6]; decide) rfl ?_
    refine m_E.run 5 (pc1 := 641) (ls1 := [some _, some _, some _, some _, some _, some _, some _, some _, some _, some _, some _, some _, some _, some _, some _, some _, some _, some _, none, some _, some _]) (st1 := [_, _]) rfl ?_
    refine m_E.icf (by decide) rfl ?_
    refine m_E.run 2 (pc1 := 646) (ls1 := [some _, some _, some _, some _, some _, some _, some _, some _, some _, some _, some _, some _, some _, some _, some _, some _, some _, some _, none, some _, some _]) (st1 := [_, _]) rfl ?_
    refine m_E.yr H.1 ok.1 rfl (by omega) (by decide) (yq.2.2.1) rfl ?_
    refine m_E.run 1 (pc1 := 649) (ls1 := [some _, some _, some _, some _, some _, some _, some _, some _, some _, some _, some _, some _, some _, some _, some _, some _, some _, some _, none, some _, some _]) (st1 := [_, _]) rfl ?_
    refine m_E.ict (by rw [c6]; decide) rfl ?_
    exact K h R H Y ⟨Nat.le_refl _, fun _ _ _ => rfl⟩ (Nat.le_succ _) (y_nlen rfl)
  · skip
    have eb : y_bk 4 a b e F S = (nI (c_piled S + 1), some S) := if_pos (by omega)
    rw [y_To, if_pos ⟨rfl, by omega⟩] at T
    obtain ⟨kk, T1, rfl⟩ := T
    rw [eb] at K
    obtain ⟨_, h2, p2, rfl, c2, R2, g2, Y2⟩ := y_prints (d := 7) H Y t L (by omega) hpr (y_e01 (r6 rfl))
    have Y3 := Y2 F2 kk ag T1
    refine m_E.ict ((m_neI (by omega) (by omega)).trans (decide_eq_true c6)) rfl ?_
    refine m_E.run 2 (pc1 := 614) (ls1 := [some _, some _, some _, some _, some _, some _, some _, some _, some _, some _, some _, some _, some _, some _, some _, some _, some _, some _, none, some _, _]) (st1 := [_, _]) rfl ?_
    refine m_E.yr H.1 ok.1 rfl (by omega) (by decide) (yq.2.2.1) rfl ?_
    refine m_E.run 6 (pc1 := 641) (ls1 := [some _, some _, some _, some _, some _, some _, some _, some _, some _, some _, some _, some _, some _, some _, some _, some _, some _, some _, none, some _, some _]) (st1 := [_, _]) rfl ?_
    dsimp only
    rw [nI_add]
    refine m_E.icf (by decide) rfl ?_
    refine m_E.run 2 (pc1 := 646) (ls1 := [some _, some _, some _, some _, some _, some _, some _, some _, some _, some _, some _, some _, some _, some _, some _, some _, some _, some _, none, some _, some _]) (st1 := [_, _]) rfl ?_
    refine m_E.yr H.1 ok.1 rfl (by omega) (by decide) (yq.2.2.1) rfl ?_
    refine m_E.run 1 (pc1 := 649) (ls1 := [some _, some _, some _, some _, some _, some _, some _, some _, some _, some _, some _, some _, some _, some _, some _, some _, some _, some _, none, some _, some _]) (st1 := [_, _]) rfl ?_
    refine m_E.icf ((m_leI (by omega) (by omega)).trans (decide_eq_false (by omega))) rfl ?_
    refine m_E.run 2 (pc1 := 655) (ls1 := [some _, some _, some _, some _, some _, some _, some _, some _, some _, some _, some _, some _, some _, some _, some _, some _, some _, some _, none, some _, some _]) (st1 := [_, _]) rfl ?_
    by_cases c1 : a = 1
    · skip
      rw [c1] at p2
      refine m_E.icf (by rw [c1]; decide) rfl ?_
      refine m_E.run 7 (pc1 := 671) (ls1 := [some _, some _, some _, some _, some _, some _, some _, some _, some _, some _, some _, some _, some _, some _, some _, some _, some _, some _, none, some _, some _]) (st1 := [_, _, _, _, _, _]) rfl ?_
      refine m_E.cn rfl rfl (p2) ?_
      exact K h2 R2 g2 Y3 c2.lfr (by rw [c2.1]; exact Nat.le_succ _) (y_nlen c2.1)
    · skip
      have c0 : a = 0 := by have := r6 rfl; omega
      rw [c0] at p2
      refine m_E.ict (by rw [c0]; decide) rfl ?_
      refine m_E.run 6 (pc1 := 671) (ls1 := [some _, some _, some _, some _, some _, some _, some _, some _, some _, some _, some _, some _, some _, some _, some _, some _, some _, some _, none, some _, some _]) (st1 := [_, _, _, _, _, _]) rfl ?_
      refine m_E.cn rfl rfl (p2) ?_
      exact K h2 R2 g2 Y3 c2.lfr (by rw [c2.1]; exact Nat.le_succ _) (y_nlen c2.1)
theorem y_rows {kd : Nat} {turn a b e p : Nat} {x y told : Int32} {was : Int64} {v20 : Option Value} {n : List Nat} {F F2 : Nat → c_Sh} {S S2 : c_St} {R : y_R} {h : m_Hp} {Q : Option Value → m_Hp → Prop} (H : Hrw h R) (Y : Ry F S R) (t : Tok n p S) (hl : 69 ≤ h.length) (G : Gsh n F) (GL : Gln n F) (L : Lnk (c_leans S)) (hpr : c_printed S + 1 < 2 ^ 30) (rg : y_rg kd a b e) (ag : ∀ k, k ∈ n → g_sh F2 k = g_sh F k) (T : y_To kd a b e F S F2 S2) (K : ∀ h2 R2, Hrw h2 R2 → Ry F2 S2 R2 → Lfr h h2 → h2.length ≤ h.length + 1 → (∀ k, h.length ≤ k → g_bd h2 k) → m_E (m_Call m_P 8) tL_law 674 [some (.ref 3), some (.ref 4), some (.ref 61), some (.ref 62), some (.ref 63), some (.ref 64), some (.ref 65), some (.ref 66), some (.ref 67), some (.ref 68), some (.int (nI turn)), some (.int x), some (.int y), some (.int (nI kd)), some (.int (nI a)), some (.int (nI b)), some (.int (nI e)), some (.long was), none, some (.int told), some (.int (y_bk kd a b e F S).1)] [] h2 Q) : m_E (m_Call m_P 8) tL_law 567 [some (.ref 3), some (.ref 4), some (.ref 61), some (.ref 62), some (.ref 63), some (.ref 64), some (.ref 65), some (.ref 66), some (.ref 67), some (.ref 68), some (.int (nI turn)), some (.int x), some (.int y), some (.int (nI kd)), some (.int (nI a)), some (.int (nI b)), some (.int (nI e)), some (.long was), none, some (.int told), v20] [] h Q := by
  have r0 := rg.1
  match kd, r0 with
  | 0, _ => exact y_rows0 H Y t hl G GL L hpr rg ag T K
  | 1, _ => exact y_rows1 H Y t hl G GL L hpr rg ag T K
  | 2, _ => exact y_rows2 H Y t hl G GL L hpr rg ag T K
  | 3, _ => exact y_rows3 H Y t hl G GL L hpr rg ag T K
  | 4, _ => exact y_rows4 H Y t hl G GL L hpr rg ag T K
  | 5, _ => exact y_rows5 H Y t hl G GL L hpr rg ag T K
  | 6, _ => exact y_rows6 H Y t hl G GL L hpr rg ag T K
  | 7, _ => exact y_rows7 H Y t hl G GL L hpr rg ag T K
  | 8, _ => exact y_rows8 H Y t hl G GL L hpr rg ag T K
  | 9, _ => exact y_rows9 H Y t hl G GL L hpr rg ag T K
  | 10, _ => exact y_rows10 H Y t hl G GL L hpr rg ag T K
  | k + 11, hk => omega
