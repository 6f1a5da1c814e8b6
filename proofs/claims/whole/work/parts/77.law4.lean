/-! the law's calls -/
set_option maxRecDepth 100000 in
theorem l_block {xs : List Int32} {j : Nat} {v4 v5 v6 v7 : Option Value} {h : m_Hp} {Q : Option Value → m_Hp → Prop} (J : Jw xs j h) (hj : 4 * j + 4 ≤ xs.length) (hx : xs.length ≤ 2048) (K : ∀ h2 v4 v5 v6 v7, Jw xs (j + 1) h2 → m_E (m_Call m_P 8) tL_law 901 [some (.ref 3), some (.ref 4), some (.ref 61), some (.int (nI (4 * j))), v4, v5, v6, v7] [] h2 Q) : m_E (m_Call m_P 8) tL_law 582 [some (.ref 3), some (.ref 4), some (.ref 61), some (.int (nI (4 * j))), v4, v5, v6, v7] [] h Q := by
  obtain ⟨n, p, F, W, M, H, ok, Hm, okm, R, hs, hn, hp⟩ := J
  refine m_E.run 5 (pc1 := 587) (ls1 := [some _, some _, some _, some _, _, _, _, _]) (st1 := [_, _, _]) rfl ?_
  dsimp only
  refine m_E.ild hs (j := 4 * j + 1) (Or.inl rfl) (nI_add _ _) (by omega) (by omega) rfl ?_
  refine m_E.run 4 (pc1 := 592) (ls1 := [some _, some _, some _, some _, _, _, _, _]) (st1 := [_, _, _, _]) rfl ?_
  dsimp only
  refine m_E.ild hs (j := 4 * j + 2) (Or.inl rfl) (nI_add _ _) (by omega) (by omega) rfl ?_
  refine m_E.ov H.o (by decide) rfl rfl rfl (o_block (d := 2) (x := (xs.getD (4 * j + 1) 0)) (y := (xs.getD (4 * j + 2) 0)) H ok) ?_
  refine m_E.run 5 (pc1 := 601) (ls1 := [some _, some _, some _, some _, _, _, _, _]) (st1 := [_, _, _, _]) rfl ?_
  dsimp only
  refine m_E.ild hs (j := 4 * j + 1) (Or.inl rfl) (nI_add _ _) (by omega) (by omega) rfl ?_
  refine m_E.run 4 (pc1 := 606) (ls1 := [some _, some _, some _, some _, _, _, _, _]) (st1 := [_, _, _, _, _]) rfl ?_
  dsimp only
  refine m_E.ild hs (j := 4 * j + 2) (Or.inl rfl) (nI_add _ _) (by omega) (by omega) rfl ?_
  refine m_E.ov Hm.o (by decide) rfl rfl rfl (e_block (d := 5) (x := (xs.getD (4 * j + 1) 0)) (y := (xs.getD (4 * j + 2) 0)) Hm R.1) ?_
  refine m_E.ict (beq_self_eq_true _) rfl ?_
  exact K _ _ _ _ _ ⟨n, p, F, W, M, H, ok, Hm, okm, R, hs, by omega, by omega⟩
set_option maxRecDepth 100000 in
theorem l_cardOf {xs : List Int32} {j : Nat} {v4 v5 v6 v7 : Option Value} {h : m_Hp} {Q : Option Value → m_Hp → Prop} (J : Jw xs j h) (hj : 4 * j + 4 ≤ xs.length) (hx : xs.length ≤ 2048) (K : ∀ h2 v4 v5 v6 v7, Jw xs (j + 1) h2 → m_E (m_Call m_P 8) tL_law 901 [some (.ref 3), some (.ref 4), some (.ref 61), some (.int (nI (4 * j))), v4, v5, v6, v7] [] h2 Q) : m_E (m_Call m_P 8) tL_law 615 [some (.ref 3), some (.ref 4), some (.ref 61), some (.int (nI (4 * j))), v4, v5, v6, v7] [] h Q := by
  obtain ⟨n, p, F, W, M, H, ok, Hm, okm, R, hs, hn, hp⟩ := J
  refine m_E.run 5 (pc1 := 620) (ls1 := [some _, some _, some _, some _, _, _, _, _]) (st1 := [_, _, _]) rfl ?_
  dsimp only
  refine m_E.ild hs (j := 4 * j + 1) (Or.inl rfl) (nI_add _ _) (by omega) (by omega) rfl ?_
  refine m_E.run 4 (pc1 := 625) (ls1 := [some _, some _, some _, some _, _, _, _, _]) (st1 := [_, _, _, _]) rfl ?_
  dsimp only
  refine m_E.ild hs (j := 4 * j + 2) (Or.inl rfl) (nI_add _ _) (by omega) (by omega) rfl ?_
  refine m_E.ov H.o (by decide) rfl rfl rfl (o_cardOf (d := 2) (x := (xs.getD (4 * j + 1) 0)) (y := (xs.getD (4 * j + 2) 0)) H ok) ?_
  refine m_E.run 5 (pc1 := 634) (ls1 := [some _, some _, some _, some _, _, _, _, _]) (st1 := [_, _, _, _]) rfl ?_
  dsimp only
  refine m_E.ild hs (j := 4 * j + 1) (Or.inl rfl) (nI_add _ _) (by omega) (by omega) rfl ?_
  refine m_E.run 4 (pc1 := 639) (ls1 := [some _, some _, some _, some _, _, _, _, _]) (st1 := [_, _, _, _, _]) rfl ?_
  dsimp only
  refine m_E.ild hs (j := 4 * j + 2) (Or.inl rfl) (nI_add _ _) (by omega) (by omega) rfl ?_
  refine m_E.ov Hm.o (by decide) rfl rfl rfl (e_cardOf (d := 5) (x := (xs.getD (4 * j + 1) 0)) (y := (xs.getD (4 * j + 2) 0)) Hm R.1 ok.1) ?_
  refine m_E.ict (beq_self_eq_true _) rfl ?_
  exact K _ _ _ _ _ ⟨n, p, F, W, M, H, ok, Hm, okm, R, hs, by omega, by omega⟩
set_option maxRecDepth 100000 in
theorem l_sheet {xs : List Int32} {j : Nat} {v4 v5 v6 v7 : Option Value} {h : m_Hp} {Q : Option Value → m_Hp → Prop} (J : Jw xs j h) (hj : 4 * j + 4 ≤ xs.length) (hx : xs.length ≤ 2048) (K : ∀ h2 v4 v5 v6 v7, Jw xs (j + 1) h2 → m_E (m_Call m_P 8) tL_law 901 [some (.ref 3), some (.ref 4), some (.ref 61), some (.int (nI (4 * j))), v4, v5, v6, v7] [] h2 Q) : m_E (m_Call m_P 8) tL_law 648 [some (.ref 3), some (.ref 4), some (.ref 61), some (.int (nI (4 * j))), v4, v5, v6, v7] [] h Q := by
  obtain ⟨n, p, F, W, M, H, ok, Hm, okm, R, hs, hn, hp⟩ := J
  refine m_E.run 5 (pc1 := 653) (ls1 := [some _, some _, some _, some _, _, _, _, _]) (st1 := [_, _, _]) rfl ?_
  dsimp only
  refine m_E.ild hs (j := 4 * j + 1) (Or.inl rfl) (nI_add _ _) (by omega) (by omega) rfl ?_
  refine m_E.run 4 (pc1 := 658) (ls1 := [some _, some _, some _, some _, _, _, _, _]) (st1 := [_, _, _, _]) rfl ?_
  dsimp only
  refine m_E.ild hs (j := 4 * j + 2) (Or.inl rfl) (nI_add _ _) (by omega) (by omega) rfl ?_
  refine m_E.run 4 (pc1 := 663) (ls1 := [some _, some _, some _, some _, _, _, _, _]) (st1 := [_, _, _, _, _]) rfl ?_
  dsimp only
  refine m_E.ild hs (j := 4 * j + 3) (Or.inl rfl) (nI_add _ _) (by omega) (by omega) rfl ?_
  refine m_E.ov H.o (by decide) rfl rfl rfl (o_sheet (d := 2) (x := (xs.getD (4 * j + 1) 0)) (y := (xs.getD (4 * j + 2) 0)) (z := (xs.getD (4 * j + 3) 0)) H ok) ?_
  refine m_E.run 5 (pc1 := 672) (ls1 := [some _, some _, some _, some _, _, _, _, _]) (st1 := [_, _, _, _]) rfl ?_
  dsimp only
  refine m_E.ild hs (j := 4 * j + 1) (Or.inl rfl) (nI_add _ _) (by omega) (by omega) rfl ?_
  refine m_E.run 4 (pc1 := 677) (ls1 := [some _, some _, some _, some _, _, _, _, _]) (st1 := [_, _, _, _, _]) rfl ?_
  dsimp only
  refine m_E.ild hs (j := 4 * j + 2) (Or.inl rfl) (nI_add _ _) (by omega) (by omega) rfl ?_
  refine m_E.run 4 (pc1 := 682) (ls1 := [some _, some _, some _, some _, _, _, _, _]) (st1 := [_, _, _, _, _, _]) rfl ?_
  dsimp only
  refine m_E.ild hs (j := 4 * j + 3) (Or.inl rfl) (nI_add _ _) (by omega) (by omega) rfl ?_
  refine m_E.ov Hm.o (by decide) rfl rfl rfl (e_sheet (d := 5) (x := (xs.getD (4 * j + 1) 0)) (y := (xs.getD (4 * j + 2) 0)) (z := (xs.getD (4 * j + 3) 0)) Hm R.1 ok.1) ?_
  refine m_E.ict (beq_self_eq_true _) rfl ?_
  exact K _ _ _ _ _ ⟨n, p, F, W, M, H, ok, Hm, okm, R, hs, by omega, by omega⟩
set_option maxRecDepth 100000 in
theorem l_pack {xs : List Int32} {j : Nat} {v4 v5 v6 v7 : Option Value} {h : m_Hp} {Q : Option Value → m_Hp → Prop} (J : Jw xs j h) (hj : 4 * j + 4 ≤ xs.length) (hx : xs.length ≤ 2048) (K : ∀ h2 v4 v5 v6 v7, Jw xs (j + 1) h2 → m_E (m_Call m_P 8) tL_law 901 [some (.ref 3), some (.ref 4), some (.ref 61), some (.int (nI (4 * j))), v4, v5, v6, v7] [] h2 Q) : m_E (m_Call m_P 8) tL_law 691 [some (.ref 3), some (.ref 4), some (.ref 61), some (.int (nI (4 * j))), v4, v5, v6, v7] [] h Q := by
  obtain ⟨n, p, F, W, M, H, ok, Hm, okm, R, hs, hn, hp⟩ := J
  refine m_E.run 5 (pc1 := 696) (ls1 := [some _, some _, some _, some _, _, _, _, _]) (st1 := [_, _, _]) rfl ?_
  dsimp only
  refine m_E.ild hs (j := 4 * j + 1) (Or.inl rfl) (nI_add _ _) (by omega) (by omega) rfl ?_
  refine m_E.run 4 (pc1 := 701) (ls1 := [some _, some _, some _, some _, _, _, _, _]) (st1 := [_, _, _, _]) rfl ?_
  dsimp only
  refine m_E.ild hs (j := 4 * j + 2) (Or.inl rfl) (nI_add _ _) (by omega) (by omega) rfl ?_
  refine m_E.ov H.o (by decide) rfl rfl rfl (o_pack (d := 2) (x := (xs.getD (4 * j + 1) 0)) (y := (xs.getD (4 * j + 2) 0)) H ok) ?_
  refine m_E.run 5 (pc1 := 710) (ls1 := [some _, some _, some _, some _, _, _, _, _]) (st1 := [_, _, _, _]) rfl ?_
  dsimp only
  refine m_E.ild hs (j := 4 * j + 1) (Or.inl rfl) (nI_add _ _) (by omega) (by omega) rfl ?_
  refine m_E.run 4 (pc1 := 715) (ls1 := [some _, some _, some _, some _, _, _, _, _]) (st1 := [_, _, _, _, _]) rfl ?_
  dsimp only
  refine m_E.ild hs (j := 4 * j + 2) (Or.inl rfl) (nI_add _ _) (by omega) (by omega) rfl ?_
  refine m_E.ov Hm.o (by decide) rfl rfl rfl (e_pack (d := 4) (x := (xs.getD (4 * j + 1) 0)) (y := (xs.getD (4 * j + 2) 0)) Hm R.1 ok.1 H.gsh) ?_
  refine m_E.ict (beq_self_eq_true _) rfl ?_
  exact K _ _ _ _ _ ⟨n, p, F, W, M, H, ok, Hm, okm, R, hs, by omega, by omega⟩
set_option maxRecDepth 100000 in
theorem l_count {xs : List Int32} {j : Nat} {v4 v5 v6 v7 : Option Value} {h : m_Hp} {Q : Option Value → m_Hp → Prop} (J : Jw xs j h) (hj : 4 * j + 4 ≤ xs.length) (hx : xs.length ≤ 2048) (K : ∀ h2 v4 v5 v6 v7, Jw xs (j + 1) h2 → m_E (m_Call m_P 8) tL_law 901 [some (.ref 3), some (.ref 4), some (.ref 61), some (.int (nI (4 * j))), v4, v5, v6, v7] [] h2 Q) : m_E (m_Call m_P 8) tL_law 724 [some (.ref 3), some (.ref 4), some (.ref 61), some (.int (nI (4 * j))), v4, v5, v6, v7] [] h Q := by
  obtain ⟨n, p, F, W, M, H, ok, Hm, okm, R, hs, hn, hp⟩ := J
  refine m_E.run 5 (pc1 := 729) (ls1 := [some _, some _, some _, some _, _, _, _, _]) (st1 := [_, _, _]) rfl ?_
  dsimp only
  refine m_E.ild hs (j := 4 * j + 1) (Or.inl rfl) (nI_add _ _) (by omega) (by omega) rfl ?_
  refine m_E.ov H.o (by decide) rfl rfl rfl (o_count (d := 2) (y := (xs.getD (4 * j + 1) 0)) H ok) ?_
  refine m_E.run 5 (pc1 := 738) (ls1 := [some _, some _, some _, some _, _, _, _, _]) (st1 := [_, _, _, _]) rfl ?_
  dsimp only
  refine m_E.ild hs (j := 4 * j + 1) (Or.inl rfl) (nI_add _ _) (by omega) (by omega) rfl ?_
  refine m_E.ov Hm.o (by decide) rfl rfl rfl (e_count (d := 4) (y := (xs.getD (4 * j + 1) 0)) Hm R.1 ok.1 H.gsh R.2.1.1 R.2.2.2.1) ?_
  refine m_E.ict (beq_self_eq_true _) rfl ?_
  exact K _ _ _ _ _ ⟨n, p, F, W, M, H, ok, Hm, okm, R, hs, by omega, by omega⟩
set_option maxRecDepth 100000 in
theorem l_why {xs : List Int32} {j : Nat} {v4 v5 v6 v7 : Option Value} {h : m_Hp} {Q : Option Value → m_Hp → Prop} (J : Jw xs j h) (hj : 4 * j + 4 ≤ xs.length) (hx : xs.length ≤ 2048) (K : ∀ h2 v4 v5 v6 v7, Jw xs (j + 1) h2 → m_E (m_Call m_P 8) tL_law 901 [some (.ref 3), some (.ref 4), some (.ref 61), some (.int (nI (4 * j))), v4, v5, v6, v7] [] h2 Q) : m_E (m_Call m_P 8) tL_law 747 [some (.ref 3), some (.ref 4), some (.ref 61), some (.int (nI (4 * j))), v4, v5, v6, v7] [] h Q := by
  obtain ⟨n, p, F, W, M, H, ok, Hm, okm, R, hs, hn, hp⟩ := J
  refine m_E.run 1 (pc1 := 748) (ls1 := [some _, some _, some _, some _, _, _, _, _]) (st1 := [_]) rfl ?_
  refine m_E.ov H.o (by decide) rfl rfl rfl (o_why (d := 1) H ok) ?_
  refine m_E.run 1 (pc1 := 752) (ls1 := [some _, some _, some _, some _, _, _, _, _]) (st1 := [_, _]) rfl ?_
  refine m_E.ov Hm.o (by decide) rfl rfl rfl (e_why (d := 4) Hm R.1 ok.1 H.gsh) ?_
  refine m_E.ict (beq_self_eq_true _) rfl ?_
  exact K _ _ _ _ _ ⟨n, p, F, W, M, H, ok, Hm, okm, R, hs, by omega, by omega⟩
set_option maxRecDepth 100000 in
theorem l_bestWay {xs : List Int32} {j : Nat} {v4 v5 v6 v7 : Option Value} {h : m_Hp} {Q : Option Value → m_Hp → Prop} (J : Jw xs j h) (hj : 4 * j + 4 ≤ xs.length) (hx : xs.length ≤ 2048) (K : ∀ h2 v4 v5 v6 v7, Jw xs (j + 1) h2 → m_E (m_Call m_P 8) tL_law 901 [some (.ref 3), some (.ref 4), some (.ref 61), some (.int (nI (4 * j))), v4, v5, v6, v7] [] h2 Q) : m_E (m_Call m_P 8) tL_law 865 [some (.ref 3), some (.ref 4), some (.ref 61), some (.int (nI (4 * j))), v4, v5, v6, v7] [] h Q := by
  obtain ⟨n, p, F, W, M, H, ok, Hm, okm, R, hs, hn, hp⟩ := J
  refine m_E.run 1 (pc1 := 866) (ls1 := [some _, some _, some _, some _, _, _, _, _]) (st1 := [_]) rfl ?_
  refine m_E.ov H.o (by decide) rfl rfl rfl (o_bestWay (d := 2) H ok) ?_
  refine m_E.run 1 (pc1 := 870) (ls1 := [some _, some _, some _, some _, _, _, _, _]) (st1 := [_, _]) rfl ?_
  refine m_E.ov Hm.o (by decide) rfl rfl rfl (e_bestWay (d := 4) Hm R.1 ok.1 H.gsh) ?_
  refine m_E.ict (beq_self_eq_true _) rfl ?_
  exact K _ _ _ _ _ ⟨n, p, F, W, M, H, ok, Hm, okm, R, hs, by omega, by omega⟩
set_option maxRecDepth 100000 in
theorem l_worstFlaw {xs : List Int32} {j : Nat} {v4 v5 v6 v7 : Option Value} {h : m_Hp} {Q : Option Value → m_Hp → Prop} (J : Jw xs j h) (hj : 4 * j + 4 ≤ xs.length) (hx : xs.length ≤ 2048) (K : ∀ h2 v4 v5 v6 v7, Jw xs (j + 1) h2 → m_E (m_Call m_P 8) tL_law 901 [some (.ref 3), some (.ref 4), some (.ref 61), some (.int (nI (4 * j))), v4, v5, v6, v7] [] h2 Q) : m_E (m_Call m_P 8) tL_law 842 [some (.ref 3), some (.ref 4), some (.ref 61), some (.int (nI (4 * j))), v4, v5, v6, v7] [] h Q := by
  obtain ⟨n, p, F, W, M, H, ok, Hm, okm, R, hs, hn, hp⟩ := J
  refine m_E.run 5 (pc1 := 847) (ls1 := [some _, some _, some _, some _, _, _, _, _]) (st1 := [_, _, _]) rfl ?_
  dsimp only
  refine m_E.ild hs (j := 4 * j + 1) (Or.inl rfl) (nI_add _ _) (by omega) (by omega) rfl ?_
  refine m_E.ov H.o (by decide) rfl rfl rfl (o_worstFlaw (d := 2) (y := (xs.getD (4 * j + 1) 0)) H ok) ?_
  refine m_E.run 5 (pc1 := 856) (ls1 := [some _, some _, some _, some _, _, _, _, _]) (st1 := [_, _, _, _]) rfl ?_
  dsimp only
  refine m_E.ild hs (j := 4 * j + 1) (Or.inl rfl) (nI_add _ _) (by omega) (by omega) rfl ?_
  obtain ⟨_, h2, p2, rfl, row, H2, lr, c2⟩ := e_worstFlaw (d := 5) (y := (xs.getD (4 * j + 1) 0)) Hm okm R.1 ok.1
  refine m_E.ov Hm.o (by decide) rfl rfl rfl (p2) ?_
  refine m_E.ict (beq_self_eq_true _) rfl ?_
  exact K _ _ _ _ _ ⟨n, p, F, W, _, H.mo c2, ok, H2, okm.seen lr, Rl.seen R row, (c2.2 3 (by decide)).trans hs, by omega, by omega⟩
set_option maxRecDepth 100000 in
theorem l_ifPrinted {xs : List Int32} {j : Nat} {v4 v5 v6 v7 : Option Value} {h : m_Hp} {Q : Option Value → m_Hp → Prop} (J : Jw xs j h) (hj : 4 * j + 4 ≤ xs.length) (hx : xs.length ≤ 2048) (K : ∀ h2 v4 v5 v6 v7, Jw xs (j + 1) h2 → m_E (m_Call m_P 8) tL_law 901 [some (.ref 3), some (.ref 4), some (.ref 61), some (.int (nI (4 * j))), v4, v5, v6, v7] [] h2 Q) : m_E (m_Call m_P 8) tL_law 803 [some (.ref 3), some (.ref 4), some (.ref 61), some (.int (nI (4 * j))), v4, v5, v6, v7] [] h Q := by
  obtain ⟨n, p, F, W, M, H, ok, Hm, okm, R, hs, hn, hp⟩ := J
  refine m_E.run 5 (pc1 := 808) (ls1 := [some _, some _, some _, some _, _, _, _, _]) (st1 := [_, _, _]) rfl ?_
  dsimp only
  refine m_E.ild hs (j := 4 * j + 1) (Or.inl rfl) (nI_add _ _) (by omega) (by omega) rfl ?_
  cases hb : ((xs.getD (4 * j + 1) 0) == 0)
  · skip
    refine m_E.iff (hb) rfl ?_
    refine m_E.run 2 (pc1 := 817) (ls1 := [some _, some _, some _, some _, _, _, _, _]) (st1 := [_, _]) rfl ?_
    refine m_E.ov H.o (by decide) rfl rfl rfl (o_ifPrinted (d := 2) (tu := true) H ok rfl) ?_
    refine m_E.run 5 (pc1 := 825) (ls1 := [some _, some _, some _, some _, _, _, _, _]) (st1 := [_, _, _, _]) rfl ?_
    dsimp only
    refine m_E.ild hs (j := 4 * j + 1) (Or.inl rfl) (nI_add _ _) (by omega) (by omega) rfl ?_
    refine m_E.iff (hb) rfl ?_
    refine m_E.run 2 (pc1 := 834) (ls1 := [some _, some _, some _, some _, _, _, _, _]) (st1 := [_, _, _]) rfl ?_
    obtain ⟨_, h2, p2, rfl, row, H2, lr, c2⟩ := e_ifPrinted (d := 5) (tu := true) Hm okm R.1 ok.1 rfl
    refine m_E.ov Hm.o (by decide) rfl rfl rfl (p2) ?_
    refine m_E.ict (beq_self_eq_true _) rfl ?_
    exact K _ _ _ _ _ ⟨n, p, F, W, _, H.mo c2, ok, H2, okm.seen lr, Rl.seen R row, (c2.2 3 (by decide)).trans hs, by omega, by omega⟩
  · skip
    refine m_E.ift (hb) rfl ?_
    refine m_E.run 1 (pc1 := 817) (ls1 := [some _, some _, some _, some _, _, _, _, _]) (st1 := [_, _]) rfl ?_
    refine m_E.ov H.o (by decide) rfl rfl rfl (o_ifPrinted (d := 2) (tu := false) H ok rfl) ?_
    refine m_E.run 5 (pc1 := 825) (ls1 := [some _, some _, some _, some _, _, _, _, _]) (st1 := [_, _, _, _]) rfl ?_
    dsimp only
    refine m_E.ild hs (j := 4 * j + 1) (Or.inl rfl) (nI_add _ _) (by omega) (by omega) rfl ?_
    refine m_E.ift (hb) rfl ?_
    refine m_E.run 1 (pc1 := 834) (ls1 := [some _, some _, some _, some _, _, _, _, _]) (st1 := [_, _, _]) rfl ?_
    obtain ⟨_, h2, p2, rfl, row, H2, lr, c2⟩ := e_ifPrinted (d := 5) (tu := false) Hm okm R.1 ok.1 rfl
    refine m_E.ov Hm.o (by decide) rfl rfl rfl (p2) ?_
    refine m_E.ict (beq_self_eq_true _) rfl ?_
    exact K _ _ _ _ _ ⟨n, p, F, W, _, H.mo c2, ok, H2, okm.seen lr, Rl.seen R row, (c2.2 3 (by decide)).trans hs, by omega, by omega⟩
set_option maxRecDepth 100000 in
theorem l_backIn {xs : List Int32} {j : Nat} {v4 v5 v6 v7 : Option Value} {h : m_Hp} {Q : Option Value → m_Hp → Prop} (J : Jw xs j h) (hj : 4 * j + 4 ≤ xs.length) (hx : xs.length ≤ 2048) (K : ∀ h2 v4 v5 v6 v7, Jw xs (j + 1) h2 → m_E (m_Call m_P 8) tL_law 901 [some (.ref 3), some (.ref 4), some (.ref 61), some (.int (nI (4 * j))), v4, v5, v6, v7] [] h2 Q) : m_E (m_Call m_P 8) tL_law 878 [some (.ref 3), some (.ref 4), some (.ref 61), some (.int (nI (4 * j))), v4, v5, v6, v7] [] h Q := by
  obtain ⟨n, p, F, W, M, H, ok, Hm, okm, R, hs, hn, hp⟩ := J
  refine m_E.run 5 (pc1 := 883) (ls1 := [some _, some _, some _, some _, _, _, _, _]) (st1 := [_, _, _]) rfl ?_
  dsimp only
  refine m_E.ild hs (j := 4 * j + 1) (Or.inl rfl) (nI_add _ _) (by omega) (by omega) rfl ?_
  refine m_E.ov H.o (by decide) rfl rfl rfl (o_backIn (d := 2) (x := (xs.getD (4 * j + 1) 0)) H ok) ?_
  refine m_E.run 5 (pc1 := 892) (ls1 := [some _, some _, some _, some _, _, _, _, _]) (st1 := [_, _, _, _]) rfl ?_
  dsimp only
  refine m_E.ild hs (j := 4 * j + 1) (Or.inl rfl) (nI_add _ _) (by omega) (by omega) rfl ?_
  obtain ⟨_, h2, p2, rfl, M2, H2, okm2, R2, c2⟩ := e_backIn (d := 5) (x := (xs.getD (4 * j + 1) 0)) Hm okm R ok.1
  refine m_E.ov Hm.o (by decide) rfl rfl rfl (p2) ?_
  refine m_E.ict (beq_self_eq_true _) rfl ?_
  exact K _ _ _ _ _ ⟨n, p, F, W, M2, H.mo c2, ok, H2, okm2, R2, (c2.2 3 (by decide)).trans hs, by omega, by omega⟩
