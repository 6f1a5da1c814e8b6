/-! the law's calls -/
set_option maxRecDepth 100000 in
theorem l_lean {xs : List Int32} {j : Nat} {v4 v5 v6 v7 : Option Value} {h : m_Hp} {Q : Option Value → m_Hp → Prop} (J : Jw xs j h) (hj : 4 * j + 4 ≤ xs.length) (hx : xs.length ≤ 2048) (K : ∀ h2 v4 v5 v6 v7, Jw xs (j + 1) h2 → m_E (m_Call m_P 8) tL_law 901 [some (.ref 3), some (.ref 4), some (.ref 61), some (.int (nI (4 * j))), v4, v5, v6, v7] [] h2 Q) : m_E (m_Call m_P 8) tL_law 256 [some (.ref 3), some (.ref 4), some (.ref 61), some (.int (nI (4 * j))), v4, v5, v6, v7] [] h Q := by
  obtain ⟨n, p, F, W, M, H, ok, Hm, okm, R, hs, hn, hp⟩ := J
  refine m_E.run 5 (pc1 := 261) (ls1 := [some _, some _, some _, some _, _, _, _, _]) (st1 := [_, _, _]) rfl ?_
  dsimp only
  refine m_E.ild hs (j := 4 * j + 1) (Or.inl rfl) (nI_add _ _) (by omega) (by omega) rfl ?_
  refine m_E.run 4 (pc1 := 266) (ls1 := [some _, some _, some _, some _, _, _, _, _]) (st1 := [_, _, _, _]) rfl ?_
  dsimp only
  refine m_E.ild hs (j := 4 * j + 2) (Or.inl rfl) (nI_add _ _) (by omega) (by omega) rfl ?_
  obtain ⟨_, h1, p1, rfl, H1, ok1, f1, l1⟩ := o_lean (d := 2) (x := (xs.getD (4 * j + 1) 0)) (y := (xs.getD (4 * j + 2) 0)) H ok
  refine m_E.ov H.o (by decide) rfl rfl rfl (p1) ?_
  have Hm1 := Hm.frm f1
  have hs1 := Frm.row H hs f1
  refine m_E.run 5 (pc1 := 275) (ls1 := [some _, some _, some _, some _, _, _, _, _]) (st1 := [_, _, _, _]) rfl ?_
  dsimp only
  refine m_E.ild hs1 (j := 4 * j + 1) (Or.inl rfl) (nI_add _ _) (by omega) (by omega) rfl ?_
  refine m_E.run 4 (pc1 := 280) (ls1 := [some _, some _, some _, some _, _, _, _, _]) (st1 := [_, _, _, _, _]) rfl ?_
  dsimp only
  refine m_E.ild hs1 (j := 4 * j + 2) (Or.inl rfl) (nI_add _ _) (by omega) (by omega) rfl ?_
  obtain ⟨_, h2, p2, rfl, M2, H2, okm2, R2, c2⟩ := e_lean (d := 5) (x := (xs.getD (4 * j + 1) 0)) (y := (xs.getD (4 * j + 2) 0)) Hm1 okm R ok.1
  refine m_E.ov Hm1.o (by decide) rfl rfl rfl (p2) ?_
  refine m_E.ict (beq_self_eq_true _) rfl ?_
  exact K _ _ _ _ _ ⟨n, p, F, _, M2, H1.mo c2, ok1, H2, okm2, R2, (c2.2 3 (by decide)).trans hs1, by omega, by omega⟩
set_option maxRecDepth 100000 in
theorem l_set {xs : List Int32} {j : Nat} {v4 v5 v6 v7 : Option Value} {h : m_Hp} {Q : Option Value → m_Hp → Prop} (J : Jw xs j h) (hj : 4 * j + 4 ≤ xs.length) (hx : xs.length ≤ 2048) (K : ∀ h2 v4 v5 v6 v7, Jw xs (j + 1) h2 → m_E (m_Call m_P 8) tL_law 901 [some (.ref 3), some (.ref 4), some (.ref 61), some (.int (nI (4 * j))), v4, v5, v6, v7] [] h2 Q) : m_E (m_Call m_P 8) tL_law 302 [some (.ref 3), some (.ref 4), some (.ref 61), some (.int (nI (4 * j))), v4, v5, v6, v7] [] h Q := by
  obtain ⟨n, p, F, W, M, H, ok, Hm, okm, R, hs, hn, hp⟩ := J
  refine m_E.run 5 (pc1 := 307) (ls1 := [some _, some _, some _, some _, _, _, _, _]) (st1 := [_, _, _]) rfl ?_
  dsimp only
  refine m_E.ild hs (j := 4 * j + 1) (Or.inl rfl) (nI_add _ _) (by omega) (by omega) rfl ?_
  refine m_E.run 4 (pc1 := 312) (ls1 := [some _, some _, some _, some _, _, _, _, _]) (st1 := [_, _, _, _]) rfl ?_
  dsimp only
  refine m_E.ild hs (j := 4 * j + 2) (Or.inl rfl) (nI_add _ _) (by omega) (by omega) rfl ?_
  obtain ⟨_, h1, p1, rfl, H1, ok1, f1, l1⟩ := o_set (d := 2) (x := (xs.getD (4 * j + 1) 0)) (y := (xs.getD (4 * j + 2) 0)) H ok
  refine m_E.ov H.o (by decide) rfl rfl rfl (p1) ?_
  have Hm1 := Hm.frm f1
  have hs1 := Frm.row H hs f1
  refine m_E.run 5 (pc1 := 321) (ls1 := [some _, some _, some _, some _, _, _, _, _]) (st1 := [_, _, _, _]) rfl ?_
  dsimp only
  refine m_E.ild hs1 (j := 4 * j + 1) (Or.inl rfl) (nI_add _ _) (by omega) (by omega) rfl ?_
  refine m_E.run 4 (pc1 := 326) (ls1 := [some _, some _, some _, some _, _, _, _, _]) (st1 := [_, _, _, _, _]) rfl ?_
  dsimp only
  refine m_E.ild hs1 (j := 4 * j + 2) (Or.inl rfl) (nI_add _ _) (by omega) (by omega) rfl ?_
  obtain ⟨_, h2, p2, rfl, M2, H2, okm2, R2, c2⟩ := e_set (d := 5) (x := (xs.getD (4 * j + 1) 0)) (y := (xs.getD (4 * j + 2) 0)) Hm1 okm R ok.1
  refine m_E.ov Hm1.o (by decide) rfl rfl rfl (p2) ?_
  refine m_E.ict (beq_self_eq_true _) rfl ?_
  exact K _ _ _ _ _ ⟨n, p, F, _, M2, H1.mo c2, ok1, H2, okm2, R2, (c2.2 3 (by decide)).trans hs1, by omega, by omega⟩
set_option maxRecDepth 100000 in
theorem l_cutSheet {xs : List Int32} {j : Nat} {v4 v5 v6 v7 : Option Value} {h : m_Hp} {Q : Option Value → m_Hp → Prop} (J : Jw xs j h) (hj : 4 * j + 4 ≤ xs.length) (hx : xs.length ≤ 2048) (K : ∀ h2 v4 v5 v6 v7, Jw xs (j + 1) h2 → m_E (m_Call m_P 8) tL_law 901 [some (.ref 3), some (.ref 4), some (.ref 61), some (.int (nI (4 * j))), v4, v5, v6, v7] [] h2 Q) : m_E (m_Call m_P 8) tL_law 374 [some (.ref 3), some (.ref 4), some (.ref 61), some (.int (nI (4 * j))), v4, v5, v6, v7] [] h Q := by
  obtain ⟨n, p, F, W, M, H, ok, Hm, okm, R, hs, hn, hp⟩ := J
  refine m_E.run 5 (pc1 := 379) (ls1 := [some _, some _, some _, some _, _, _, _, _]) (st1 := [_, _, _]) rfl ?_
  dsimp only
  refine m_E.ild hs (j := 4 * j + 1) (Or.inl rfl) (nI_add _ _) (by omega) (by omega) rfl ?_
  obtain ⟨_, h1, p1, rfl, H1, ok1, f1, l1⟩ := o_cutSheet (d := 2) (x := (xs.getD (4 * j + 1) 0)) H ok
  refine m_E.ov H.o (by decide) rfl rfl rfl (p1) ?_
  have Hm1 := Hm.frm f1
  have hs1 := Frm.row H hs f1
  refine m_E.run 5 (pc1 := 388) (ls1 := [some _, some _, some _, some _, _, _, _, _]) (st1 := [_, _, _, _]) rfl ?_
  dsimp only
  refine m_E.ild hs1 (j := 4 * j + 1) (Or.inl rfl) (nI_add _ _) (by omega) (by omega) rfl ?_
  obtain ⟨_, h2, p2, rfl, M2, H2, okm2, R2, c2⟩ := e_cutSheet (d := 5) (x := (xs.getD (4 * j + 1) 0)) Hm1 okm R ok.1 H.gsh
  refine m_E.ov Hm1.o (by decide) rfl rfl rfl (p2) ?_
  refine m_E.ict (beq_self_eq_true _) rfl ?_
  exact K _ _ _ _ _ ⟨n, p, F, _, M2, H1.mo c2, ok1, H2, okm2, R2, (c2.2 3 (by decide)).trans hs1, by omega, by omega⟩
set_option maxRecDepth 100000 in
theorem l_cutPack {xs : List Int32} {j : Nat} {v4 v5 v6 v7 : Option Value} {h : m_Hp} {Q : Option Value → m_Hp → Prop} (J : Jw xs j h) (hj : 4 * j + 4 ≤ xs.length) (hx : xs.length ≤ 2048) (K : ∀ h2 v4 v5 v6 v7, Jw xs (j + 1) h2 → m_E (m_Call m_P 8) tL_law 901 [some (.ref 3), some (.ref 4), some (.ref 61), some (.int (nI (4 * j))), v4, v5, v6, v7] [] h2 Q) : m_E (m_Call m_P 8) tL_law 397 [some (.ref 3), some (.ref 4), some (.ref 61), some (.int (nI (4 * j))), v4, v5, v6, v7] [] h Q := by
  obtain ⟨n, p, F, W, M, H, ok, Hm, okm, R, hs, hn, hp⟩ := J
  refine m_E.run 5 (pc1 := 402) (ls1 := [some _, some _, some _, some _, _, _, _, _]) (st1 := [_, _, _]) rfl ?_
  dsimp only
  refine m_E.ild hs (j := 4 * j + 1) (Or.inl rfl) (nI_add _ _) (by omega) (by omega) rfl ?_
  obtain ⟨_, h1, p1, rfl, H1, ok1, f1, l1⟩ := o_cutPack (d := 2) (x := (xs.getD (4 * j + 1) 0)) H ok
  refine m_E.ov H.o (by decide) rfl rfl rfl (p1) ?_
  have Hm1 := Hm.frm f1
  have hs1 := Frm.row H hs f1
  refine m_E.run 5 (pc1 := 411) (ls1 := [some _, some _, some _, some _, _, _, _, _]) (st1 := [_, _, _, _]) rfl ?_
  dsimp only
  refine m_E.ild hs1 (j := 4 * j + 1) (Or.inl rfl) (nI_add _ _) (by omega) (by omega) rfl ?_
  obtain ⟨_, h2, p2, rfl, M2, H2, okm2, R2, c2⟩ := e_cutPack (d := 5) (x := (xs.getD (4 * j + 1) 0)) Hm1 okm R ok.1
  refine m_E.ov Hm1.o (by decide) rfl rfl rfl (p2) ?_
  refine m_E.ict (beq_self_eq_true _) rfl ?_
  exact K _ _ _ _ _ ⟨n, p, F, _, M2, H1.mo c2, ok1, H2, okm2, R2, (c2.2 3 (by decide)).trans hs1, by omega, by omega⟩
set_option maxRecDepth 100000 in
theorem l_shuffle {xs : List Int32} {j : Nat} {v4 v5 v6 v7 : Option Value} {h : m_Hp} {Q : Option Value → m_Hp → Prop} (J : Jw xs j h) (hj : 4 * j + 4 ≤ xs.length) (hx : xs.length ≤ 2048) (K : ∀ h2 v4 v5 v6 v7, Jw xs (j + 1) h2 → m_E (m_Call m_P 8) tL_law 901 [some (.ref 3), some (.ref 4), some (.ref 61), some (.int (nI (4 * j))), v4, v5, v6, v7] [] h2 Q) : m_E (m_Call m_P 8) tL_law 420 [some (.ref 3), some (.ref 4), some (.ref 61), some (.int (nI (4 * j))), v4, v5, v6, v7] [] h Q := by
  obtain ⟨n, p, F, W, M, H, ok, Hm, okm, R, hs, hn, hp⟩ := J
  refine m_E.run 5 (pc1 := 425) (ls1 := [some _, some _, some _, some _, _, _, _, _]) (st1 := [_, _, _]) rfl ?_
  dsimp only
  refine m_E.ild hs (j := 4 * j + 1) (Or.inl rfl) (nI_add _ _) (by omega) (by omega) rfl ?_
  obtain ⟨_, h1, p1, rfl, H1, ok1, f1, l1⟩ := o_shuffle (d := 2) (x := (xs.getD (4 * j + 1) 0)) H ok
  refine m_E.ov H.o (by decide) rfl rfl rfl (p1) ?_
  have Hm1 := Hm.frm f1
  have hs1 := Frm.row H hs f1
  refine m_E.run 5 (pc1 := 434) (ls1 := [some _, some _, some _, some _, _, _, _, _]) (st1 := [_, _, _, _]) rfl ?_
  dsimp only
  refine m_E.ild hs1 (j := 4 * j + 1) (Or.inl rfl) (nI_add _ _) (by omega) (by omega) rfl ?_
  obtain ⟨_, h2, p2, rfl, M2, H2, okm2, R2, c2⟩ := e_shuffle (d := 5) (x := (xs.getD (4 * j + 1) 0)) Hm1 okm R ok.1
  refine m_E.ov Hm1.o (by decide) rfl rfl rfl (p2) ?_
  refine m_E.ict (beq_self_eq_true _) rfl ?_
  exact K _ _ _ _ _ ⟨n, p, F, _, M2, H1.mo c2, ok1, H2, okm2, R2, (c2.2 3 (by decide)).trans hs1, by omega, by omega⟩
set_option maxRecDepth 100000 in
theorem l_deal {xs : List Int32} {j : Nat} {v4 v5 v6 v7 : Option Value} {h : m_Hp} {Q : Option Value → m_Hp → Prop} (J : Jw xs j h) (hj : 4 * j + 4 ≤ xs.length) (hx : xs.length ≤ 2048) (K : ∀ h2 v4 v5 v6 v7, Jw xs (j + 1) h2 → m_E (m_Call m_P 8) tL_law 901 [some (.ref 3), some (.ref 4), some (.ref 61), some (.int (nI (4 * j))), v4, v5, v6, v7] [] h2 Q) : m_E (m_Call m_P 8) tL_law 443 [some (.ref 3), some (.ref 4), some (.ref 61), some (.int (nI (4 * j))), v4, v5, v6, v7] [] h Q := by
  obtain ⟨n, p, F, W, M, H, ok, Hm, okm, R, hs, hn, hp⟩ := J
  refine m_E.run 5 (pc1 := 448) (ls1 := [some _, some _, some _, some _, _, _, _, _]) (st1 := [_, _, _]) rfl ?_
  dsimp only
  refine m_E.ild hs (j := 4 * j + 1) (Or.inl rfl) (nI_add _ _) (by omega) (by omega) rfl ?_
  obtain ⟨_, h1, p1, rfl, H1, ok1, f1, l1⟩ := o_deal (d := 2) (x := (xs.getD (4 * j + 1) 0)) H ok
  refine m_E.ov H.o (by decide) rfl rfl rfl (p1) ?_
  have Hm1 := Hm.frm f1
  have hs1 := Frm.row H hs f1
  refine m_E.run 5 (pc1 := 457) (ls1 := [some _, some _, some _, some _, _, _, _, _]) (st1 := [_, _, _, _]) rfl ?_
  dsimp only
  refine m_E.ild hs1 (j := 4 * j + 1) (Or.inl rfl) (nI_add _ _) (by omega) (by omega) rfl ?_
  obtain ⟨_, h2, p2, rfl, M2, H2, okm2, R2, c2⟩ := e_deal (d := 5) (x := (xs.getD (4 * j + 1) 0)) Hm1 okm R ok.1
  refine m_E.ov Hm1.o (by decide) rfl rfl rfl (p2) ?_
  refine m_E.ict (beq_self_eq_true _) rfl ?_
  exact K _ _ _ _ _ ⟨n, p, F, _, M2, H1.mo c2, ok1, H2, okm2, R2, (c2.2 3 (by decide)).trans hs1, by omega, by omega⟩
set_option maxRecDepth 100000 in
theorem l_sell {xs : List Int32} {j : Nat} {v4 v5 v6 v7 : Option Value} {h : m_Hp} {Q : Option Value → m_Hp → Prop} (J : Jw xs j h) (hj : 4 * j + 4 ≤ xs.length) (hx : xs.length ≤ 2048) (K : ∀ h2 v4 v5 v6 v7, Jw xs (j + 1) h2 → m_E (m_Call m_P 8) tL_law 901 [some (.ref 3), some (.ref 4), some (.ref 61), some (.int (nI (4 * j))), v4, v5, v6, v7] [] h2 Q) : m_E (m_Call m_P 8) tL_law 466 [some (.ref 3), some (.ref 4), some (.ref 61), some (.int (nI (4 * j))), v4, v5, v6, v7] [] h Q := by
  obtain ⟨n, p, F, W, M, H, ok, Hm, okm, R, hs, hn, hp⟩ := J
  refine m_E.run 1 (pc1 := 467) (ls1 := [some _, some _, some _, some _, _, _, _, _]) (st1 := [_]) rfl ?_
  obtain ⟨_, h1, p1, rfl, H1, ok1, f1, l1⟩ := o_sell (d := 1) H ok
  refine m_E.ov H.o (by decide) rfl rfl rfl (p1) ?_
  have Hm1 := Hm.frm f1
  have hs1 := Frm.row H hs f1
  refine m_E.run 1 (pc1 := 471) (ls1 := [some _, some _, some _, some _, _, _, _, _]) (st1 := [_, _]) rfl ?_
  obtain ⟨_, h2, p2, rfl, M2, H2, okm2, R2, c2⟩ := e_sell (d := 4) Hm1 okm R ok.1 H.gsh
  refine m_E.ov Hm1.o (by decide) rfl rfl rfl (p2) ?_
  refine m_E.ict (beq_self_eq_true _) rfl ?_
  exact K _ _ _ _ _ ⟨n, p, F, _, M2, H1.mo c2, ok1, H2, okm2, R2, (c2.2 3 (by decide)).trans hs1, by omega, by omega⟩
set_option maxRecDepth 100000 in
theorem l_pulp {xs : List Int32} {j : Nat} {v4 v5 v6 v7 : Option Value} {h : m_Hp} {Q : Option Value → m_Hp → Prop} (J : Jw xs j h) (hj : 4 * j + 4 ≤ xs.length) (hx : xs.length ≤ 2048) (K : ∀ h2 v4 v5 v6 v7, Jw xs (j + 1) h2 → m_E (m_Call m_P 8) tL_law 901 [some (.ref 3), some (.ref 4), some (.ref 61), some (.int (nI (4 * j))), v4, v5, v6, v7] [] h2 Q) : m_E (m_Call m_P 8) tL_law 479 [some (.ref 3), some (.ref 4), some (.ref 61), some (.int (nI (4 * j))), v4, v5, v6, v7] [] h Q := by
  obtain ⟨n, p, F, W, M, H, ok, Hm, okm, R, hs, hn, hp⟩ := J
  refine m_E.run 1 (pc1 := 480) (ls1 := [some _, some _, some _, some _, _, _, _, _]) (st1 := [_]) rfl ?_
  obtain ⟨_, h1, p1, rfl, H1, ok1, f1, l1⟩ := o_pulp (d := 2) H ok
  refine m_E.ov H.o (by decide) rfl rfl rfl (p1) ?_
  have Hm1 := Hm.frm f1
  have hs1 := Frm.row H hs f1
  refine m_E.run 1 (pc1 := 484) (ls1 := [some _, some _, some _, some _, _, _, _, _]) (st1 := [_, _]) rfl ?_
  obtain ⟨_, h2, p2, rfl, M2, H2, okm2, R2, c2⟩ := e_pulp (d := 5) Hm1 okm R ok.1
  refine m_E.ov Hm1.o (by decide) rfl rfl rfl (p2) ?_
  refine m_E.ict (beq_self_eq_true _) rfl ?_
  exact K _ _ _ _ _ ⟨n, p, F, _, M2, H1.mo c2, ok1, H2, okm2, R2, (c2.2 3 (by decide)).trans hs1, by omega, by omega⟩
set_option maxRecDepth 100000 in
theorem l_clearText {xs : List Int32} {j : Nat} {v4 v5 v6 v7 : Option Value} {h : m_Hp} {Q : Option Value → m_Hp → Prop} (J : Jw xs j h) (hj : 4 * j + 4 ≤ xs.length) (hx : xs.length ≤ 2048) (K : ∀ h2 v4 v5 v6 v7, Jw xs (j + 1) h2 → m_E (m_Call m_P 8) tL_law 901 [some (.ref 3), some (.ref 4), some (.ref 61), some (.int (nI (4 * j))), v4, v5, v6, v7] [] h2 Q) : m_E (m_Call m_P 8) tL_law 517 [some (.ref 3), some (.ref 4), some (.ref 61), some (.int (nI (4 * j))), v4, v5, v6, v7] [] h Q := by
  obtain ⟨n, p, F, W, M, H, ok, Hm, okm, R, hs, hn, hp⟩ := J
  refine m_E.run 1 (pc1 := 518) (ls1 := [some _, some _, some _, some _, _, _, _, _]) (st1 := [_]) rfl ?_
  obtain ⟨_, h1, p1, rfl, H1, ok1, f1, l1⟩ := o_clearText (d := 2) H ok
  refine m_E.ov H.o (by decide) rfl rfl rfl (p1) ?_
  have Hm1 := Hm.frm f1
  have hs1 := Frm.row H hs f1
  refine m_E.run 1 (pc1 := 522) (ls1 := [some _, some _, some _, some _, _, _, _, _]) (st1 := [_, _]) rfl ?_
  obtain ⟨_, h2, p2, rfl, M2, H2, okm2, R2, c2⟩ := e_clearText (d := 7) Hm1 okm R
  refine m_E.ov Hm1.o (by decide) rfl rfl rfl (p2) ?_
  refine m_E.ict (beq_self_eq_true _) rfl ?_
  exact K _ _ _ _ _ ⟨n, p, F, _, M2, H1.mo c2, ok1, H2, okm2, R2, (c2.2 3 (by decide)).trans hs1, by omega, by omega⟩
set_option maxRecDepth 100000 in
theorem l_keep {xs : List Int32} {j : Nat} {v4 v5 v6 v7 : Option Value} {h : m_Hp} {Q : Option Value → m_Hp → Prop} (J : Jw xs j h) (hj : 4 * j + 4 ≤ xs.length) (hx : xs.length ≤ 2048) (K : ∀ h2 v4 v5 v6 v7, Jw xs (j + 1) h2 → m_E (m_Call m_P 8) tL_law 901 [some (.ref 3), some (.ref 4), some (.ref 61), some (.int (nI (4 * j))), v4, v5, v6, v7] [] h2 Q) : m_E (m_Call m_P 8) tL_law 556 [some (.ref 3), some (.ref 4), some (.ref 61), some (.int (nI (4 * j))), v4, v5, v6, v7] [] h Q := by
  obtain ⟨n, p, F, W, M, H, ok, Hm, okm, R, hs, hn, hp⟩ := J
  refine m_E.run 1 (pc1 := 557) (ls1 := [some _, some _, some _, some _, _, _, _, _]) (st1 := [_]) rfl ?_
  obtain ⟨_, h1, p1, rfl, H1, ok1, f1, l1⟩ := o_keep (d := 2) H ok
  refine m_E.ov H.o (by decide) rfl rfl rfl (p1) ?_
  have Hm1 := Hm.frm f1
  have hs1 := Frm.row H hs f1
  refine m_E.run 1 (pc1 := 561) (ls1 := [some _, some _, some _, some _, _, _, _, _]) (st1 := [_, _]) rfl ?_
  obtain ⟨_, h2, p2, rfl, M2, H2, okm2, R2, c2⟩ := e_keep2 (d := 7) Hm1 okm R
  refine m_E.ov Hm1.o (by decide) rfl rfl rfl (p2) ?_
  refine m_E.ict (beq_self_eq_true _) rfl ?_
  exact K _ _ _ _ _ ⟨n, p, F, _, M2, H1.mo c2, ok1, H2, okm2, R2, (c2.2 3 (by decide)).trans hs1, by omega, by omega⟩
