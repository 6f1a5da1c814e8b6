/-! the law's calls -/
set_option maxRecDepth 100000 in
theorem l_mark {xs : List Int32} {j : Nat} {v4 v5 v6 v7 : Option Value} {h : m_Hp} {Q : Option Value → m_Hp → Prop} (J : Jw xs j h) (hj : 4 * j + 4 ≤ xs.length) (hx : xs.length ≤ 2048) (K : ∀ h2 v4 v5 v6 v7, Jw xs (j + 1) h2 → m_E (m_Call m_P 8) tL_law 901 [some (.ref 3), some (.ref 4), some (.ref 61), some (.int (nI (4 * j))), v4, v5, v6, v7] [] h2 Q) : m_E (m_Call m_P 8) tL_law 197 [some (.ref 3), some (.ref 4), some (.ref 61), some (.int (nI (4 * j))), v4, v5, v6, v7] [] h Q := by
  obtain ⟨n, p, F, W, M, H, ok, Hm, okm, R, hs, hn, hp⟩ := J
  refine m_E.run 5 (pc1 := 202) (ls1 := [some _, some _, some _, some _, _, _, _, _]) (st1 := [_, _, _]) rfl ?_
  dsimp only
  refine m_E.ild hs (j := 4 * j + 1) (Or.inl rfl) (nI_add _ _) (by omega) (by omega) rfl ?_
  refine m_E.run 4 (pc1 := 207) (ls1 := [some _, some _, some _, some _, _, _, _, _]) (st1 := [_, _, _, _]) rfl ?_
  dsimp only
  refine m_E.ild hs (j := 4 * j + 2) (Or.inl rfl) (nI_add _ _) (by omega) (by omega) rfl ?_
  refine m_E.run 4 (pc1 := 212) (ls1 := [some _, some _, some _, some _, _, _, _, _]) (st1 := [_, _, _, _, _]) rfl ?_
  dsimp only
  refine m_E.ild hs (j := 4 * j + 3) (Or.inl rfl) (nI_add _ _) (by omega) (by omega) rfl ?_
  cases hb : ((xs.getD (4 * j + 3) 0) == 0)
  · skip
    refine m_E.iff (hb) rfl ?_
    refine m_E.run 2 (pc1 := 221) (ls1 := [some _, some _, some _, some _, _, _, _, _]) (st1 := [_, _, _, _]) rfl ?_
    obtain ⟨_, h1, p1, rfl, H1, ok1, f1, l1⟩ := o_mark (d := 2) (is := true) (x := (xs.getD (4 * j + 1) 0)) (y := (xs.getD (4 * j + 2) 0)) H ok rfl
    refine m_E.ov H.o (by decide) rfl rfl rfl (p1) ?_
    have Hm1 := Hm.frm f1
    have hs1 := Frm.row H hs f1
    refine m_E.run 5 (pc1 := 229) (ls1 := [some _, some _, some _, some _, _, _, _, _]) (st1 := [_, _, _, _]) rfl ?_
    dsimp only
    refine m_E.ild hs1 (j := 4 * j + 1) (Or.inl rfl) (nI_add _ _) (by omega) (by omega) rfl ?_
    refine m_E.run 4 (pc1 := 234) (ls1 := [some _, some _, some _, some _, _, _, _, _]) (st1 := [_, _, _, _, _]) rfl ?_
    dsimp only
    refine m_E.ild hs1 (j := 4 * j + 2) (Or.inl rfl) (nI_add _ _) (by omega) (by omega) rfl ?_
    refine m_E.run 4 (pc1 := 239) (ls1 := [some _, some _, some _, some _, _, _, _, _]) (st1 := [_, _, _, _, _, _]) rfl ?_
    dsimp only
    refine m_E.ild hs1 (j := 4 * j + 3) (Or.inl rfl) (nI_add _ _) (by omega) (by omega) rfl ?_
    refine m_E.iff (hb) rfl ?_
    refine m_E.run 2 (pc1 := 248) (ls1 := [some _, some _, some _, some _, _, _, _, _]) (st1 := [_, _, _, _, _]) rfl ?_
    obtain ⟨_, h2, p2, rfl, M2, H2, okm2, R2, c2⟩ := e_mark (d := 5) (is := true) (x := (xs.getD (4 * j + 1) 0)) (y := (xs.getD (4 * j + 2) 0)) Hm1 okm R ok.1 rfl
    refine m_E.ov Hm1.o (by decide) rfl rfl rfl (p2) ?_
    refine m_E.ict (beq_self_eq_true _) rfl ?_
    exact K _ _ _ _ _ ⟨n, p, F, _, M2, H1.mo c2, ok1, H2, okm2, R2, (c2.2 3 (by decide)).trans hs1, by omega, by omega⟩
  · skip
    refine m_E.ift (hb) rfl ?_
    refine m_E.run 1 (pc1 := 221) (ls1 := [some _, some _, some _, some _, _, _, _, _]) (st1 := [_, _, _, _]) rfl ?_
    obtain ⟨_, h1, p1, rfl, H1, ok1, f1, l1⟩ := o_mark (d := 2) (is := false) (x := (xs.getD (4 * j + 1) 0)) (y := (xs.getD (4 * j + 2) 0)) H ok rfl
    refine m_E.ov H.o (by decide) rfl rfl rfl (p1) ?_
    have Hm1 := Hm.frm f1
    have hs1 := Frm.row H hs f1
    refine m_E.run 5 (pc1 := 229) (ls1 := [some _, some _, some _, some _, _, _, _, _]) (st1 := [_, _, _, _]) rfl ?_
    dsimp only
    refine m_E.ild hs1 (j := 4 * j + 1) (Or.inl rfl) (nI_add _ _) (by omega) (by omega) rfl ?_
    refine m_E.run 4 (pc1 := 234) (ls1 := [some _, some _, some _, some _, _, _, _, _]) (st1 := [_, _, _, _, _]) rfl ?_
    dsimp only
    refine m_E.ild hs1 (j := 4 * j + 2) (Or.inl rfl) (nI_add _ _) (by omega) (by omega) rfl ?_
    refine m_E.run 4 (pc1 := 239) (ls1 := [some _, some _, some _, some _, _, _, _, _]) (st1 := [_, _, _, _, _, _]) rfl ?_
    dsimp only
    refine m_E.ild hs1 (j := 4 * j + 3) (Or.inl rfl) (nI_add _ _) (by omega) (by omega) rfl ?_
    refine m_E.ift (hb) rfl ?_
    refine m_E.run 1 (pc1 := 248) (ls1 := [some _, some _, some _, some _, _, _, _, _]) (st1 := [_, _, _, _, _]) rfl ?_
    obtain ⟨_, h2, p2, rfl, M2, H2, okm2, R2, c2⟩ := e_mark (d := 5) (is := false) (x := (xs.getD (4 * j + 1) 0)) (y := (xs.getD (4 * j + 2) 0)) Hm1 okm R ok.1 rfl
    refine m_E.ov Hm1.o (by decide) rfl rfl rfl (p2) ?_
    refine m_E.ict (beq_self_eq_true _) rfl ?_
    exact K _ _ _ _ _ ⟨n, p, F, _, M2, H1.mo c2, ok1, H2, okm2, R2, (c2.2 3 (by decide)).trans hs1, by omega, by omega⟩
set_option maxRecDepth 100000 in
theorem l_print {xs : List Int32} {j : Nat} {v4 v5 v6 v7 : Option Value} {h : m_Hp} {Q : Option Value → m_Hp → Prop} (J : Jw xs j h) (hj : 4 * j + 4 ≤ xs.length) (hx : xs.length ≤ 2048) (K : ∀ h2 v4 v5 v6 v7, Jw xs (j + 1) h2 → m_E (m_Call m_P 8) tL_law 901 [some (.ref 3), some (.ref 4), some (.ref 61), some (.int (nI (4 * j))), v4, v5, v6, v7] [] h2 Q) : m_E (m_Call m_P 8) tL_law 335 [some (.ref 3), some (.ref 4), some (.ref 61), some (.int (nI (4 * j))), v4, v5, v6, v7] [] h Q := by
  obtain ⟨n, p, F, W, M, H, ok, Hm, okm, R, hs, hn, hp⟩ := J
  refine m_E.run 5 (pc1 := 340) (ls1 := [some _, some _, some _, some _, _, _, _, _]) (st1 := [_, _, _]) rfl ?_
  dsimp only
  refine m_E.ild hs (j := 4 * j + 1) (Or.inl rfl) (nI_add _ _) (by omega) (by omega) rfl ?_
  cases hb : ((xs.getD (4 * j + 1) 0) == 0)
  · skip
    refine m_E.iff (hb) rfl ?_
    refine m_E.run 2 (pc1 := 349) (ls1 := [some _, some _, some _, some _, _, _, _, _]) (st1 := [_, _]) rfl ?_
    by_cases hf : c_piled (w_now W) < 6
    · skip
      obtain ⟨_, h1, p1, rfl, H1, ok1, f1⟩ := o_print (d := 2) (tu := true) H ok hf (by omega) rfl
      refine m_E.ov H.o (by decide) rfl rfl rfl (p1) ?_
      have Hm1 := Hm.frm f1
      have hs1 := Frm.row H hs f1
      refine m_E.run 5 (pc1 := 357) (ls1 := [some _, some _, some _, some _, _, _, _, _]) (st1 := [_, _, _, _]) rfl ?_
      dsimp only
      refine m_E.ild hs1 (j := 4 * j + 1) (Or.inl rfl) (nI_add _ _) (by omega) (by omega) rfl ?_
      refine m_E.iff (hb) rfl ?_
      refine m_E.run 2 (pc1 := 366) (ls1 := [some _, some _, some _, some _, _, _, _, _]) (st1 := [_, _, _]) rfl ?_
      obtain ⟨_, h2, p2, rfl, M2, H2, okm2, R2, c2⟩ := e_print (d := 5) (tu := true) Hm1 okm R ok hf (by omega) rfl
      refine m_E.ov Hm1.o (by decide) rfl rfl rfl (p2) ?_
      refine m_E.ict (beq_self_eq_true _) rfl ?_
      exact K _ _ _ _ _ ⟨n + 1, p + 1, _, _, M2, H1.mo c2, ok1, H2, okm2, R2, (c2.2 3 (by decide)).trans hs1, by omega, by omega⟩
    · skip
      obtain ⟨_, h1, p1, rfl, H1, ok1, f1, l1⟩ := o_printFull (d := 2) (x := m_bI true) H ok hf
      refine m_E.ov H.o (by decide) rfl rfl rfl (p1) ?_
      have Hm1 := Hm.frm f1
      have hs1 := Frm.row H hs f1
      refine m_E.run 5 (pc1 := 357) (ls1 := [some _, some _, some _, some _, _, _, _, _]) (st1 := [_, _, _, _]) rfl ?_
      dsimp only
      refine m_E.ild hs1 (j := 4 * j + 1) (Or.inl rfl) (nI_add _ _) (by omega) (by omega) rfl ?_
      refine m_E.iff (hb) rfl ?_
      refine m_E.run 2 (pc1 := 366) (ls1 := [some _, some _, some _, some _, _, _, _, _]) (st1 := [_, _, _]) rfl ?_
      obtain ⟨_, h2, p2, rfl, M2, H2, okm2, R2, c2⟩ := e_printFull (d := 5) (x := m_bI true) Hm1 okm R ok.1 hf
      refine m_E.ov Hm1.o (by decide) rfl rfl rfl (p2) ?_
      refine m_E.ict (beq_self_eq_true _) rfl ?_
      exact K _ _ _ _ _ ⟨n, p, F, _, M2, H1.mo c2, ok1, H2, okm2, R2, (c2.2 3 (by decide)).trans hs1, by omega, by omega⟩
  · skip
    refine m_E.ift (hb) rfl ?_
    refine m_E.run 1 (pc1 := 349) (ls1 := [some _, some _, some _, some _, _, _, _, _]) (st1 := [_, _]) rfl ?_
    by_cases hf : c_piled (w_now W) < 6
    · skip
      obtain ⟨_, h1, p1, rfl, H1, ok1, f1⟩ := o_print (d := 2) (tu := false) H ok hf (by omega) rfl
      refine m_E.ov H.o (by decide) rfl rfl rfl (p1) ?_
      have Hm1 := Hm.frm f1
      have hs1 := Frm.row H hs f1
      refine m_E.run 5 (pc1 := 357) (ls1 := [some _, some _, some _, some _, _, _, _, _]) (st1 := [_, _, _, _]) rfl ?_
      dsimp only
      refine m_E.ild hs1 (j := 4 * j + 1) (Or.inl rfl) (nI_add _ _) (by omega) (by omega) rfl ?_
      refine m_E.ift (hb) rfl ?_
      refine m_E.run 1 (pc1 := 366) (ls1 := [some _, some _, some _, some _, _, _, _, _]) (st1 := [_, _, _]) rfl ?_
      obtain ⟨_, h2, p2, rfl, M2, H2, okm2, R2, c2⟩ := e_print (d := 5) (tu := false) Hm1 okm R ok hf (by omega) rfl
      refine m_E.ov Hm1.o (by decide) rfl rfl rfl (p2) ?_
      refine m_E.ict (beq_self_eq_true _) rfl ?_
      exact K _ _ _ _ _ ⟨n + 1, p + 1, _, _, M2, H1.mo c2, ok1, H2, okm2, R2, (c2.2 3 (by decide)).trans hs1, by omega, by omega⟩
    · skip
      obtain ⟨_, h1, p1, rfl, H1, ok1, f1, l1⟩ := o_printFull (d := 2) (x := m_bI false) H ok hf
      refine m_E.ov H.o (by decide) rfl rfl rfl (p1) ?_
      have Hm1 := Hm.frm f1
      have hs1 := Frm.row H hs f1
      refine m_E.run 5 (pc1 := 357) (ls1 := [some _, some _, some _, some _, _, _, _, _]) (st1 := [_, _, _, _]) rfl ?_
      dsimp only
      refine m_E.ild hs1 (j := 4 * j + 1) (Or.inl rfl) (nI_add _ _) (by omega) (by omega) rfl ?_
      refine m_E.ift (hb) rfl ?_
      refine m_E.run 1 (pc1 := 366) (ls1 := [some _, some _, some _, some _, _, _, _, _]) (st1 := [_, _, _]) rfl ?_
      obtain ⟨_, h2, p2, rfl, M2, H2, okm2, R2, c2⟩ := e_printFull (d := 5) (x := m_bI false) Hm1 okm R ok.1 hf
      refine m_E.ov Hm1.o (by decide) rfl rfl rfl (p2) ?_
      refine m_E.ict (beq_self_eq_true _) rfl ?_
      exact K _ _ _ _ _ ⟨n, p, F, _, M2, H1.mo c2, ok1, H2, okm2, R2, (c2.2 3 (by decide)).trans hs1, by omega, by omega⟩
set_option maxRecDepth 100000 in
theorem l_type {xs : List Int32} {j : Nat} {v4 v5 v6 v7 : Option Value} {h : m_Hp} {Q : Option Value → m_Hp → Prop} (J : Jw xs j h) (hj : 4 * j + 4 ≤ xs.length) (hx : xs.length ≤ 2048) (K : ∀ h2 v4 v5 v6 v7, Jw xs (j + 1) h2 → m_E (m_Call m_P 8) tL_law 901 [some (.ref 3), some (.ref 4), some (.ref 61), some (.int (nI (4 * j))), v4, v5, v6, v7] [] h2 Q) : m_E (m_Call m_P 8) tL_law 492 [some (.ref 3), some (.ref 4), some (.ref 61), some (.int (nI (4 * j))), v4, v5, v6, v7] [] h Q := by
  obtain ⟨n, p, F, W, M, H, ok, Hm, okm, R, hs, hn, hp⟩ := J
  obtain ⟨c, hc, ec⟩ := m_chr_law (xs.getD (4 * j + 1) 0)
  refine m_E.run 5 (pc1 := 497) (ls1 := [some _, some _, some _, some _, _, _, _, _]) (st1 := [_, _, _]) rfl ?_
  dsimp only
  refine m_E.ild hs (j := 4 * j + 1) (Or.inl rfl) (nI_add _ _) (by omega) (by omega) rfl ?_
  refine m_E.run 1 (pc1 := 499) (ls1 := [some _, some _, some _, some _, _, _, _, _]) (st1 := [_, _]) rfl ?_
  dsimp only
  rw [ec]
  obtain ⟨_, h1, p1, rfl, H1, ok1, f1, l1⟩ := o_type (d := 2) H ok (rfl : nI c = nI c) hc
  refine m_E.ov H.o (by decide) rfl rfl rfl (p1) ?_
  have Hm1 := Hm.frm f1
  have hs1 := Frm.row H hs f1
  refine m_E.run 5 (pc1 := 507) (ls1 := [some _, some _, some _, some _, _, _, _, _]) (st1 := [_, _, _, _]) rfl ?_
  dsimp only
  refine m_E.ild hs1 (j := 4 * j + 1) (Or.inl rfl) (nI_add _ _) (by omega) (by omega) rfl ?_
  refine m_E.run 1 (pc1 := 509) (ls1 := [some _, some _, some _, some _, _, _, _, _]) (st1 := [_, _, _]) rfl ?_
  dsimp only
  rw [ec]
  obtain ⟨_, h2, p2, rfl, M2, H2, okm2, R2, c2⟩ := e_type (d := 7) Hm1 okm R (rfl : nI c = nI c) hc
  refine m_E.ov Hm1.o (by decide) rfl rfl rfl (p2) ?_
  refine m_E.ict (beq_self_eq_true _) rfl ?_
  exact K _ _ _ _ _ ⟨n, p, F, _, M2, H1.mo c2, ok1, H2, okm2, R2, (c2.2 3 (by decide)).trans hs1, by omega, by omega⟩
set_option maxRecDepth 100000 in
theorem l_fault {xs : List Int32} {j : Nat} {v4 v5 v6 v7 : Option Value} {h : m_Hp} {Q : Option Value → m_Hp → Prop} (J : Jw xs j h) (hj : 4 * j + 4 ≤ xs.length) (hx : xs.length ≤ 2048) (K : ∀ h2 v4 v5 v6 v7, Jw xs (j + 1) h2 → m_E (m_Call m_P 8) tL_law 901 [some (.ref 3), some (.ref 4), some (.ref 61), some (.int (nI (4 * j))), v4, v5, v6, v7] [] h2 Q) : m_E (m_Call m_P 8) tL_law 530 [some (.ref 3), some (.ref 4), some (.ref 61), some (.int (nI (4 * j))), v4, v5, v6, v7] [] h Q := by
  obtain ⟨n, p, F, W, M, H, ok, Hm, okm, R, hs, hn, hp⟩ := J
  refine m_E.run 1 (pc1 := 531) (ls1 := [some _, some _, some _, some _, _, _, _, _]) (st1 := [_]) rfl ?_
  obtain ⟨_, h1, p1, Y, e1, e2, rfl, H1, ok1, f1, l1⟩ := o_fault (d := 2) H ok
  refine m_E.ov H.o (by decide) rfl rfl rfl (p1) ?_
  have Hm1 := Hm.frm f1
  have hs1 := Frm.row H hs f1
  refine m_E.run 1 (pc1 := 535) (ls1 := [some _, some _, some _, some _, _, _, _, _]) (st1 := [_, _]) rfl ?_
  obtain ⟨_, h2, p2, rfl, M2, H2, okm2, R2, c2⟩ := e_fault (d := 2) Hm1 okm R
  have ex : x_run (w_text W) = p_run (y_sg M) (d_len M) 60 0 [] := by rw [x_run, ← y_sg_x R.2.2.2, R.2.2.2.1]
  rw [ex]
  refine m_E.ov Hm1.o (by decide) rfl rfl rfl (p2) ?_
  refine m_E.ict (beq_self_eq_true _) rfl ?_
  exact K _ _ _ _ _ ⟨n, p, F, _, M2, H1.mo c2, ok1, H2, okm2, R2.setX e2 e1, (c2.2 3 (by decide)).trans hs1, by omega, by omega⟩
set_option maxRecDepth 100000 in
theorem l_changeAll {xs : List Int32} {j : Nat} {v4 v5 v6 v7 : Option Value} {h : m_Hp} {Q : Option Value → m_Hp → Prop} (J : Jw xs j h) (hj : 4 * j + 4 ≤ xs.length) (hx : xs.length ≤ 2048) (K : ∀ h2 v4 v5 v6 v7, Jw xs (j + 1) h2 → m_E (m_Call m_P 8) tL_law 901 [some (.ref 3), some (.ref 4), some (.ref 61), some (.int (nI (4 * j))), v4, v5, v6, v7] [] h2 Q) : m_E (m_Call m_P 8) tL_law 289 [some (.ref 3), some (.ref 4), some (.ref 61), some (.int (nI (4 * j))), v4, v5, v6, v7] [] h Q := by
  obtain ⟨n, p, F, W, M, H, ok, Hm, okm, R, hs, hn, hp⟩ := J
  refine m_E.run 1 (pc1 := 290) (ls1 := [some _, some _, some _, some _, _, _, _, _]) (st1 := [_]) rfl ?_
  obtain ⟨_, h1, p1, Y, e1, e2, rfl, H1, ok1, f1, l1⟩ := o_changeAll (d := 2) H ok
  refine m_E.ov H.o (by decide) rfl rfl rfl (p1) ?_
  have Hm1 := Hm.frm f1
  have hs1 := Frm.row H hs f1
  refine m_E.run 1 (pc1 := 294) (ls1 := [some _, some _, some _, some _, _, _, _, _]) (st1 := [_, _]) rfl ?_
  obtain ⟨_, h2, p2, rfl, M2, H2, okm2, R2, c2⟩ := e_changeAll (d := 2) Hm1 okm R ok.1
  refine m_E.ov Hm1.o (by decide) rfl rfl rfl (p2) ?_
  refine m_E.ict (beq_self_eq_true _) rfl ?_
  have R3 : Rl F (w_res (w_X W Y) (b_chg (w_now W) (w_text W)).2) M2 := by
    generalize (b_chg (w_now W) (w_text W)).2 = o at R2
    cases o with
    | none => exact R2.setX e2 e1
    | some S => exact R2.setX (X := Y) e2 e1
  exact K _ _ _ _ _ ⟨n, p, F, _, M2, H1.mo c2, ok1, H2, okm2, R3, (c2.2 3 (by decide)).trans hs1, by omega, by omega⟩
set_option maxRecDepth 100000 in
theorem l_undo {xs : List Int32} {j : Nat} {v4 v5 v6 v7 : Option Value} {h : m_Hp} {Q : Option Value → m_Hp → Prop} (J : Jw xs j h) (hj : 4 * j + 4 ≤ xs.length) (hx : xs.length ≤ 2048) (K : ∀ h2 v4 v5 v6 v7, Jw xs (j + 1) h2 → m_E (m_Call m_P 8) tL_law 901 [some (.ref 3), some (.ref 4), some (.ref 61), some (.int (nI (4 * j))), v4, v5, v6, v7] [] h2 Q) : m_E (m_Call m_P 8) tL_law 543 [some (.ref 3), some (.ref 4), some (.ref 61), some (.int (nI (4 * j))), v4, v5, v6, v7] [] h Q := by
  obtain ⟨n, p, F, W, M, H, ok, Hm, okm, R, hs, hn, hp⟩ := J
  refine m_E.run 1 (pc1 := 544) (ls1 := [some _, some _, some _, some _, _, _, _, _]) (st1 := [_]) rfl ?_
  by_cases e0 : w_size W = 0
  · skip
    obtain ⟨_, h1, p1, rfl, H1, ok1, f1, l1⟩ := o_undo0 (d := 2) H ok e0
    refine m_E.ov H.o (by decide) rfl rfl rfl (p1) ?_
    have Hm1 := Hm.frm f1
    have hs1 := Frm.row H hs f1
    refine m_E.run 1 (pc1 := 548) (ls1 := [some _, some _, some _, some _, _, _, _, _]) (st1 := [_, _]) rfl ?_
    refine m_E.ov Hm1.o (by decide) rfl rfl rfl (e_undo0 (d := 7) Hm1 (R.2.1.1.trans e0)) ?_
    refine m_E.ict (beq_self_eq_true _) rfl ?_
    exact K _ _ _ _ _ ⟨n, p, F, _, M, H1, ok1, Hm1, okm, R, hs1, by omega, by omega⟩
  · skip
    obtain ⟨_, h1, p1, rfl, H1, ok1, f1, l1⟩ := o_undo (d := 2) H ok (by omega)
    refine m_E.ov H.o (by decide) rfl rfl rfl (p1) ?_
    have Hm1 := Hm.frm f1
    have hs1 := Frm.row H hs f1
    refine m_E.run 1 (pc1 := 548) (ls1 := [some _, some _, some _, some _, _, _, _, _]) (st1 := [_, _]) rfl ?_
    obtain ⟨_, h2, p2, rfl, M2, H2, okm2, R2, c2⟩ := e_undo2 (d := 7) Hm1 okm R (by omega)
    refine m_E.ov Hm1.o (by decide) rfl rfl rfl (p2) ?_
    refine m_E.ict (beq_self_eq_true _) rfl ?_
    exact K _ _ _ _ _ ⟨n, p, F, _, M2, H1.mo c2, ok1, H2, okm2, R2, (c2.2 3 (by decide)).trans hs1, by omega, by omega⟩
set_option maxRecDepth 100000 in
theorem l_restore {xs : List Int32} {j : Nat} {v4 v5 v6 v7 : Option Value} {h : m_Hp} {Q : Option Value → m_Hp → Prop} (J : Jw xs j h) (hj : 4 * j + 4 ≤ xs.length) (hx : xs.length ≤ 2048) (K : ∀ h2 v4 v5 v6 v7, Jw xs (j + 1) h2 → m_E (m_Call m_P 8) tL_law 901 [some (.ref 3), some (.ref 4), some (.ref 61), some (.int (nI (4 * j))), v4, v5, v6, v7] [] h2 Q) : m_E (m_Call m_P 8) tL_law 569 [some (.ref 3), some (.ref 4), some (.ref 61), some (.int (nI (4 * j))), v4, v5, v6, v7] [] h Q := by
  obtain ⟨n, p, F, W, M, H, ok, Hm, okm, R, hs, hn, hp⟩ := J
  refine m_E.run 1 (pc1 := 570) (ls1 := [some _, some _, some _, some _, _, _, _, _]) (st1 := [_]) rfl ?_
  cases e0 : w_kept W
  · skip
    obtain ⟨_, h1, p1, rfl, H1, ok1, f1, l1⟩ := o_restore0 (d := 2) H ok e0
    refine m_E.ov H.o (by decide) rfl rfl rfl (p1) ?_
    have Hm1 := Hm.frm f1
    have hs1 := Frm.row H hs f1
    refine m_E.run 1 (pc1 := 574) (ls1 := [some _, some _, some _, some _, _, _, _, _]) (st1 := [_, _]) rfl ?_
    refine m_E.ov Hm1.o (by decide) rfl rfl rfl (e_restore0 (d := 5) Hm1 (R.2.2.1.1.trans e0)) ?_
    refine m_E.ict (beq_self_eq_true _) rfl ?_
    exact K _ _ _ _ _ ⟨n, p, F, _, M, H1, ok1, Hm1, okm, R, hs1, by omega, by omega⟩
  · skip
    obtain ⟨_, h1, p1, rfl, H1, ok1, f1, l1⟩ := o_restore (d := 2) H ok e0
    refine m_E.ov H.o (by decide) rfl rfl rfl (p1) ?_
    have Hm1 := Hm.frm f1
    have hs1 := Frm.row H hs f1
    refine m_E.run 1 (pc1 := 574) (ls1 := [some _, some _, some _, some _, _, _, _, _]) (st1 := [_, _]) rfl ?_
    obtain ⟨_, h2, p2, rfl, M2, H2, okm2, R2, c2⟩ := e_restore2 (d := 5) Hm1 okm R e0
    refine m_E.ov Hm1.o (by decide) rfl rfl rfl (p2) ?_
    refine m_E.ict (beq_self_eq_true _) rfl ?_
    exact K _ _ _ _ _ ⟨n, p, F, _, M2, H1.mo c2, ok1, H2, okm2, R2, (c2.2 3 (by decide)).trans hs1, by omega, by omega⟩
