/-! the law's calls -/
theorem l_swap {xs : List Int32} {j : Nat} {v4 v5 v6 v7 : Option Value} {h : m_Hp} {Q : Option Value → m_Hp → Prop} (J : Jw xs j h) (hj : 4 * j + 4 ≤ xs.length) (hx : xs.length ≤ 2048) (K : ∀ h2 v4 v5 v6 v7, Jw xs (j + 1) h2 → m_E (m_Call m_P 8) tL_law 901 [some (.ref 3), some (.ref 4), some (.ref 61), some (.int (nI (4 * j))), v4, v5, v6, v7] [] h2 Q) : m_E (m_Call m_P 8) tL_law 164 [some (.ref 3), some (.ref 4), some (.ref 61), some (.int (nI (4 * j))), v4, v5, v6, v7] [] h Q := by
  obtain ⟨n, p, F, W, M, H, ok, Hm, okm, R, hs, hn, hp⟩ := J
  refine m_E.run 5 (pc1 := 169) (ls1 := [some _, some _, some _, some _, _, _, _, _]) (st1 := [_, _, _]) rfl ?_
  dsimp only
  refine m_E.ild hs (j := 4 * j + 1) (Or.inl rfl) (nI_add _ _) (by omega) (by omega) rfl ?_
  refine m_E.run 4 (pc1 := 174) (ls1 := [some _, some _, some _, some _, _, _, _, _]) (st1 := [_, _, _, _]) rfl ?_
  dsimp only
  refine m_E.ild hs (j := 4 * j + 2) (Or.inl rfl) (nI_add _ _) (by omega) (by omega) rfl ?_
  obtain ⟨_, h1, p1, rfl, H1, ok1, f1, l1⟩ := o_swap (d := 2) (x := (xs.getD (4 * j + 1) 0)) (y := (xs.getD (4 * j + 2) 0)) H ok
  refine m_E.ov H.o (by decide) rfl rfl rfl (p1) ?_
  have Hm1 := Hm.frm f1
  have hs1 := Frm.row H hs f1
  refine m_E.run 5 (pc1 := 183) (ls1 := [some _, some _, some _, some _, _, _, _, _]) (st1 := [_, _, _, _]) rfl ?_
  dsimp only
  refine m_E.ild hs1 (j := 4 * j + 1) (Or.inl rfl) (nI_add _ _) (by omega) (by omega) rfl ?_
  refine m_E.run 4 (pc1 := 188) (ls1 := [some _, some _, some _, some _, _, _, _, _]) (st1 := [_, _, _, _, _]) rfl ?_
  dsimp only
  refine m_E.ild hs1 (j := 4 * j + 2) (Or.inl rfl) (nI_add _ _) (by omega) (by omega) rfl ?_
  obtain ⟨_, h2, p2, rfl, M2, H2, okm2, R2, c2⟩ := e_swap (d := 5) (x := (xs.getD (4 * j + 1) 0)) (y := (xs.getD (4 * j + 2) 0)) Hm1 okm R ok.1
  refine m_E.ov Hm1.o (by decide) rfl rfl rfl (p2) ?_
  refine m_E.ict (beq_self_eq_true _) rfl ?_
  exact K _ _ _ _ _ ⟨n, p, F, _, M2, H1.mo c2, ok1, H2, okm2, R2, (c2.2 3 (by decide)).trans hs1, by omega, by omega⟩
