/-! the law answers 1 -/
theorem Jw.row {xs : List Int32} {j : Nat} {h : m_Hp} (J : Jw xs j h) : h[3]? = some (.inl (0, xs)) := by
  obtain ⟨n, p, F, W, M, H, ok, Hm, okm, R, hs, hn, hp⟩ := J
  exact hs
theorem Jw.next {xs : List Int32} {j : Nat} {h : m_Hp} (J : Jw xs j h) : Jw xs (j + 1) h := by
  obtain ⟨n, p, F, W, M, H, ok, Hm, okm, R, hs, hn, hp⟩ := J
  exact ⟨n, p, F, W, M, H, ok, Hm, okm, R, hs, by omega, by omega⟩
theorem m_small : ∀ n, n < 4 → decide (nI n - nI 4 < nI 0) = true := by decide +kernel
set_option maxRecDepth 100000 in
theorem l_switch {xs : List Int32} {j w : Nat} {v4 v5 v6 v7 : Option Value} {h : m_Hp} {Q : Option Value → m_Hp → Prop} (hw : w < 32) (J : Jw xs j h) (hj : 4 * j + 4 ≤ xs.length) (hx : xs.length ≤ 2048) (K : ∀ h2 v4 v5 v6 v7, Jw xs (j + 1) h2 → m_E (m_Call m_P 8) tL_law 901 [some (.ref 3), some (.ref 4), some (.ref 61), some (.int (nI (4 * j))), v4, v5, v6, v7] [] h2 Q) : m_E (m_Call m_P 8) tL_law 32 [some (.ref 3), some (.ref 4), some (.ref 61), some (.int (nI (4 * j))), v4, v5, v6, v7] [.int (nI w)] h Q := by
  by_cases e0 : w = 0
  · subst e0; exact m_E.tsw (t := 164) (by decide) rfl (l_swap J hj hx K)
  by_cases e1 : w = 1
  · subst e1; exact m_E.tsw (t := 197) (by decide) rfl (l_mark J hj hx K)
  by_cases e2 : w = 2
  · subst e2; exact m_E.tsw (t := 256) (by decide) rfl (l_lean J hj hx K)
  by_cases e3 : w = 3
  · subst e3; exact m_E.tsw (t := 289) (by decide) rfl (l_changeAll J hj hx K)
  by_cases e4 : w = 4
  · subst e4; exact m_E.tsw (t := 302) (by decide) rfl (l_set J hj hx K)
  by_cases e5 : w = 5
  · subst e5; exact m_E.tsw (t := 335) (by decide) rfl (l_print J hj hx K)
  by_cases e6 : w = 6
  · subst e6; exact m_E.tsw (t := 374) (by decide) rfl (l_cutSheet J hj hx K)
  by_cases e7 : w = 7
  · subst e7; exact m_E.tsw (t := 397) (by decide) rfl (l_cutPack J hj hx K)
  by_cases e8 : w = 8
  · subst e8; exact m_E.tsw (t := 420) (by decide) rfl (l_shuffle J hj hx K)
  by_cases e9 : w = 9
  · subst e9; exact m_E.tsw (t := 443) (by decide) rfl (l_deal J hj hx K)
  by_cases e10 : w = 10
  · subst e10; exact m_E.tsw (t := 466) (by decide) rfl (l_sell J hj hx K)
  by_cases e11 : w = 11
  · subst e11; exact m_E.tsw (t := 479) (by decide) rfl (l_pulp J hj hx K)
  by_cases e12 : w = 12
  · subst e12; exact m_E.tsw (t := 492) (by decide) rfl (l_type J hj hx K)
  by_cases e13 : w = 13
  · subst e13; exact m_E.tsw (t := 517) (by decide) rfl (l_clearText J hj hx K)
  by_cases e14 : w = 14
  · subst e14; exact m_E.tsw (t := 530) (by decide) rfl (l_fault J hj hx K)
  by_cases e15 : w = 15
  · subst e15; exact m_E.tsw (t := 543) (by decide) rfl (l_undo J hj hx K)
  by_cases e16 : w = 16
  · subst e16; exact m_E.tsw (t := 556) (by decide) rfl (l_keep J hj hx K)
  by_cases e17 : w = 17
  · subst e17; exact m_E.tsw (t := 569) (by decide) rfl (l_restore J hj hx K)
  by_cases e18 : w = 18
  · subst e18; exact m_E.tsw (t := 582) (by decide) rfl (l_block J hj hx K)
  by_cases e19 : w = 19
  · subst e19; exact m_E.tsw (t := 615) (by decide) rfl (l_cardOf J hj hx K)
  by_cases e20 : w = 20
  · subst e20; exact m_E.tsw (t := 648) (by decide) rfl (l_sheet J hj hx K)
  by_cases e21 : w = 21
  · subst e21; exact m_E.tsw (t := 691) (by decide) rfl (l_pack J hj hx K)
  by_cases e22 : w = 22
  · subst e22; exact m_E.tsw (t := 724) (by decide) rfl (l_count J hj hx K)
  by_cases e23 : w = 23
  · subst e23; exact m_E.tsw (t := 747) (by decide) rfl (l_why J hj hx K)
  by_cases e24 : w = 24
  · subst e24; exact m_E.tsw (t := 760) (by decide) rfl (l_chances J K)
  by_cases e25 : w = 25
  · subst e25; exact m_E.tsw (t := 803) (by decide) rfl (l_ifPrinted J hj hx K)
  by_cases e26 : w = 26
  · subst e26; exact m_E.tsw (t := 842) (by decide) rfl (l_worstFlaw J hj hx K)
  by_cases e27 : w = 27
  · subst e27; exact m_E.tsw (t := 865) (by decide) rfl (l_bestWay J hj hx K)
  by_cases e28 : w = 28
  · subst e28; exact m_E.tsw (t := 878) (by decide) rfl (l_backIn J hj hx K)
  by_cases e29 : w = 29
  · subst e29; exact m_E.tsw (t := 901) (by decide) rfl (K h v4 v5 v6 v7 J.next)
  by_cases e30 : w = 30
  · subst e30; exact m_E.tsw (t := 901) (by decide) rfl (K h v4 v5 v6 v7 J.next)
  by_cases e31 : w = 31
  · subst e31; exact m_E.tsw (t := 901) (by decide) rfl (K h v4 v5 v6 v7 J.next)
  omega
set_option maxRecDepth 100000 in
theorem l_main {xs : List Int32} (hx : xs.length ≤ 2048) : m_E (m_Call m_P 8) tL_law 0 (m_entry [.ref 3] 8) [] (m_h0 xs) (fun r h => r = some (.int 1) ∧ h.length ≤ 600004 ∧ m_sz h ≤ 7302249) := by
  refine m_E.run 2 (pc1 := 4) (ls1 := [some (.ref 3), none, none, none, none, none, none, none]) (st1 := [.ref 4, .ref 4]) (h1 := m_h0 xs ++ [.inr (.inl (5, [.null, .null, .null, .null, .null, .int 0]))]) rfl ?_
  refine m_E.on (a := 4) (ci := 5) (fs := [.null, .null, .null, .null, .null, .int 0]) rfl (by decide) rfl rfl rfl (c_new (d := 3) (P := m_h0 xs) rfl rfl) ?_
  refine m_E.run 1 (pc1 := 8) (ls1 := [some (.ref 3), some (.ref 4), none, none, none, none, none, none]) (st1 := []) rfl ?_
  refine m_E.new rfl (fun h1 w1 => ?_)
  have ew : h1 = (m_h0 xs ++ o_cells) ++ [d_new] := by
    have l1 : h1.length = ((m_h0 xs ++ o_cells) ++ [d_new]).length := by rw [w1.1, List.length_append]; rfl
    apply List.ext_getElem?
    intro k
    by_cases z : k < (m_h0 xs ++ o_cells).length
    · rw [w1.2.2 k z, List.getElem?_append_left z]
    · by_cases z2 : k = (m_h0 xs ++ o_cells).length
      · rw [z2, w1.2.1, List.getElem?_append_right (Nat.le_refl _), Nat.sub_self]; rfl
      · rw [List.getElem?_eq_none (by rw [w1.1]; omega), List.getElem?_eq_none (by rw [← l1, w1.1]; omega)]
  rw [ew, m_len0]
  obtain ⟨_, h2, p2, rfl, row, H2, lr, vr, l2, q2⟩ := e_init (d := 7) (P := m_h0 xs ++ o_cells) (m_len0 xs)
  refine m_E.run 1 (pc1 := 12) (ls1 := [some (.ref 3), some (.ref 4), none, none, none, none, none, none]) (st1 := [.ref 61, .ref 61]) rfl ?_
  have o61 : ((m_h0 xs ++ o_cells) ++ [d_new])[61]? = some d_new := by rw [List.getElem?_append_right (by rw [m_len0]; decide), m_len0]; rfl
  refine m_E.on o61 (by decide) rfl rfl rfl p2 ?_
  have J0 := Jw_0 (xs := xs) H2 lr vr l2 q2
  refine m_E.run 3 (pc1 := 18) (ls1 := [some (.ref 3), some (.ref 4), some (.ref 61), some (.int (nI (4 * 0))), none, none, none, none]) (st1 := []) rfl ?_
  refine m_E.lp (fun j ls hh => ∃ v4, ∃ v5, ∃ v6, ∃ v7, ls = [some (.ref 3), some (.ref 4), some (.ref 61), some (.int (nI (4 * j))), v4, v5, v6, v7] ∧ (Jw xs j hh)) (xs.length/4) ?_ ?_ ?_
  · skip
    rintro j _ hh hi ⟨v4, v5, v6, v7, rfl, hI⟩ K
    have hj4 : 4 * j + 4 ≤ xs.length := by omega
    have hs := hI.row
    refine m_E.run 2 (pc1 := 20) (ls1 := [some _, some _, some _, some _, _, _, _, _]) (st1 := [_, _]) rfl ?_
    refine m_E.len hs (by decide) rfl ?_
    refine m_E.run 2 (pc1 := 23) (ls1 := [some _, some _, some _, some _, _, _, _, _]) (st1 := [_, _]) rfl ?_
    dsimp only
    rw [pk_sub (show 4 ≤ xs.length by omega)]
    refine m_E.icf ((m_ltI (by omega) (by omega)).trans (decide_eq_false (by omega))) rfl ?_
    refine m_E.run 2 (pc1 := 28) (ls1 := [some _, some _, some _, some _, _, _, _, _]) (st1 := [_, _]) rfl ?_
    refine m_E.ild hs (j := 4 * j) (Or.inl rfl) rfl (by omega) (by omega) rfl ?_
    refine m_E.run 2 (pc1 := 32) (ls1 := [some _, some _, some _, some _, _, _, _, _]) (st1 := [_]) rfl ?_
    dsimp only
    obtain ⟨w, hw, ew2⟩ := m_and31 (xs.getD (4 * j) 0)
    rw [ew2]
    refine l_switch hw hI hj4 hx (fun h3 v4 v5 v6 v7 J3 => ?_)
    refine m_E.run 2 (pc1 := 18) (ls1 := [some (.ref 3), some (.ref 4), some (.ref 61), some (.int (nI (4 * j) + nI 4)), v4, v5, v6, v7]) (st1 := []) rfl ?_
    rw [nI_add, show 4 * j + 4 = 4 * (j + 1) from rfl]
    exact K _ _ ⟨v4, v5, v6, v7, rfl, J3⟩
  · skip
    exact ⟨none, none, none, none, rfl, J0⟩
  · skip
    rintro _ hh ⟨v4, v5, v6, v7, rfl, hI⟩
    have hs := hI.row
    refine m_E.run 2 (pc1 := 20) (ls1 := [some _, some _, some _, some _, _, _, _, _]) (st1 := [_, _]) rfl ?_
    refine m_E.len hs (by decide) rfl ?_
    refine m_E.run 2 (pc1 := 23) (ls1 := [some _, some _, some _, some _, _, _, _, _]) (st1 := [_, _]) rfl ?_
    dsimp only
    by_cases e4 : xs.length < 4
    · skip
      refine m_E.ict (by rw [show 4 * (xs.length / 4) = 0 by omega]; exact m_small _ e4) rfl ?_
      refine m_E.run 1 (pc1 := 908) (ls1 := [some _, some _, some _, some _, _, _, _, _]) (st1 := [_]) rfl ?_
      exact m_E.zret (by decide) rfl ⟨rfl, hI.size hx (by omega)⟩
    · skip
      rw [pk_sub (show 4 ≤ xs.length by omega)]
      refine m_E.ict ((m_ltI (by omega) (by omega)).trans (decide_eq_true (by omega))) rfl ?_
      refine m_E.run 1 (pc1 := 908) (ls1 := [some _, some _, some _, some _, _, _, _, _]) (st1 := [_]) rfl ?_
      exact m_E.zret (by decide) rfl ⟨rfl, hI.size hx (by omega)⟩
theorem m_goal_ok : m_Goal := fun xs hx => by
  obtain ⟨n, r, h', k1, k2, k3, k4⟩ := l_main hx
  rw [k2] at k1
  exact ⟨n, h', k1, k3, k4⟩
