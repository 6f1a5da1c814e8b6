/-! the law answers 1 -/
theorem y_J.row {xs : List Int32} {i : Nat} {h : m_Hp} (J : y_J xs i h) : h[3]? = some (.inl (0, xs)) := by
  obtain ⟨n, p, F, W, R, X, hp, hl, hl2, B, h3⟩ := J
  exact h3
set_option maxRecDepth 100000 in
theorem y_main {xs : List Int32} (hn : y_num) (hx : xs.length ≤ 260) : m_E (m_Call m_P 8) tL_law 0 (m_entry [.ref 3] 21) [] (m_h0 xs) (fun r h => r = some (.int 1) ∧ h.length ≤ 600004 ∧ m_sz h ≤ 7302250) := by
  refine y_begin (fun h0 J0 => ?_)
  refine m_E.lp (fun i ls hh => ∃ v11, ∃ v12, ∃ v13, ∃ v14, ∃ v15, ∃ v16, ∃ v17, ∃ v18, ∃ v19, ∃ v20, ls = [some (.ref 3), some (.ref 4), some (.ref 61), some (.ref 62), some (.ref 63), some (.ref 64), some (.ref 65), some (.ref 66), some (.ref 67), some (.ref 68), some (.int (nI i)), v11, v12, v13, v14, v15, v16, v17, v18, v19, v20] ∧ (y_J xs i hh)) 46 ?_ ?_ ?_
  · skip
    rintro i _ hh hi ⟨v11, v12, v13, v14, v15, v16, v17, v18, v19, v20, rfl, hI⟩ K
    have hi46 : i < 46 := by assumption
    have hs := hI.row
    refine m_E.run 2 (pc1 := 101) (ls1 := [some _, some _, some _, some _, some _, some _, some _, some _, some _, some _, some _, _, _, _, _, _, _, _, _, _, _]) (st1 := [_, _]) rfl ?_
    refine m_E.icf ((m_leI (by omega) (by omega)).trans (decide_eq_false (by omega))) rfl ?_
    refine m_E.run 4 (pc1 := 109) (ls1 := [some _, some _, some _, some _, some _, some _, some _, some _, some _, some _, some _, _, _, _, _, _, _, _, _, _, _]) (st1 := [_, _]) rfl ?_
    dsimp only
    rw [pk_mul]
    obtain ⟨_, _, p1, ⟨x, rfl⟩, rfl⟩ := y_cell (d := 7) (i := nI (2 * i)) hs hx rfl (by omega)
    refine m_E.cv rfl rfl (p1) ?_
    refine m_E.run 7 (pc1 := 121) (ls1 := [some _, some _, some _, some _, some _, some _, some _, some _, some _, some _, some _, some _, _, _, _, _, _, _, _, _, _]) (st1 := [_, _]) rfl ?_
    dsimp only
    rw [pk_mul, nI_add]
    obtain ⟨_, _, p2, ⟨y, rfl⟩, rfl⟩ := y_cell (d := 7) (i := nI (2 * i + 1)) hs hx rfl (by omega)
    refine m_E.cv rfl rfl (p2) ?_
    refine m_E.run 3 (pc1 := 130) (ls1 := [some _, some _, some _, some _, some _, some _, some _, some _, some _, some _, some _, some _, some _, _, _, _, _, _, _, _, _]) (st1 := [_, _]) rfl ?_
    have lw := y_lw_lt x (show 0 < 28 by decide)
    refine m_E.cv rfl rfl (y_low (n := 28) (d := 7) rfl (by decide) (by decide)) ?_
    refine m_E.run 1 (pc1 := 135) (ls1 := [some _, some _, some _, some _, some _, some _, some _, some _, some _, some _, some _, some _, some _, some _, _, _, _, _, _, _, _]) (st1 := []) rfl ?_
    refine y_ld1 (by omega) lw (fun kd hk => ?_)
    refine y_ld2 hk (fun a ha => ?_)
    refine y_ld3 hk ha (fun b hb => ?_)
    refine y_ld4 hk ha hb (fun e rg => ?_)
    refine y_turn hn hI hi46 rg (fun h2 was told v20 J2 => ?_)
    refine m_E.run 2 (pc1 := 97) (ls1 := [some _, some _, some _, some _, some _, some _, some _, some _, some _, some _, some _, some _, some _, some _, some _, some _, some _, some _, none, some _, _]) (st1 := []) rfl ?_
    rw [nI_add]
    exact K _ _ ⟨_, _, _, _, _, _, _, _, _, _, rfl, J2⟩
  · skip
    exact ⟨none, none, none, none, none, none, none, none, none, none, rfl, J0⟩
  · skip
    rintro _ hh ⟨v11, v12, v13, v14, v15, v16, v17, v18, v19, v20, rfl, hI⟩
    refine m_E.run 2 (pc1 := 101) (ls1 := [some _, some _, some _, some _, some _, some _, some _, some _, some _, some _, some _, _, _, _, _, _, _, _, _, _, _]) (st1 := [_, _]) rfl ?_
    refine m_E.ict (by decide) rfl ?_
    refine m_E.run 1 (pc1 := 715) (ls1 := [some _, some _, some _, some _, some _, some _, some _, some _, some _, some _, some _, _, _, _, _, _, _, _, _, _, _]) (st1 := [_]) rfl ?_
    exact m_E.zret (by decide) rfl ⟨rfl, hI.size hx (by decide)⟩
