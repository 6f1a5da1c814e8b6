/-! cutting a sheet -/
theorem y_vc_card {s : c_Sh} {cell : Nat} (h1 : s.1.getD cell 0 < 24) (h2 : s.2.1.getD (s.1.getD cell 0) 0 < 16) : nI (y_vc s cell) &&& nI 31 = nI (s.1.getD cell 0) ∧ nI (y_vc s cell) >>> (nI 5 &&& 31) = nI (s.2.1.getD (s.1.getD cell 0) 0) := by
  have e : y_vc s cell = s.1.getD cell 0 + 32 * s.2.1.getD (s.1.getD cell 0) 0 := rfl
  constructor
  · rw [pk_andN (by omega) 5 (by decide), show y_vc s cell % 2 ^ 5 = s.1.getD cell 0 by omega]
  · rw [pk_shrN (by omega) _ 5 (by decide), show y_vc s cell / 2 ^ 5 = s.2.1.getD (s.1.getD cell 0) 0 by omega]
theorem y_laid {n : List Nat} {p s way : Nat} {F : Nat → c_Sh} {S : c_St} {R : y_R} {q2 vc vg vh : List Int32} (Y : Ry F S R) (hw : way < 4) (lq : q2.length = 12) (lc : vc.length = 24) (lg : vg.length = 24) (lh : vh.length = 12) (q5 : q2.getD 5 0 = nI (c_piled S - 1)) (q6 : q2.getD 6 0 = nI 1) (q7 : q2.getD 7 0 = nI 24) (q11 : q2.getD 11 0 = nI 0) (qo : ∀ j, j ≠ 5 → j ≠ 6 → j ≠ 7 → j ≠ 11 → q2.getD j 0 = (y_q R).getD j 0) (hc : ∀ j, j < 24 → vc.getD j 0 = nI ((g_sh F s).1.getD (g_cellAt way j) 0)) (hg : ∀ j, j < 24 → vg.getD ((g_sh F s).1.getD (g_cellAt way j) 0) 0 = nI ((g_sh F s).2.1.getD ((g_sh F s).1.getD (g_cellAt way j) 0) 0)) (pm : g_perm (g_sh F s).1) (hh : ∀ j, j < 12 → vh.getD j 0 = (g_sh F s).2.2.getD (y_cc j) 0) : Ry F (c_laid F S s way) (y_mk q2 (y_b R) (y_m R) (y_l R) (y_p R) vc vg vh) := by
  obtain ⟨⟨o1, o2, o3, o4, o5, o6, o7, o8⟩, yq, yb, yp, yk⟩ := Y
  have lf : c_lf (c_laid F S s way) = 24 := rfl
  refine ⟨⟨lq, o2, o3, o4, o5, lc, lg, lh⟩, ⟨fun k hk => (qo k (by omega) (by omega) (by omega) (by omega)).trans (yq.1 k hk), (qo 4 (by decide) (by decide) (by decide) (by decide)).trans yq.2.1, q5, q6, q7, (qo 8 (by decide) (by decide) (by decide) (by decide)).trans yq.2.2.2.2.2.1, (qo 9 (by decide) (by decide) (by decide) (by decide)).trans yq.2.2.2.2.2.2.1, (qo 10 (by decide) (by decide) (by decide) (by decide)).trans yq.2.2.2.2.2.2.2⟩, yb, fun j hj k hk => ?_, ⟨fun j hj => ?_, fun _ => ⟨fun k hk => ?_, hh, 0, by decide, q11, fun c hc => ?_⟩⟩⟩
  · have hj2 : j < c_piled S - 1 := hj
    have hk2 : ((c_pile S).set (c_piled S - 1) none).getD j none = some k := hk
    rw [List.getD_eq_getElem?_getD, List.getElem?_set_ne (by omega), ← List.getD_eq_getElem?_getD] at hk2
    exact yp j (by omega) k hk2
  · rw [lf] at hj
    show vc.getD j 0 = nI ((g_lay (g_sh F s).1 way 24 (c_order S)).getD (0 + j) 0)
    rw [Nat.zero_add, g_lay_get' hj]
    exact hc j hj
  · obtain ⟨j, hj, e⟩ := g_lay_perm (xs := c_order S) hw pm k hk
    rw [g_lay_get' hj] at e
    have q := hg j hj
    rw [e] at q
    exact q
  · rw [Nat.zero_testBit]
    exact (decide_eq_false (Nat.not_lt_zero _)).symm
theorem y_cuts {d : Nat} {n : List Nat} {p s way : Nat} {F : Nat → c_Sh} {S : c_St} {x : Int32} {R : y_R} {h : m_Hp} (H : Hrw h R) (Y : Ry F S R) (t : Tok n p S) (G : Gsh n F) (h0 : 0 < c_piled S) (hs : c_top S = some s) (hx : x = nI way) (hw : way < 4) : ∃ r h', m_Call m_P (d + 2) 80 [.int x, .ref 61, .ref 65, .ref 66, .ref 67, .ref 68] (h) r h' ∧ (fun r h2 => r = none ∧ Chg 61 69 h h2 ∧ ∃ R2, Hrw h2 R2 ∧ Ry F (c_laid F S s way) R2) r h' := by
  refine m_call_ex (tab := tL_cuts) (nL := 8) rfl rfl ?_
  subst hx
  obtain ⟨ok, yq, yb, yp, yk⟩ := id Y
  have l6 := t.1.2.2.2.2.2.2.2.2.2.2.2.1
  obtain ⟨i0, hi0, et⟩ := t.2.2.1.2.1 (c_piled S - 1) (by omega)
  have ei : i0 = s := Option.some.inj (et.symm.trans hs)
  subst ei
  obtain ⟨so, sl1, sl2, sl3⟩ := G i0 hi0
  have pk := yp (c_piled S - 1) (by omega) i0 et
  refine m_E.run 3 (pc1 := 3) (ls1 := [some _, some _, some _, some _, some _, some _, none, none]) (st1 := [_, _, _, _]) rfl ?_
  refine m_E.yr H.1 ok.1 rfl (by omega) (by decide) (yq.2.2.1) rfl ?_
  refine m_E.run 2 (pc1 := 6) (ls1 := [some _, some _, some _, some _, some _, some _, none, none]) (st1 := [_, _, _]) rfl ?_
  dsimp only
  rw [pk_sub (by omega)]
  refine m_E.yq H ok rfl (by omega) rfl (fun h1 g1 c1 => ?_)
  have ok1 := ok.wq (j := 5) (x := nI (c_piled S - 1))
  have q51 : ((y_q R).set 5 (nI (c_piled S - 1))).getD 5 0 = nI (c_piled S - 1) := y_at ok.1 (by decide)
  refine m_E.run 2 (pc1 := 10) (ls1 := [some _, some _, some _, some _, some _, some _, some _, none]) (st1 := []) rfl ?_
  refine m_E.lp (fun i ls hh => ∃ v7, ls = [some (.int (nI way)), some (.ref 61), some (.ref 65), some (.ref 66), some (.ref 67), some (.ref 68), some (.int (nI i)), v7] ∧ (∃ vc vg, Hrw hh (y_sg (y_sc (y_sq R ((y_q R).set 5 (nI (c_piled S - 1)))) vc) vg) ∧ Chg 61 69 h hh ∧ vc.length = 24 ∧ vg.length = 24 ∧ (∀ j, j < i → vc.getD j 0 = nI ((g_sh F i0).1.getD (g_cellAt way j) 0)) ∧ ∀ j, j < i → vg.getD ((g_sh F i0).1.getD (g_cellAt way j) 0) 0 = nI ((g_sh F i0).2.1.getD ((g_sh F i0).1.getD (g_cellAt way j) 0) 0))) 24 ?_ ?_ ?_
  · skip
    rintro i _ hh hi ⟨v7, rfl, hI⟩ K
    obtain ⟨vc, vg, g2, c2, lc, lg, k1, k2⟩ := hI
    have hi : i < 24 := by assumption
    have lcell := g_cellAt_lt way hw i hi
    have lcard : (g_sh F i0).1.getD (g_cellAt way i) 0 < 24 := g_getD_lt so.2.1 (by omega)
    have lmk : (g_sh F i0).2.1.getD ((g_sh F i0).1.getD (g_cellAt way i) 0) 0 < 16 := g_getD_lt so.1 (by omega)
    obtain ⟨e1, e2⟩ := y_vc_card lcard lmk
    have ok2 := (ok1.vc lc).vg lg
    refine m_E.run 2 (pc1 := 14) (ls1 := [some _, some _, some _, some _, some _, some _, some _, _]) (st1 := [_, _]) rfl ?_
    refine m_E.icf ((m_leI (by omega) (by omega)).trans (decide_eq_false (by omega))) rfl ?_
    refine m_E.run 2 (pc1 := 19) (ls1 := [some _, some _, some _, some _, some _, some _, some _, _]) (st1 := [_, _]) rfl ?_
    refine m_E.yr g2.1 ok2.1 rfl (by omega) (by decide) (q51) rfl ?_
    refine m_E.run 2 (pc1 := 23) (ls1 := [some _, some _, some _, some _, some _, some _, some _, _]) (st1 := [_, _, _]) rfl ?_
    refine m_E.cv rfl rfl (y_cellAt rfl rfl hw hi) ?_
    refine m_E.run 1 (pc1 := 27) (ls1 := [some _, some _, some _, some _, some _, some _, some _, _]) (st1 := [_, _, _]) rfl ?_
    refine m_E.cv rfl rfl (y_sheetAt g2 ok2 pk rfl (by omega) rfl lcell) ?_
    refine m_E.run 6 (pc1 := 40) (ls1 := [some _, some _, some _, some _, some _, some _, some _, some _]) (st1 := [_, _, _]) rfl ?_
    dsimp only
    rw [e1]
    refine m_E.yc g2 ok2 rfl (by omega) rfl (fun h3 g3 c3 => ?_)
    have ok3 := (ok1.vc (v := vc.set i (nI ((g_sh F i0).1.getD (g_cellAt way i) 0))) ((List.length_set ..).trans lc)).vg lg
    refine m_E.run 7 (pc1 := 52) (ls1 := [some _, some _, some _, some _, some _, some _, some _, some _]) (st1 := [_, _, _]) rfl ?_
    dsimp only
    rw [e1, e2]
    refine m_E.yg g3 ok3 rfl (by omega) rfl (fun h4 g4 c4 => ?_)
    refine m_E.run 2 (pc1 := 10) (ls1 := [some _, some _, some _, some _, some _, some _, some _, some _]) (st1 := []) rfl ?_
    rw [nI_add]
    refine K _ _ ⟨_, rfl, _, _, g4, c2.tr (c3.tr c4), (List.length_set ..).trans lc, (List.length_set ..).trans lg, fun j hj => ?_, fun j hj => ?_⟩
    · show (vc.set i _).getD j 0 = _
      by_cases e : j = i
      · rw [e, y_at lc hi]
      · rw [y_off (Ne.symm e)]; exact k1 j (by omega)
    · show (vg.set _ _).getD _ 0 = _
      by_cases e : (g_sh F i0).1.getD (g_cellAt way i) 0 = (g_sh F i0).1.getD (g_cellAt way j) 0
      · rw [← e, y_at lg lcard]
      · rw [y_off e]
        by_cases e3 : j = i
        · rw [e3] at e; exact absurd rfl e
        · exact k2 j (by omega)
  · skip
    exact ⟨none, rfl, y_c R, y_g R, g1, c1, ok.2.2.2.2.2.1, ok.2.2.2.2.2.2.1, fun j hj => absurd hj (Nat.not_lt_zero j), fun j hj => absurd hj (Nat.not_lt_zero j)⟩
  · skip
    rintro _ hh ⟨v7, rfl, hI⟩
    obtain ⟨vc, vg, g2, c2, lc, lg, k1, k2⟩ := hI
    refine m_E.run 2 (pc1 := 14) (ls1 := [some _, some _, some _, some _, some _, some _, some _, _]) (st1 := [_, _]) rfl ?_
    refine m_E.ict (by decide) rfl ?_
    refine m_E.run 2 (pc1 := 62) (ls1 := [some _, some _, some _, some _, some _, some _, some _, _]) (st1 := []) rfl ?_
    refine m_E.lp (fun i ls hh => ls = [some (.int (nI way)), some (.ref 61), some (.ref 65), some (.ref 66), some (.ref 67), some (.ref 68), some (.int (nI i)), v7] ∧ (∃ vh, Hrw hh (y_sh (y_sg (y_sc (y_sq R ((y_q R).set 5 (nI (c_piled S - 1)))) vc) vg) vh) ∧ Chg 61 69 h hh ∧ vh.length = 12 ∧ ∀ j, j < i → vh.getD j 0 = (g_sh F i0).2.2.getD (y_cc j) 0)) 12 ?_ ?_ ?_
    · skip
      rintro i _ hh hi ⟨rfl, hI⟩ K
      obtain ⟨vh, g3, c3, lh, k3⟩ := hI
      have hi : i < 12 := by assumption
      have ok3 := ((ok1.vc lc).vg lg).vh lh
      obtain ⟨w, w1, w2, w3⟩ := pk.2 (i / 6) (by omega)
      have w4 := w3 (i % 6) (by omega)
      rw [show 6 * (i / 6) + i % 6 = i by omega] at w4
      refine m_E.run 2 (pc1 := 66) (ls1 := [some _, some _, some _, some _, some _, some _, some _, _]) (st1 := [_, _]) rfl ?_
      refine m_E.icf ((m_leI (by omega) (by omega)).trans (decide_eq_false (by omega))) rfl ?_
      refine m_E.run 6 (pc1 := 78) (ls1 := [some _, some _, some _, some _, some _, some _, some _, _]) (st1 := [_, _, _, _, _, _]) rfl ?_
      refine m_E.yr g3.1 ok3.1 rfl (by omega) (by decide) (q51) rfl ?_
      refine m_E.run 5 (pc1 := 87) (ls1 := [some _, some _, some _, some _, some _, some _, some _, _]) (st1 := [_, _, _, _, _, _]) rfl ?_
      dsimp only
      rw [pk_mul, nI_add]
      refine m_E.div (by decide) rfl ?_
      rw [pk_div (by omega) (by decide) (by decide)]
      refine m_E.run 1 (pc1 := 89) (ls1 := [some _, some _, some _, some _, some _, some _, some _, _]) (st1 := [_, _, _, _]) rfl ?_
      dsimp only
      rw [nI_add]
      refine m_E.yr g3.2.2.2.2.1 ok3.2.2.2.2.1 rfl (by omega) (by decide) (w2) rfl ?_
      refine m_E.run 3 (pc1 := 95) (ls1 := [some _, some _, some _, some _, some _, some _, some _, _]) (st1 := [_, _, _, _, _, _]) rfl ?_
      refine m_E.div (by decide) rfl ?_
      rw [m_rem (by omega) 6 (by decide) (by decide)]
      refine m_E.run 6 (pc1 := 104) (ls1 := [some _, some _, some _, some _, some _, some _, some _, _]) (st1 := [_, _, _]) rfl ?_
      dsimp only
      rw [pk_mul, pk_shrN w1 _ (5 * (i % 6)) (y_smod _ (by omega)), pk_andN (Nat.lt_of_le_of_lt (Nat.div_le_self _ _) (by omega)) 5 (by decide), show (2 : Nat) ^ 5 = 32 from rfl, w4]
      refine m_E.yh g3 ok3 rfl (by omega) rfl (fun h4 g4 c4 => ?_)
      refine m_E.run 2 (pc1 := 62) (ls1 := [some _, some _, some _, some _, some _, some _, some _, _]) (st1 := []) rfl ?_
      rw [nI_add]
      refine K _ _ ⟨rfl, _, g4, c3.tr c4, (List.length_set ..).trans lh, fun j hj => ?_⟩
      show (vh.set i _).getD j 0 = _
      by_cases e : j = i
      · rw [e, y_at lh hi]
      · rw [y_off (Ne.symm e)]; exact k3 j (by omega)
    · skip
      exact ⟨rfl, y_h R, g2, c2, ok.2.2.2.2.2.2.2, fun j hj => absurd hj (Nat.not_lt_zero j)⟩
    · skip
      rintro _ hh ⟨rfl, hI⟩
      obtain ⟨vh, g3, c3, lh, k3⟩ := hI
      have ok3 := ((ok1.vc lc).vg lg).vh lh
      refine m_E.run 2 (pc1 := 66) (ls1 := [some _, some _, some _, some _, some _, some _, some _, _]) (st1 := [_, _]) rfl ?_
      refine m_E.ict (by decide) rfl ?_
      refine m_E.run 3 (pc1 := 115) (ls1 := [some _, some _, some _, some _, some _, some _, some _, _]) (st1 := [_, _, _]) rfl ?_
      refine m_E.yq g3 ok3 rfl (by omega) rfl (fun h4 g4 c4 => ?_)
      have ok4 := ok3.wq (j := 6) (x := nI 1)
      refine m_E.run 3 (pc1 := 121) (ls1 := [some _, some _, some _, some _, some _, some _, some _, _]) (st1 := [_, _, _]) rfl ?_
      refine m_E.yq g4 ok4 rfl (by omega) rfl (fun h5 g5 c5 => ?_)
      have ok5 := ok4.wq (j := 7) (x := nI 24)
      refine m_E.run 3 (pc1 := 126) (ls1 := [some _, some _, some _, some _, some _, some _, some _, _]) (st1 := [_, _, _]) rfl ?_
      refine m_E.yq g5 ok5 rfl (by omega) rfl (fun h6 g6 c6 => ?_)
      have l1 : ((y_q R).set 5 (nI (c_piled S - 1))).length = 12 := (List.length_set ..).trans ok.1
      have l2 : (((y_q R).set 5 (nI (c_piled S - 1))).set 6 (nI 1)).length = 12 := (List.length_set ..).trans l1
      have l3 : ((((y_q R).set 5 (nI (c_piled S - 1))).set 6 (nI 1)).set 7 (nI 24)).length = 12 := (List.length_set ..).trans l2
      exact m_E.vret rfl ⟨rfl, c3.tr (c4.tr (c5.tr c6)), _, g6, y_laid (n := n) (p := p) (R := R) (S := S) (s := i0) Y hw ((List.length_set ..).trans l3) lc lg lh ((y_off (by decide)).trans ((y_off (by decide)).trans ((y_off (by decide)).trans q51))) ((y_off (by decide)).trans ((y_off (by decide)).trans (y_at l1 (by decide)))) ((y_off (by decide)).trans (y_at l2 (by decide))) (y_at l3 (by decide)) (fun j a b c d => (y_off (Ne.symm d)).trans ((y_off (Ne.symm c)).trans ((y_off (Ne.symm b)).trans (y_off (Ne.symm a))))) k1 k2 so.2.2 k3⟩
