/-! what the law's rows become: the pack is sold or pulped -/
set_option maxRecDepth 100000 in
theorem y_ofP9 {d : Nat} {n : List Nat} {p a : Nat} {F : Nat → c_Sh} {S : c_St} {R : y_R} {h : m_Hp} (H : Hrw h R) (Y : Ry F S R) (t : Tok n p S) (G : Gsh n F) (L : Gln n F) : ∃ r h', m_Call m_P (d + 4) 89 [.int (nI 9), .int (nI a), .ref 61, .ref 65, .ref 66, .ref 67, .ref 68] (h) r h' ∧ (y_Op F S h (b_sell F S).1 (b_sell F S).2) r h' := by
  refine m_call_ex (tab := tL_ofPack) (nL := 9) rfl rfl ?_
  obtain ⟨ok, yq, yb, yp, yk⟩ := id Y
  have ls3 := t.set_lt (k := 3) (by decide)
  refine m_E.run 2 (pc1 := 2) (ls1 := [some _, some _, some _, some _, some _, some _, some _, none, none]) (st1 := [_, _]) rfl ?_
  refine m_E.ict (by decide) rfl ?_
  refine m_E.run 2 (pc1 := 41) (ls1 := [some _, some _, some _, some _, some _, some _, some _, none, none]) (st1 := [_, _]) rfl ?_
  refine m_E.yr H.1 ok.1 rfl (by omega) (by decide) (yq.2.2.2.1) rfl ?_
  by_cases ef : c_fr S = none
  · skip
    rw [if_pos ef, show b_sell F S = (-4, none) from by rw [b_sell, ef]]
    refine m_E.iff (by decide) rfl ?_
    refine m_E.run 1 (pc1 := 47) (ls1 := [some _, some _, some _, some _, some _, some _, some _, none, none]) (st1 := [_]) rfl ?_
    exact m_E.iret rfl (y_Op.chg Chg.rf H Y)
  · skip
    rw [if_neg ef]
    obtain ⟨s, es⟩ : ∃ s, c_fr S = some s := by cases e : c_fr S with | none => exact absurd e ef | some s => exact ⟨s, rfl⟩
    have lr := g_reason_lt S (g_sh F s)
    have ew : r_why F S = nI (g_reason S (g_sh F s)) := by rw [r_why, es]
    have pw := y_why (d := d) H Y t G L
    rw [ew] at pw
    refine m_E.ift (by decide) rfl ?_
    refine m_E.run 2 (pc1 := 51) (ls1 := [some _, some _, some _, some _, some _, some _, some _, none, none]) (st1 := [_, _]) rfl ?_
    refine m_E.ict (by decide) rfl ?_
    refine m_E.run 2 (pc1 := 65) (ls1 := [some _, some _, some _, some _, some _, some _, some _, none, none]) (st1 := [_, _]) rfl ?_
    refine m_E.ict (by decide) rfl ?_
    refine m_E.run 2 (pc1 := 82) (ls1 := [some _, some _, some _, some _, some _, some _, some _, none, none]) (st1 := [_, _]) rfl ?_
    refine m_E.yr H.1 ok.1 rfl (by omega) (by decide) (yq.2.2.2.2.1) rfl ?_
    refine m_E.run 3 (pc1 := 88) (ls1 := [some _, some _, some _, some _, some _, some _, some _, some _, none]) (st1 := [_, _]) rfl ?_
    refine m_E.ict (by decide) rfl ?_
    refine m_E.run 2 (pc1 := 106) (ls1 := [some _, some _, some _, some _, some _, some _, some _, some _, none]) (st1 := [_, _]) rfl ?_
    refine m_E.ict (by decide) rfl ?_
    refine m_E.run 2 (pc1 := 120) (ls1 := [some _, some _, some _, some _, some _, some _, some _, some _, none]) (st1 := [_, _]) rfl ?_
    refine m_E.ict (by decide) rfl ?_
    refine m_E.run 2 (pc1 := 175) (ls1 := [some _, some _, some _, some _, some _, some _, some _, some _, none]) (st1 := [_, _]) rfl ?_
    refine m_E.icf (by decide) rfl ?_
    refine m_E.run 4 (pc1 := 185) (ls1 := [some _, some _, some _, some _, some _, some _, some _, some _, none]) (st1 := [_, _, _, _]) rfl ?_
    refine m_E.cv rfl rfl (pw) ?_
    by_cases e0 : g_reason S (g_sh F s) = 0
    · skip
      rw [show b_sell F S = (nI ((c_settings S).getD 3 0), some (c_sale S)) from by rw [b_sell, es]; dsimp only; rw [if_pos e0]]
      refine m_E.ift (by rw [e0]; rfl) rfl ?_
      refine m_E.run 3 (pc1 := 209) (ls1 := [some _, some _, some _, some _, some _, some _, some _, some _, none]) (st1 := [_, _, _]) rfl ?_
      refine m_E.yq H ok rfl (by omega) rfl (fun h1 g1 c1 => ?_)
      have l1 : ((y_q R).set 6 (nI 0)).length = 12 := (List.length_set ..).trans ok.1
      have ok1 := ok.wq (j := 6) (x := nI 0)
      refine m_E.run 3 (pc1 := 214) (ls1 := [some _, some _, some _, some _, some _, some _, some _, some _, none]) (st1 := [_, _, _]) rfl ?_
      refine m_E.yq g1 ok1 rfl (by omega) rfl (fun h2 g2 c2 => ?_)
      have l2 : (((y_q R).set 6 (nI 0)).set 7 (nI 0)).length = 12 := (List.length_set ..).trans l1
      have ok2 := ok1.wq (j := 7) (x := nI 0)
      refine m_E.run 3 (pc1 := 219) (ls1 := [some _, some _, some _, some _, some _, some _, some _, some _, none]) (st1 := [_, _, _, _]) rfl ?_
      refine m_E.yr g2.1 ok2.1 rfl (by omega) (by decide) (((y_off (by decide)).trans ((y_off (by decide)).trans yq.2.2.2.2.2.1))) rfl ?_
      refine m_E.run 2 (pc1 := 223) (ls1 := [some _, some _, some _, some _, some _, some _, some _, some _, none]) (st1 := [_, _, _, _, _]) rfl ?_
      refine m_E.icf (by decide) rfl ?_
      refine m_E.run 3 (pc1 := 232) (ls1 := [some _, some _, some _, some _, some _, some _, some _, some _, none]) (st1 := [_, _, _]) rfl ?_
      dsimp only
      refine m_E.yq g2 ok2 rfl (by omega) rfl (fun h3 g3 c3 => ?_)
      have l3 : ((((y_q R).set 6 (nI 0)).set 7 (nI 0)).set 8 (c_sold S + nI 1)).length = 12 := (List.length_set ..).trans l2
      have ok3 := ok2.wq (j := 8) (x := c_sold S + nI 1)
      refine m_E.run 3 (pc1 := 237) (ls1 := [some _, some _, some _, some _, some _, some _, some _, some _, none]) (st1 := [_, _, _, _]) rfl ?_
      refine m_E.yr g3.1 ok3.1 rfl (by omega) (by decide) (((y_off (by decide)).trans ((y_off (by decide)).trans ((y_off (by decide)).trans yq.2.2.2.2.2.2.1)))) rfl ?_
      refine m_E.run 2 (pc1 := 241) (ls1 := [some _, some _, some _, some _, some _, some _, some _, some _, none]) (st1 := [_, _, _, _, _]) rfl ?_
      refine m_E.icf (by decide) rfl ?_
      refine m_E.run 3 (pc1 := 250) (ls1 := [some _, some _, some _, some _, some _, some _, some _, some _, none]) (st1 := [_, _, _]) rfl ?_
      dsimp only
      rw [show c_pulped S + nI 0 = c_pulped S from Int32.add_zero _]
      refine m_E.yq g3 ok3 rfl (by omega) rfl (fun h4 g4 c4 => ?_)
      have l4 : (((((y_q R).set 6 (nI 0)).set 7 (nI 0)).set 8 (c_sold S + nI 1)).set 9 (c_pulped S)).length = 12 := (List.length_set ..).trans l3
      have ok4 := ok3.wq (j := 9) (x := c_pulped S)
      refine m_E.run 3 (pc1 := 255) (ls1 := [some _, some _, some _, some _, some _, some _, some _, some _, none]) (st1 := [_, _, _, _]) rfl ?_
      refine m_E.yr g4.1 ok4.1 rfl (by omega) (by decide) (((y_off (by decide)).trans ((y_off (by decide)).trans ((y_off (by decide)).trans ((y_off (by decide)).trans yq.2.2.2.2.2.2.2))))) rfl ?_
      refine m_E.run 2 (pc1 := 259) (ls1 := [some _, some _, some _, some _, some _, some _, some _, some _, none]) (st1 := [_, _, _, _, _]) rfl ?_
      refine m_E.icf (by decide) rfl ?_
      refine m_E.run 2 (pc1 := 264) (ls1 := [some _, some _, some _, some _, some _, some _, some _, some _, none]) (st1 := [_, _, _, _, _]) rfl ?_
      refine m_E.yr g4.1 ok4.1 rfl (by omega) (by decide) (((y_off (by decide)).trans ((y_off (by decide)).trans ((y_off (by decide)).trans ((y_off (by decide)).trans (yq.1 3 (by decide))))))) rfl ?_
      refine m_E.run 2 (pc1 := 270) (ls1 := [some _, some _, some _, some _, some _, some _, some _, some _, none]) (st1 := [_, _, _]) rfl ?_
      dsimp only
      refine m_E.yq g4 ok4 rfl (by omega) rfl (fun h5 g5 c5 => ?_)
      have l5 : ((((((y_q R).set 6 (nI 0)).set 7 (nI 0)).set 8 (c_sold S + nI 1)).set 9 (c_pulped S)).set 10 (c_coins S + nI ((c_settings S).getD 3 0))).length = 12 := (List.length_set ..).trans l4
      have ok5 := ok4.wq (j := 10) (x := c_coins S + nI ((c_settings S).getD 3 0))
      refine m_E.run 2 (pc1 := 274) (ls1 := [some _, some _, some _, some _, some _, some _, some _, some _, none]) (st1 := [_, _]) rfl ?_
      refine m_E.icf (by decide) rfl ?_
      refine m_E.run 2 (pc1 := 279) (ls1 := [some _, some _, some _, some _, some _, some _, some _, some _, none]) (st1 := [_, _]) rfl ?_
      refine m_E.yr g5.1 ok5.1 rfl (by omega) (by decide) (((y_off (by decide)).trans ((y_off (by decide)).trans ((y_off (by decide)).trans ((y_off (by decide)).trans ((y_off (by decide)).trans (yq.1 3 (by decide)))))))) rfl ?_
      refine m_E.run 1 (pc1 := 285) (ls1 := [some _, some _, some _, some _, some _, some _, some _, some _, none]) (st1 := [_]) rfl ?_
      have Y5 : Ry F (c_sale S) (y_sq R ((((((y_q R).set 6 (nI 0)).set 7 (nI 0)).set 8 (c_sold S + nI 1)).set 9 (c_pulped S)).set 10 (c_coins S + nI ((c_settings S).getD 3 0)))) := Y.away (s := c_sold S + nI 1) (u := c_pulped S) (v := c_coins S + nI ((c_settings S).getD 3 0)) rfl l5 ((y_off (by decide)).trans ((y_off (by decide)).trans ((y_off (by decide)).trans ((y_off (by decide)).trans (y_at ok.1 (by decide)))))) ((y_off (by decide)).trans ((y_off (by decide)).trans ((y_off (by decide)).trans (y_at l1 (by decide))))) ((y_off (by decide)).trans ((y_off (by decide)).trans (y_at l2 (by decide)))) ((y_off (by decide)).trans (y_at l3 (by decide))) (y_at l4 (by decide)) (fun j hj => (y_off (by omega)).trans ((y_off (by omega)).trans ((y_off (by omega)).trans ((y_off (by omega)).trans (y_off (by omega))))))
      exact m_E.iret rfl (y_Op.chg (c1.tr (c2.tr (c3.tr (c4.tr c5)))) g5 Y5)
    · skip
      rw [show b_sell F S = (-10 - nI (g_reason S (g_sh F s)), none) from by rw [b_sell, es]; dsimp only; rw [if_neg e0]]
      refine m_E.iff (by rw [m_beq0 (by omega)]; exact decide_eq_false e0) rfl ?_
      refine m_E.run 5 (pc1 := 200) (ls1 := [some _, some _, some _, some _, some _, some _, some _, some _, none]) (st1 := [_, _, _, _, _]) rfl ?_
      refine m_E.cv rfl rfl (pw) ?_
      refine m_E.run 1 (pc1 := 204) (ls1 := [some _, some _, some _, some _, some _, some _, some _, some _, none]) (st1 := [_]) rfl ?_
      dsimp only
      exact m_E.iret rfl (y_Op.chg Chg.rf H Y)
set_option maxRecDepth 100000 in
theorem y_ofP10 {d : Nat} {n : List Nat} {p a : Nat} {F : Nat → c_Sh} {S : c_St} {R : y_R} {h : m_Hp} (H : Hrw h R) (Y : Ry F S R) (t : Tok n p S) : ∃ r h', m_Call m_P (d + 4) 89 [.int (nI 10), .int (nI a), .ref 61, .ref 65, .ref 66, .ref 67, .ref 68] (h) r h' ∧ (y_Op F S h (b_pulp S).1 (b_pulp S).2) r h' := by
  refine m_call_ex (tab := tL_ofPack) (nL := 9) rfl rfl ?_
  obtain ⟨ok, yq, yb, yp, yk⟩ := id Y
  refine m_E.run 2 (pc1 := 2) (ls1 := [some _, some _, some _, some _, some _, some _, some _, none, none]) (st1 := [_, _]) rfl ?_
  refine m_E.ict (by decide) rfl ?_
  refine m_E.run 2 (pc1 := 41) (ls1 := [some _, some _, some _, some _, some _, some _, some _, none, none]) (st1 := [_, _]) rfl ?_
  refine m_E.yr H.1 ok.1 rfl (by omega) (by decide) (yq.2.2.2.1) rfl ?_
  by_cases ef : c_fr S = none
  · skip
    rw [if_pos ef, show b_pulp S = (-4, none) from by rw [b_pulp, if_pos ef]]
    refine m_E.iff (by decide) rfl ?_
    refine m_E.run 1 (pc1 := 47) (ls1 := [some _, some _, some _, some _, some _, some _, some _, none, none]) (st1 := [_]) rfl ?_
    exact m_E.iret rfl (y_Op.chg Chg.rf H Y)
  · skip
    rw [if_neg ef, show b_pulp S = (nI (c_lf S), some (c_pulp S)) from by rw [b_pulp, if_neg ef]]
    refine m_E.ift (by decide) rfl ?_
    refine m_E.run 2 (pc1 := 51) (ls1 := [some _, some _, some _, some _, some _, some _, some _, none, none]) (st1 := [_, _]) rfl ?_
    refine m_E.ict (by decide) rfl ?_
    refine m_E.run 2 (pc1 := 65) (ls1 := [some _, some _, some _, some _, some _, some _, some _, none, none]) (st1 := [_, _]) rfl ?_
    refine m_E.ict (by decide) rfl ?_
    refine m_E.run 2 (pc1 := 82) (ls1 := [some _, some _, some _, some _, some _, some _, some _, none, none]) (st1 := [_, _]) rfl ?_
    refine m_E.yr H.1 ok.1 rfl (by omega) (by decide) (yq.2.2.2.2.1) rfl ?_
    refine m_E.run 3 (pc1 := 88) (ls1 := [some _, some _, some _, some _, some _, some _, some _, some _, none]) (st1 := [_, _]) rfl ?_
    refine m_E.ict (by decide) rfl ?_
    refine m_E.run 2 (pc1 := 106) (ls1 := [some _, some _, some _, some _, some _, some _, some _, some _, none]) (st1 := [_, _]) rfl ?_
    refine m_E.ict (by decide) rfl ?_
    refine m_E.run 2 (pc1 := 120) (ls1 := [some _, some _, some _, some _, some _, some _, some _, some _, none]) (st1 := [_, _]) rfl ?_
    refine m_E.ict (by decide) rfl ?_
    refine m_E.run 2 (pc1 := 175) (ls1 := [some _, some _, some _, some _, some _, some _, some _, some _, none]) (st1 := [_, _]) rfl ?_
    refine m_E.ict (by decide) rfl ?_
    refine m_E.run 3 (pc1 := 209) (ls1 := [some _, some _, some _, some _, some _, some _, some _, some _, none]) (st1 := [_, _, _]) rfl ?_
    refine m_E.yq H ok rfl (by omega) rfl (fun h1 g1 c1 => ?_)
    have l1 : ((y_q R).set 6 (nI 0)).length = 12 := (List.length_set ..).trans ok.1
    have ok1 := ok.wq (j := 6) (x := nI 0)
    refine m_E.run 3 (pc1 := 214) (ls1 := [some _, some _, some _, some _, some _, some _, some _, some _, none]) (st1 := [_, _, _]) rfl ?_
    refine m_E.yq g1 ok1 rfl (by omega) rfl (fun h2 g2 c2 => ?_)
    have l2 : (((y_q R).set 6 (nI 0)).set 7 (nI 0)).length = 12 := (List.length_set ..).trans l1
    have ok2 := ok1.wq (j := 7) (x := nI 0)
    refine m_E.run 3 (pc1 := 219) (ls1 := [some _, some _, some _, some _, some _, some _, some _, some _, none]) (st1 := [_, _, _, _]) rfl ?_
    refine m_E.yr g2.1 ok2.1 rfl (by omega) (by decide) (((y_off (by decide)).trans ((y_off (by decide)).trans yq.2.2.2.2.2.1))) rfl ?_
    refine m_E.run 2 (pc1 := 223) (ls1 := [some _, some _, some _, some _, some _, some _, some _, some _, none]) (st1 := [_, _, _, _, _]) rfl ?_
    refine m_E.ict (by decide) rfl ?_
    refine m_E.run 2 (pc1 := 232) (ls1 := [some _, some _, some _, some _, some _, some _, some _, some _, none]) (st1 := [_, _, _]) rfl ?_
    dsimp only
    rw [show c_sold S + nI 0 = c_sold S from Int32.add_zero _]
    refine m_E.yq g2 ok2 rfl (by omega) rfl (fun h3 g3 c3 => ?_)
    have l3 : ((((y_q R).set 6 (nI 0)).set 7 (nI 0)).set 8 (c_sold S)).length = 12 := (List.length_set ..).trans l2
    have ok3 := ok2.wq (j := 8) (x := c_sold S)
    refine m_E.run 3 (pc1 := 237) (ls1 := [some _, some _, some _, some _, some _, some _, some _, some _, none]) (st1 := [_, _, _, _]) rfl ?_
    refine m_E.yr g3.1 ok3.1 rfl (by omega) (by decide) (((y_off (by decide)).trans ((y_off (by decide)).trans ((y_off (by decide)).trans yq.2.2.2.2.2.2.1)))) rfl ?_
    refine m_E.run 2 (pc1 := 241) (ls1 := [some _, some _, some _, some _, some _, some _, some _, some _, none]) (st1 := [_, _, _, _, _]) rfl ?_
    refine m_E.ict (by decide) rfl ?_
    refine m_E.run 2 (pc1 := 250) (ls1 := [some _, some _, some _, some _, some _, some _, some _, some _, none]) (st1 := [_, _, _]) rfl ?_
    dsimp only
    refine m_E.yq g3 ok3 rfl (by omega) rfl (fun h4 g4 c4 => ?_)
    have l4 : (((((y_q R).set 6 (nI 0)).set 7 (nI 0)).set 8 (c_sold S)).set 9 (c_pulped S + nI 1)).length = 12 := (List.length_set ..).trans l3
    have ok4 := ok3.wq (j := 9) (x := c_pulped S + nI 1)
    refine m_E.run 3 (pc1 := 255) (ls1 := [some _, some _, some _, some _, some _, some _, some _, some _, none]) (st1 := [_, _, _, _]) rfl ?_
    refine m_E.yr g4.1 ok4.1 rfl (by omega) (by decide) (((y_off (by decide)).trans ((y_off (by decide)).trans ((y_off (by decide)).trans ((y_off (by decide)).trans yq.2.2.2.2.2.2.2))))) rfl ?_
    refine m_E.run 2 (pc1 := 259) (ls1 := [some _, some _, some _, some _, some _, some _, some _, some _, none]) (st1 := [_, _, _, _, _]) rfl ?_
    refine m_E.ict (by decide) rfl ?_
    refine m_E.run 2 (pc1 := 270) (ls1 := [some _, some _, some _, some _, some _, some _, some _, some _, none]) (st1 := [_, _, _]) rfl ?_
    dsimp only
    rw [show c_coins S + nI 0 = c_coins S from Int32.add_zero _]
    refine m_E.yq g4 ok4 rfl (by omega) rfl (fun h5 g5 c5 => ?_)
    have l5 : ((((((y_q R).set 6 (nI 0)).set 7 (nI 0)).set 8 (c_sold S)).set 9 (c_pulped S + nI 1)).set 10 (c_coins S)).length = 12 := (List.length_set ..).trans l4
    refine m_E.run 2 (pc1 := 274) (ls1 := [some _, some _, some _, some _, some _, some _, some _, some _, none]) (st1 := [_, _]) rfl ?_
    refine m_E.ict (by decide) rfl ?_
    refine m_E.run 1 (pc1 := 285) (ls1 := [some _, some _, some _, some _, some _, some _, some _, some _, none]) (st1 := [_]) rfl ?_
    have Y5 : Ry F (c_pulp S) (y_sq R ((((((y_q R).set 6 (nI 0)).set 7 (nI 0)).set 8 (c_sold S)).set 9 (c_pulped S + nI 1)).set 10 (c_coins S))) := Y.away (s := c_sold S) (u := c_pulped S + nI 1) (v := c_coins S) rfl l5 ((y_off (by decide)).trans ((y_off (by decide)).trans ((y_off (by decide)).trans ((y_off (by decide)).trans (y_at ok.1 (by decide)))))) ((y_off (by decide)).trans ((y_off (by decide)).trans ((y_off (by decide)).trans (y_at l1 (by decide))))) ((y_off (by decide)).trans ((y_off (by decide)).trans (y_at l2 (by decide)))) ((y_off (by decide)).trans (y_at l3 (by decide))) (y_at l4 (by decide)) (fun j hj => (y_off (by omega)).trans ((y_off (by omega)).trans ((y_off (by omega)).trans ((y_off (by omega)).trans (y_off (by omega))))))
    exact m_E.iret rfl (y_Op.chg (c1.tr (c2.tr (c3.tr (c4.tr c5)))) g5 Y5)
