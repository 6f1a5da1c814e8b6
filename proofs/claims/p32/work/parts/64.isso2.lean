/-! whether all is as the law has it: the rest -/
def y_rv : List Nat := (List.range 24).map fun k => 23 - k
theorem y_rv_at : ∀ k, k < 24 → y_rv.getD k 0 = 23 - k := by decide
theorem y_rv_perm : g_perm y_rv := fun v hv => ⟨23 - v, by omega, by rw [y_rv_at _ (by omega)]; omega⟩
/-- what is known if a sheet is printed, either way: the marks that are there once -/
theorem y_kn {n : List Nat} {p : Nat} {S : c_St} (t : Tok n p S) (tu : Bool) : g_kn S tu 24 = g_cnt (fun k => g_cnt (fun e => (c_backs S).getD k 0 == (c_backs S).getD e 0) 24 == 1) 24 := by
  rw [g_once (f := fun k => (c_backs S).getD k 0) t.bck, g_kn]
  refine g_cnt_congr (fun v _ => ?_)
  congr 1
  cases tu with
  | false => exact g_cnt_congr (fun c hc => by rw [g_bk, if_neg (by simp; omega)]; rfl)
  | true =>
    rw [← g_cnt_perm (l := y_rv) y_rv_perm (fun k hk => by rw [y_rv_at k hk]; omega) (fun c => (c_backs S).getD c 0 == v)]
    exact g_cnt_congr (fun c hc => by rw [g_bk, if_neg (by simp; omega), y_rv_at c hc]; rfl)
theorem y_blk0 {S : c_St} {c : Nat} (hc : c < 24) : r_block S (nI c) (nI 0) = nI ((c_cards S).getD c 0) := by
  rw [r_block, if_pos (g_in_yes hc (by decide)), if_pos rfl, m_cl (by omega)]
theorem y_blk1 {S : c_St} {c : Nat} (hc : c < 24) : r_block S (nI c) (nI 1) = nI ((c_backs S).getD c 0) := by
  rw [r_block, if_pos (g_in_yes hc (by decide)), if_neg (by decide), if_pos rfl, m_cl (by omega)]
theorem y_card_0 {n : List Nat} {p : Nat} {F : Nat → c_Sh} {S : c_St} {c : Nat} (t : Tok n p S) (hc : c < 24) : r_cardOf F S (nI ((c_cards S).getD c 0)) (nI 0) = nI c := by
  have l := t.crd c hc
  rw [r_cardOf, if_pos (g_in_yes l (by decide)), if_pos rfl, m_cl (by omega), g_ix_at t.2.2.2.1 t.crd hc]
theorem y_card_1 {F : Nat → c_Sh} {S : c_St} {c : Nat} (hc : c < 24) : r_cardOf F S (nI c) (nI 1) = (c_leans S).getD c 0 + nI 100 := by
  rw [r_cardOf, if_pos (g_in_yes hc (by decide)), if_neg (by decide), if_pos rfl, m_cl (by omega)]
set_option maxRecDepth 100000 in
theorem y_so1 {d : Nat} {n : List Nat} {p : Nat} {F : Nat → c_Sh} {W : c_W} {x : Int32} {R : y_R} {h : m_Hp} {v12 v13 v14 : Option Value} (hn : y_num) (X : Yx n p F W R h) : m_E (m_Call m_P (d + 7)) tL_isSo 93 [some (.ref 4), some (.int x), some (.ref 61), some (.ref 62), some (.ref 63), some (.ref 64), some (.ref 65), some (.ref 66), some (.ref 67), some (.ref 68), some (.int (nI (g_tot (fun c => g_pop ((c_backs (w_now W)).getD c 0)) 24))), some (.int (nI (g_cnt (fun k => g_cnt (fun e => (c_backs (w_now W)).getD k 0 == (c_backs (w_now W)).getD e 0) 24 == 1) 24))), v12, v13, v14, none, none, none, none, none, none, none] [] h (fun r2 h2 => r2 = some (.int (nI 1)) ∧ h2 = h) := by
  obtain ⟨HC, okw, H, Y, L, GL⟩ := id X
  have t := okw.1
  have G := HC.gsh
  obtain ⟨ok, yq, yb, yp, yk⟩ := id Y
  have k0 : r_count F W (nI 0) = nI (c_piled (w_now W)) := y_cnt (by decide)
  have k1 : r_count F W (nI 1) = nI (c_printed (w_now W)) := y_cnt (by decide)
  have k2 : r_count F W (nI 2) = (if c_fr (w_now W) = none then nI 0 else nI 1) := y_cnt (by decide)
  have k7 : r_count F W (nI 7) = c_sold (w_now W) := y_cnt (by decide)
  have k8 : r_count F W (nI 8) = c_pulped (w_now W) := y_cnt (by decide)
  have k9 : r_count F W (nI 9) = c_coins (w_now W) := y_cnt (by decide)
  have k10 : r_count F W (nI 10) = nI (g_tot (fun c => g_pop ((c_backs (w_now W)).getD c 0)) 24) := y_cnt (by decide)
  have k11 : r_count F W (nI 11) = nI (g_beyond (c_leans (w_now W)) (nI ((c_settings (w_now W)).getD 1 0)) 24) := by
    rw [y_cnt (by decide), show r_cnt F W 11 = nI (g_beyond (c_leans (w_now W)) (nI ((c_settings (w_now W)).getD 1 0)) (c_leans (w_now W)).length) from rfl, L.1]
  refine m_E.run 2 (pc1 := 96) (ls1 := [some _, some _, some _, some _, some _, some _, some _, some _, some _, some _, some _, some _, _, _, _, none, none, none, none, none, none, none]) (st1 := [_, _]) rfl ?_
  have la := y_lw_lt x (show 0 < 24 by decide)
  refine m_E.cv rfl rfl (y_low (n := 24) (d := d + 6) rfl (by decide) (by decide)) ?_
  generalize y_lw x 24 = at_ at *
  refine m_E.run 3 (pc1 := 103) (ls1 := [some _, some _, some _, some _, some _, some _, some _, some _, some _, some _, some _, some _, some _, _, _, none, none, none, none, none, none, none]) (st1 := [_, _]) rfl ?_
  refine m_E.ov HC.o (by decide) rfl rfl rfl (o_count (d := d + 1) HC okw) ?_
  rw [k0]
  refine m_E.run 2 (pc1 := 108) (ls1 := [some _, some _, some _, some _, some _, some _, some _, some _, some _, some _, some _, some _, some _, _, _, none, none, none, none, none, none, none]) (st1 := [_, _, _]) rfl ?_
  refine m_E.yr H.1 ok.1 rfl (by omega) (by decide) (yq.2.2.1) rfl ?_
  refine m_E.icf (y_nn _) rfl ?_
  refine m_E.run 2 (pc1 := 114) (ls1 := [some _, some _, some _, some _, some _, some _, some _, some _, some _, some _, some _, some _, some _, _, _, none, none, none, none, none, none, none]) (st1 := [_, _]) rfl ?_
  refine m_E.ov HC.o (by decide) rfl rfl rfl (o_count (d := d + 1) HC okw) ?_
  rw [k1]
  refine m_E.run 2 (pc1 := 119) (ls1 := [some _, some _, some _, some _, some _, some _, some _, some _, some _, some _, some _, some _, some _, _, _, none, none, none, none, none, none, none]) (st1 := [_, _, _]) rfl ?_
  refine m_E.yr H.1 ok.1 rfl (by omega) (by decide) (yq.2.1) rfl ?_
  refine m_E.icf (y_nn _) rfl ?_
  refine m_E.run 2 (pc1 := 125) (ls1 := [some _, some _, some _, some _, some _, some _, some _, some _, some _, some _, some _, some _, some _, _, _, none, none, none, none, none, none, none]) (st1 := [_, _]) rfl ?_
  refine m_E.ov HC.o (by decide) rfl rfl rfl (o_count (d := d + 1) HC okw) ?_
  rw [k2]
  refine m_E.run 2 (pc1 := 131) (ls1 := [some _, some _, some _, some _, some _, some _, some _, some _, some _, some _, some _, some _, some _, _, _, none, none, none, none, none, none, none]) (st1 := [_, _, _]) rfl ?_
  refine m_E.yr H.1 ok.1 rfl (by omega) (by decide) (yq.2.2.2.1) rfl ?_
  refine m_E.icf (y_nn _) rfl ?_
  refine m_E.run 2 (pc1 := 138) (ls1 := [some _, some _, some _, some _, some _, some _, some _, some _, some _, some _, some _, some _, some _, _, _, none, none, none, none, none, none, none]) (st1 := [_, _]) rfl ?_
  refine m_E.ov HC.o (by decide) rfl rfl rfl (o_count (d := d + 1) HC okw) ?_
  rw [k7]
  refine m_E.run 2 (pc1 := 144) (ls1 := [some _, some _, some _, some _, some _, some _, some _, some _, some _, some _, some _, some _, some _, _, _, none, none, none, none, none, none, none]) (st1 := [_, _, _]) rfl ?_
  refine m_E.yr H.1 ok.1 rfl (by omega) (by decide) (yq.2.2.2.2.2.1) rfl ?_
  refine m_E.icf (y_nn _) rfl ?_
  refine m_E.run 2 (pc1 := 151) (ls1 := [some _, some _, some _, some _, some _, some _, some _, some _, some _, some _, some _, some _, some _, _, _, none, none, none, none, none, none, none]) (st1 := [_, _]) rfl ?_
  refine m_E.ov HC.o (by decide) rfl rfl rfl (o_count (d := d + 1) HC okw) ?_
  rw [k8]
  refine m_E.run 2 (pc1 := 157) (ls1 := [some _, some _, some _, some _, some _, some _, some _, some _, some _, some _, some _, some _, some _, _, _, none, none, none, none, none, none, none]) (st1 := [_, _, _]) rfl ?_
  refine m_E.yr H.1 ok.1 rfl (by omega) (by decide) (yq.2.2.2.2.2.2.1) rfl ?_
  refine m_E.icf (y_nn _) rfl ?_
  refine m_E.run 2 (pc1 := 164) (ls1 := [some _, some _, some _, some _, some _, some _, some _, some _, some _, some _, some _, some _, some _, _, _, none, none, none, none, none, none, none]) (st1 := [_, _]) rfl ?_
  refine m_E.ov HC.o (by decide) rfl rfl rfl (o_count (d := d + 1) HC okw) ?_
  rw [k9]
  refine m_E.run 2 (pc1 := 170) (ls1 := [some _, some _, some _, some _, some _, some _, some _, some _, some _, some _, some _, some _, some _, _, _, none, none, none, none, none, none, none]) (st1 := [_, _, _]) rfl ?_
  refine m_E.yr H.1 ok.1 rfl (by omega) (by decide) (yq.2.2.2.2.2.2.2) rfl ?_
  refine m_E.icf (y_nn _) rfl ?_
  refine m_E.run 2 (pc1 := 177) (ls1 := [some _, some _, some _, some _, some _, some _, some _, some _, some _, some _, some _, some _, some _, _, _, none, none, none, none, none, none, none]) (st1 := [_, _]) rfl ?_
  refine m_E.ov HC.o (by decide) rfl rfl rfl (o_count (d := d + 1) HC okw) ?_
  rw [k10]
  refine m_E.run 1 (pc1 := 182) (ls1 := [some _, some _, some _, some _, some _, some _, some _, some _, some _, some _, some _, some _, some _, _, _, none, none, none, none, none, none, none]) (st1 := [_, _]) rfl ?_
  refine m_E.icf (y_nn _) rfl ?_
  refine m_E.run 2 (pc1 := 188) (ls1 := [some _, some _, some _, some _, some _, some _, some _, some _, some _, some _, some _, some _, some _, _, _, none, none, none, none, none, none, none]) (st1 := [_, _]) rfl ?_
  refine m_E.ov HC.o (by decide) rfl rfl rfl (o_count (d := d + 1) HC okw) ?_
  rw [k11]
  refine m_E.run 2 (pc1 := 193) (ls1 := [some _, some _, some _, some _, some _, some _, some _, some _, some _, some _, some _, some _, some _, _, _, none, none, none, none, none, none, none]) (st1 := [_, _, _]) rfl ?_
  refine m_E.yr H.1 ok.1 rfl (by omega) (by decide) ((yq.1 1 (by decide))) rfl ?_
  refine m_E.run 1 (pc1 := 196) (ls1 := [some _, some _, some _, some _, some _, some _, some _, some _, some _, some _, some _, some _, some _, _, _, none, none, none, none, none, none, none]) (st1 := [_, _, _]) rfl ?_
  refine m_E.cv rfl rfl (y_leaning (d := d + 6) H.2.2.2.1 ok.2.2.2.1 yb.2.2 L rfl (t.set_lt (by decide))) ?_
  refine m_E.icf (y_nn _) rfl ?_
  refine m_E.run 1 (pc1 := 203) (ls1 := [some _, some _, some _, some _, some _, some _, some _, some _, some _, some _, some _, some _, some _, _, _, none, none, none, none, none, none, none]) (st1 := [_]) rfl ?_
  refine m_E.ov HC.o (by decide) rfl rfl rfl (o_why (d := d) HC okw) ?_
  refine m_E.run 4 (pc1 := 213) (ls1 := [some _, some _, some _, some _, some _, some _, some _, some _, some _, some _, some _, some _, some _, _, _, none, none, none, none, none, none, none]) (st1 := [_, _, _, _, _]) rfl ?_
  refine m_E.cv rfl rfl (y_why (d := d + 4) H Y t G GL) ?_
  refine m_E.icf (y_nn _) rfl ?_
  refine m_E.run 2 (pc1 := 221) (ls1 := [some _, some _, some _, some _, some _, some _, some _, some _, some _, some _, some _, some _, some _, _, _, none, none, none, none, none, none, none]) (st1 := [_, _]) rfl ?_
  refine m_E.ov HC.o (by decide) rfl rfl rfl (o_ifPrinted (d := d + 1) (tu := false) HC okw rfl) ?_
  rw [y_kn t]
  refine m_E.run 1 (pc1 := 226) (ls1 := [some _, some _, some _, some _, some _, some _, some _, some _, some _, some _, some _, some _, some _, _, _, none, none, none, none, none, none, none]) (st1 := [_, _]) rfl ?_
  refine m_E.icf (y_nn _) rfl ?_
  refine m_E.run 2 (pc1 := 231) (ls1 := [some _, some _, some _, some _, some _, some _, some _, some _, some _, some _, some _, some _, some _, _, _, none, none, none, none, none, none, none]) (st1 := [_, _]) rfl ?_
  refine m_E.ov HC.o (by decide) rfl rfl rfl (o_ifPrinted (d := d + 1) (tu := true) HC okw rfl) ?_
  rw [y_kn t]
  refine m_E.run 1 (pc1 := 236) (ls1 := [some _, some _, some _, some _, some _, some _, some _, some _, some _, some _, some _, some _, some _, _, _, none, none, none, none, none, none, none]) (st1 := [_, _]) rfl ?_
  refine m_E.icf (y_nn _) rfl ?_
  refine m_E.run 3 (pc1 := 243) (ls1 := [some _, some _, some _, some _, some _, some _, some _, some _, some _, some _, some _, some _, some _, _, _, none, none, none, none, none, none, none]) (st1 := [_, _, _]) rfl ?_
  refine m_E.ov HC.o (by decide) rfl rfl rfl (o_block (d := d + 1) HC okw) ?_
  rw [y_blk0 la]
  refine m_E.run 2 (pc1 := 249) (ls1 := [some _, some _, some _, some _, some _, some _, some _, some _, some _, some _, some _, some _, some _, _, _, none, none, none, none, none, none, none]) (st1 := [_, _, _]) rfl ?_
  refine m_E.yr H.2.1 ok.2.1 rfl (by omega) (by decide) ((yb.1 at_ la)) rfl ?_
  refine m_E.icf (y_nn _) rfl ?_
  refine m_E.run 3 (pc1 := 257) (ls1 := [some _, some _, some _, some _, some _, some _, some _, some _, some _, some _, some _, some _, some _, _, _, none, none, none, none, none, none, none]) (st1 := [_, _, _]) rfl ?_
  refine m_E.ov HC.o (by decide) rfl rfl rfl (o_block (d := d + 1) HC okw) ?_
  rw [y_blk1 la]
  refine m_E.run 2 (pc1 := 264) (ls1 := [some _, some _, some _, some _, some _, some _, some _, some _, some _, some _, some _, some _, some _, _, _, none, none, none, none, none, none, none]) (st1 := [_, _, _]) rfl ?_
  refine m_E.yr H.2.2.1 ok.2.2.1 rfl (by omega) (by decide) ((yb.2.1 at_ la)) rfl ?_
  refine m_E.icf (y_nn _) rfl ?_
  refine m_E.run 3 (pc1 := 272) (ls1 := [some _, some _, some _, some _, some _, some _, some _, some _, some _, some _, some _, some _, some _, _, _, none, none, none, none, none, none, none]) (st1 := [_, _, _]) rfl ?_
  refine m_E.yr H.2.1 ok.2.1 rfl (by omega) (by decide) ((yb.1 at_ la)) rfl ?_
  refine m_E.run 1 (pc1 := 274) (ls1 := [some _, some _, some _, some _, some _, some _, some _, some _, some _, some _, some _, some _, some _, _, _, none, none, none, none, none, none, none]) (st1 := [_, _, _]) rfl ?_
  refine m_E.ov HC.o (by decide) rfl rfl rfl (o_cardOf (d := d + 1) HC okw) ?_
  rw [y_card_0 t la]
  refine m_E.run 1 (pc1 := 279) (ls1 := [some _, some _, some _, some _, some _, some _, some _, some _, some _, some _, some _, some _, some _, _, _, none, none, none, none, none, none, none]) (st1 := [_, _]) rfl ?_
  refine m_E.icf (y_nn _) rfl ?_
  refine m_E.run 3 (pc1 := 286) (ls1 := [some _, some _, some _, some _, some _, some _, some _, some _, some _, some _, some _, some _, some _, _, _, none, none, none, none, none, none, none]) (st1 := [_, _, _]) rfl ?_
  refine m_E.ov HC.o (by decide) rfl rfl rfl (o_cardOf (d := d + 1) HC okw) ?_
  rw [y_card_1 la]
  refine m_E.run 3 (pc1 := 295) (ls1 := [some _, some _, some _, some _, some _, some _, some _, some _, some _, some _, some _, some _, some _, _, _, none, none, none, none, none, none, none]) (st1 := [_, _, _, _]) rfl ?_
  refine m_E.div (by decide) rfl ?_
  rw [m_rem (by omega) 6 (by decide) (by decide)]
  refine m_E.run 1 (pc1 := 297) (ls1 := [some _, some _, some _, some _, some _, some _, some _, some _, some _, some _, some _, some _, some _, _, _, none, none, none, none, none, none, none]) (st1 := [_, _, _, _]) rfl ?_
  by_cases c : 3 ≤ at_ % 6
  · skip
    obtain ⟨c1, c2⟩ := y_ct_ok la c
    refine m_E.ict ((m_leI (by omega) (by omega)).trans (decide_eq_true c)) rfl ?_
    refine m_E.run 2 (pc1 := 308) (ls1 := [some _, some _, some _, some _, some _, some _, some _, some _, some _, some _, some _, some _, some _, _, _, none, none, none, none, none, none, none]) (st1 := [_, _, _, _]) rfl ?_
    refine m_E.cv rfl rfl (y_court (d := d + 6) rfl la c) ?_
    refine m_E.yr H.2.2.2.1 ok.2.2.2.1 rfl (by omega) (by decide) (((yb.2.2 _ c1).trans (by rw [c2]))) rfl ?_
    refine m_E.run 1 (pc1 := 313) (ls1 := [some _, some _, some _, some _, some _, some _, some _, some _, some _, some _, some _, some _, some _, _, _, none, none, none, none, none, none, none]) (st1 := [_, _]) rfl ?_
    dsimp only
    rw [Int32.add_comm (nI 100)]
    refine m_E.icf (y_nn _) rfl ?_
    refine m_E.run 3 (pc1 := 323) (ls1 := [some _, some _, some _, some _, some _, some _, some _, some _, some _, some _, some _, some _, some _, some _, _, none, none, none, none, none, none, none]) (st1 := []) rfl ?_
    exact y_so2 hn X la
  · skip
    refine m_E.icf ((m_leI (by omega) (by omega)).trans (decide_eq_false c)) rfl ?_
    refine m_E.run 3 (pc1 := 313) (ls1 := [some _, some _, some _, some _, some _, some _, some _, some _, some _, some _, some _, some _, some _, _, _, none, none, none, none, none, none, none]) (st1 := [_, _]) rfl ?_
    dsimp only
    rw [L.2.2 at_ la (by omega), show (0 : Int32) + nI 100 = nI 100 + nI 0 from by decide]
    refine m_E.icf (y_nn _) rfl ?_
    refine m_E.run 3 (pc1 := 323) (ls1 := [some _, some _, some _, some _, some _, some _, some _, some _, some _, some _, some _, some _, some _, some _, _, none, none, none, none, none, none, none]) (st1 := []) rfl ?_
    exact y_so2 hn X la
set_option maxRecDepth 100000 in
theorem y_isSo {d : Nat} {n : List Nat} {p : Nat} {F : Nat → c_Sh} {W : c_W} {x : Int32} {R : y_R} {h : m_Hp} (hn : y_num) (X : Yx n p F W R h) : m_Call m_P (d + 8) 91 [.ref 4, .int x, .ref 61, .ref 62, .ref 63, .ref 64, .ref 65, .ref 66, .ref 67, .ref 68] (h) (some (.int (nI 1))) (h) := by
  refine m_call_of (tab := tL_isSo) (nL := 22) rfl rfl ?_
  obtain ⟨HC, okw, H, Y, L, GL⟩ := id X
  have t := okw.1
  obtain ⟨ok, yq, yb, yp, yk⟩ := id Y
  refine m_E.run 6 (pc1 := 9) (ls1 := [some _, some _, some _, some _, some _, some _, some _, some _, some _, some _, some _, some _, some _, none, none, none, none, none, none, none, none, none]) (st1 := []) rfl ?_
  refine m_E.lp (fun i ls hh => ∃ v13, ∃ v14, ls = [some (.ref 4), some (.int x), some (.ref 61), some (.ref 62), some (.ref 63), some (.ref 64), some (.ref 65), some (.ref 66), some (.ref 67), some (.ref 68), some (.int (nI (g_tot (fun c => g_pop ((c_backs (w_now W)).getD c 0)) i))), some (.int (nI (g_cnt (fun k => g_cnt (fun e => (c_backs (w_now W)).getD k 0 == (c_backs (w_now W)).getD e 0) 24 == 1) i))), some (.int (nI i)), v13, v14, none, none, none, none, none, none, none] ∧ (hh = h)) 24 ?_ ?_ ?_
  · skip
    rintro i _ hh hi ⟨v13, v14, rfl, hI⟩ K
    have eh := hI.symm
    subst eh
    have hi4 : i < 24 := by assumption
    have lv := t.bck i hi4
    refine m_E.run 2 (pc1 := 13) (ls1 := [some _, some _, some _, some _, some _, some _, some _, some _, some _, some _, some _, some _, some _, _, _, none, none, none, none, none, none, none]) (st1 := [_, _]) rfl ?_
    refine m_E.icf ((m_leI (by omega) (by omega)).trans (decide_eq_false (by omega))) rfl ?_
    refine m_E.run 5 (pc1 := 25) (ls1 := [some _, some _, some _, some _, some _, some _, some _, some _, some _, some _, some _, some _, some _, some _, _, none, none, none, none, none, none, none]) (st1 := [_, _, _]) rfl ?_
    refine m_E.yr H.2.2.1 ok.2.2.1 rfl (by omega) (by decide) ((yb.2.1 i hi4)) rfl ?_
    refine m_E.cv rfl rfl (y_ones (d := d + 6) rfl lv) ?_
    refine m_E.run 4 (pc1 := 35) (ls1 := [some _, some _, some _, some _, some _, some _, some _, some _, some _, some _, some _, some _, some _, some _, some _, none, none, none, none, none, none, none]) (st1 := []) rfl ?_
    dsimp only
    rw [nI_add]
    refine m_E.up (fun j => (35, [some (.ref 4), some (.int x), some (.ref 61), some (.ref 62), some (.ref 63), some (.ref 64), some (.ref 65), some (.ref 66), some (.ref 67), some (.ref 68), some (.int (nI (g_tot (fun c => g_pop ((c_backs (w_now W)).getD c 0)) i + g_pop ((c_backs (w_now W)).getD i 0)))), some (.int (nI (g_cnt (fun k => g_cnt (fun e => (c_backs (w_now W)).getD k 0 == (c_backs (w_now W)).getD e 0) 24 == 1) i))), some (.int (nI i)), some (.int (nI (g_cnt (fun e => (c_backs (w_now W)).getD i 0 == (c_backs (w_now W)).getD e 0) j))), some (.int (nI j)), none, none, none, none, none, none, none], [], h)) 24 (fun j => True) (fun j hi hI K => ?_) ?_ (fun hI => ?_)
    · skip
      show m_E _ _ 35 [some (.ref 4), some (.int x), some (.ref 61), some (.ref 62), some (.ref 63), some (.ref 64), some (.ref 65), some (.ref 66), some (.ref 67), some (.ref 68), some (.int (nI (g_tot (fun c => g_pop ((c_backs (w_now W)).getD c 0)) i + g_pop ((c_backs (w_now W)).getD i 0)))), some (.int (nI (g_cnt (fun k => g_cnt (fun e => (c_backs (w_now W)).getD k 0 == (c_backs (w_now W)).getD e 0) 24 == 1) i))), some (.int (nI i)), some (.int (nI (g_cnt (fun e => (c_backs (w_now W)).getD i 0 == (c_backs (w_now W)).getD e 0) j))), some (.int (nI j)), none, none, none, none, none, none, none] [] (h) _
      have hj : j < 24 := by assumption
      have lw := t.bck j hj
      refine m_E.run 2 (pc1 := 39) (ls1 := [some _, some _, some _, some _, some _, some _, some _, some _, some _, some _, some _, some _, some _, some _, some _, none, none, none, none, none, none, none]) (st1 := [_, _]) rfl ?_
      refine m_E.icf ((m_leI (by omega) (by omega)).trans (decide_eq_false (by omega))) rfl ?_
      refine m_E.run 3 (pc1 := 48) (ls1 := [some _, some _, some _, some _, some _, some _, some _, some _, some _, some _, some _, some _, some _, some _, some _, none, none, none, none, none, none, none]) (st1 := [_, _, _]) rfl ?_
      refine m_E.yr H.2.2.1 ok.2.2.1 rfl (by omega) (by decide) ((yb.2.1 i hi4)) rfl ?_
      refine m_E.run 2 (pc1 := 53) (ls1 := [some _, some _, some _, some _, some _, some _, some _, some _, some _, some _, some _, some _, some _, some _, some _, none, none, none, none, none, none, none]) (st1 := [_, _, _, _]) rfl ?_
      refine m_E.yr H.2.2.1 ok.2.2.1 rfl (by omega) (by decide) ((yb.2.1 j hj)) rfl ?_
      by_cases e1 : (c_backs (w_now W)).getD i 0 = (c_backs (w_now W)).getD j 0
      · skip
        refine m_E.icf (by rw [e1, m_neI (by omega) (by omega)]; simp) rfl ?_
        refine m_E.run 6 (pc1 := 35) (ls1 := [some _, some _, some _, some _, some _, some _, some _, some _, some _, some _, some _, some _, some _, some _, some _, none, none, none, none, none, none, none]) (st1 := []) rfl ?_
        dsimp only
        rw [g_c1 (p := fun e => (c_backs (w_now W)).getD i 0 == (c_backs (w_now W)).getD e 0) (m_beqE e1), nI_add]
        exact K trivial
      · skip
        refine m_E.ict ((m_neI (by omega) (by omega)).trans (decide_eq_true e1)) rfl ?_
        refine m_E.run 5 (pc1 := 35) (ls1 := [some _, some _, some _, some _, some _, some _, some _, some _, some _, some _, some _, some _, some _, some _, some _, none, none, none, none, none, none, none]) (st1 := []) rfl ?_
        dsimp only
        rw [g_c0 (p := fun e => (c_backs (w_now W)).getD i 0 == (c_backs (w_now W)).getD e 0) (m_beqN e1), nI_add]
        exact K trivial
    · skip
      trivial
    · skip
      show m_E _ _ 35 ((fun j => [some (.ref 4), some (.int x), some (.ref 61), some (.ref 62), some (.ref 63), some (.ref 64), some (.ref 65), some (.ref 66), some (.ref 67), some (.ref 68), some (.int (nI (g_tot (fun c => g_pop ((c_backs (w_now W)).getD c 0)) i + g_pop ((c_backs (w_now W)).getD i 0)))), some (.int (nI (g_cnt (fun k => g_cnt (fun e => (c_backs (w_now W)).getD k 0 == (c_backs (w_now W)).getD e 0) 24 == 1) i))), some (.int (nI i)), some (.int (nI (g_cnt (fun e => (c_backs (w_now W)).getD i 0 == (c_backs (w_now W)).getD e 0) j))), some (.int (nI j)), none, none, none, none, none, none, none]) (24)) [] ((fun j => h) (24)) _
      dsimp only
      have lc := g_cnt_le (fun e => (c_backs (w_now W)).getD i 0 == (c_backs (w_now W)).getD e 0) 24
      refine m_E.run 2 (pc1 := 39) (ls1 := [some _, some _, some _, some _, some _, some _, some _, some _, some _, some _, some _, some _, some _, some _, some _, none, none, none, none, none, none, none]) (st1 := [_, _]) rfl ?_
      refine m_E.ict (by decide) rfl ?_
      refine m_E.run 3 (pc1 := 76) (ls1 := [some _, some _, some _, some _, some _, some _, some _, some _, some _, some _, some _, some _, some _, some _, some _, none, none, none, none, none, none, none]) (st1 := [_, _, _]) rfl ?_
      by_cases e1 : g_cnt (fun e => (c_backs (w_now W)).getD i 0 == (c_backs (w_now W)).getD e 0) 24 = 1
      · skip
        refine m_E.icf (by rw [e1]; rfl) rfl ?_
        refine m_E.run 6 (pc1 := 9) (ls1 := [some _, some _, some _, some _, some _, some _, some _, some _, some _, some _, some _, some _, some _, some _, some _, none, none, none, none, none, none, none]) (st1 := []) rfl ?_
        dsimp only
        rw [g_c1 (p := fun k => g_cnt (fun e => (c_backs (w_now W)).getD k 0 == (c_backs (w_now W)).getD e 0) 24 == 1) (m_beqE e1), nI_add]
        exact K _ _ ⟨_, _, rfl, rfl⟩
      · skip
        refine m_E.ict ((m_neI (by omega) (by omega)).trans (decide_eq_true e1)) rfl ?_
        refine m_E.run 5 (pc1 := 9) (ls1 := [some _, some _, some _, some _, some _, some _, some _, some _, some _, some _, some _, some _, some _, some _, some _, none, none, none, none, none, none, none]) (st1 := []) rfl ?_
        dsimp only
        rw [g_c0 (p := fun k => g_cnt (fun e => (c_backs (w_now W)).getD k 0 == (c_backs (w_now W)).getD e 0) 24 == 1) (m_beqN e1), nI_add]
        exact K _ _ ⟨_, _, rfl, rfl⟩
  · skip
    exact ⟨none, none, rfl, rfl⟩
  · skip
    rintro _ hh ⟨v13, v14, rfl, hI⟩
    have eh := hI.symm
    subst eh
    refine m_E.run 2 (pc1 := 13) (ls1 := [some _, some _, some _, some _, some _, some _, some _, some _, some _, some _, some _, some _, some _, _, _, none, none, none, none, none, none, none]) (st1 := [_, _]) rfl ?_
    refine m_E.ict (by decide) rfl ?_
    exact y_so1 hn X
