/-! whether all is as the law has it -/
def Yx (n : List Nat) (p : Nat) (F : Nat → c_Sh) (W : c_W) (R : y_R) (h : m_Hp) : Prop := Hcl h n F W ∧ Okw n p W ∧ Hrw h R ∧ Ry F (w_now W) R ∧ Lnk (c_leans (w_now W)) ∧ Gln n F
def y_bw (f : Nat → Nat) : Nat → Int32 × Nat
  | 0 => (-4, 25)
  | i + 1 => (nI (g_wf f i).1, (g_wf f i).2)
theorem y_bw_lt {f : Nat → Nat} (h : ∀ k, f k < 25) : ∀ i, (y_bw f i).2 < 26
  | 0 => (by decide : 25 < 26)
  | i + 1 => by have := (g_wf_lt h i).2; show (g_wf f i).2 < 26; omega
theorem y_bw_s {f : Nat → Nat} (h : ∀ k, f k < 25) (i : Nat) : y_bw f (i + 1) = if f i < (y_bw f i).2 then (nI i, f i) else y_bw f i := by
  cases i with
  | zero =>
    show (nI (g_wf f 0).1, (g_wf f 0).2) = if f 0 < 25 then (nI 0, f 0) else ((-4 : Int32), 25)
    rw [if_pos (h 0)]; rfl
  | succ i =>
    show (nI (g_wf f (i + 1)).1, (g_wf f (i + 1)).2) = if f (i + 1) < (g_wf f i).2 then (nI (i + 1), f (i + 1)) else (nI (g_wf f i).1, (g_wf f i).2)
    rw [g_wf]
    by_cases c : f (i + 1) < (g_wf f i).2
    · rw [if_pos c, if_pos c]
    · rw [if_neg c, if_neg c]
set_option maxRecDepth 100000 in
theorem y_so4 {d : Nat} {n : List Nat} {p : Nat} {F : Nat → c_Sh} {W : c_W} {x : Int32} {R : y_R} {h : m_Hp} {w16 : Int32} {v10 v11 v12 v14 v15 : Option Value} (hn : y_num) (X : Yx n p F W R h) : m_E (m_Call m_P (d + 7)) tL_isSo 480 [some (.ref 4), some (.int x), some (.ref 61), some (.ref 62), some (.ref 63), some (.ref 64), some (.ref 65), some (.ref 66), some (.ref 67), some (.ref 68), v10, v11, v12, some (.int (nI 1)), v14, v15, some (.int w16), none, none, none, none, none] [] h (fun r2 h2 => r2 = some (.int (nI 1)) ∧ h2 = h) := by
  obtain ⟨HC, okw, H, Y, L, GL⟩ := X
  have t := okw.1
  have G := HC.gsh
  have l6 := t.1.2.2.2.2.2.2.2.2.2.2.2.1
  obtain ⟨ok, yq, yb, yp, yk⟩ := id Y
  have tail : ∀ b v18 v19 v20 v21, b = r_best F (w_now W) → m_E (m_Call m_P (d + 7)) tL_isSo 595 [some (.ref 4), some (.int x), some (.ref 61), some (.ref 62), some (.ref 63), some (.ref 64), some (.ref 65), some (.ref 66), some (.ref 67), some (.ref 68), v10, v11, v12, some (.int (nI 1)), v14, v15, some (.int w16), some (.int b), v18, v19, v20, v21] [] h (fun r2 h2 => r2 = some (.int (nI 1)) ∧ h2 = h) := by
    intro b v18 v19 v20 v21 hb
    subst hb
    refine m_E.run 1 (pc1 := 597) (ls1 := [some _, some _, some _, some _, some _, some _, some _, some _, some _, some _, _, _, _, some _, _, _, some _, some _, _, _, _, _]) (st1 := [_]) rfl ?_
    refine m_E.iff (by decide) rfl ?_
    refine m_E.run 1 (pc1 := 601) (ls1 := [some _, some _, some _, some _, some _, some _, some _, some _, some _, some _, _, _, _, some _, _, _, some _, some _, _, _, _, _]) (st1 := [_]) rfl ?_
    refine m_E.ov HC.o (by decide) rfl rfl rfl (o_bestWay (d := d + 1) HC okw) ?_
    refine m_E.run 1 (pc1 := 606) (ls1 := [some _, some _, some _, some _, some _, some _, some _, some _, some _, some _, _, _, _, some _, _, _, some _, some _, _, _, _, _]) (st1 := [_, _]) rfl ?_
    refine m_E.icf (y_nn _) rfl ?_
    refine m_E.run 7 (pc1 := 619) (ls1 := [some _, some _, some _, some _, some _, some _, some _, some _, some _, some _, _, _, _, some _, _, _, some _, some _, _, _, _, _]) (st1 := [_, _, _, _, _]) rfl ?_
    dsimp only
    refine m_E.cv rfl rfl (y_isPack (d := d) hn HC okw H Y) ?_
    refine m_E.iff (by decide) rfl ?_
    refine m_E.run 2 (pc1 := 630) (ls1 := [some _, some _, some _, some _, some _, some _, some _, some _, some _, some _, _, _, _, some _, _, _, some _, some _, _, _, _, _]) (st1 := [_]) rfl ?_
    exact m_E.zret (by decide) rfl ⟨rfl, rfl⟩
  refine m_E.run 6 (pc1 := 491) (ls1 := [some _, some _, some _, some _, some _, some _, some _, some _, some _, some _, _, _, _, some _, _, _, some _, some _, some _, some _, none, none]) (st1 := []) rfl ?_
  by_cases e0 : c_piled (w_now W) = 0
  · skip
    have er : (-4 : Int32) = r_best F (w_now W) := by rw [r_best]; split; rfl; rw [if_pos e0]
    refine m_E.run 2 (pc1 := 494) (ls1 := [some _, some _, some _, some _, some _, some _, some _, some _, some _, some _, _, _, _, some _, _, _, some _, some _, some _, some _, none, none]) (st1 := [_, _]) rfl ?_
    refine m_E.icf (by decide) rfl ?_
    refine m_E.run 2 (pc1 := 499) (ls1 := [some _, some _, some _, some _, some _, some _, some _, some _, some _, some _, _, _, _, some _, _, _, some _, some _, some _, some _, none, none]) (st1 := [_, _]) rfl ?_
    refine m_E.yr H.1 ok.1 rfl (by omega) (by decide) (yq.2.2.1) rfl ?_
    refine m_E.ift (by rw [e0]; decide) rfl ?_
    exact tail _ _ _ _ _ er
  · skip
    obtain ⟨s, hs, et⟩ := t.2.2.1.2.1 (c_piled (w_now W) - 1) (by omega)
    obtain ⟨so, sl1, sl2, sl3⟩ := G s hs
    have pk := yp (c_piled (w_now W) - 1) (by omega) s et
    have fl : ∀ k, g_hm (g_sh F s) k < 25 := fun k => Nat.lt_succ_of_le (g_cnt_le _ 24)
    have er : r_best F (w_now W) = nI (g_wf (g_hm (g_sh F s)) 3).1 := by rw [r_best, c_top, et]; dsimp only; rw [if_neg e0]
    refine m_E.lp (fun i ls hh => ∃ v20, ∃ v21, ls = [some (.ref 4), some (.int x), some (.ref 61), some (.ref 62), some (.ref 63), some (.ref 64), some (.ref 65), some (.ref 66), some (.ref 67), some (.ref 68), v10, v11, v12, some (.int (nI 1)), v14, v15, some (.int w16), some (.int (y_bw (g_hm (g_sh F s)) i).1), some (.int (nI (y_bw (g_hm (g_sh F s)) i).2)), some (.int (nI i)), v20, v21] ∧ (hh = h)) 4 ?_ ?_ ?_
    · skip
      rintro i _ hh hi ⟨v20, v21, rfl, hI⟩ K
      have eh := hI.symm
      subst eh
      have hi4 : i < 4 := by assumption
      have lb := y_bw_lt fl i
      have lf := fl i
      have es := y_bw_s fl i
      refine m_E.run 2 (pc1 := 494) (ls1 := [some _, some _, some _, some _, some _, some _, some _, some _, some _, some _, _, _, _, some _, _, _, some _, some _, some _, some _, _, _]) (st1 := [_, _]) rfl ?_
      refine m_E.icf ((m_leI (by omega) (by omega)).trans (decide_eq_false (by omega))) rfl ?_
      refine m_E.run 2 (pc1 := 499) (ls1 := [some _, some _, some _, some _, some _, some _, some _, some _, some _, some _, _, _, _, some _, _, _, some _, some _, some _, some _, _, _]) (st1 := [_, _]) rfl ?_
      refine m_E.yr H.1 ok.1 rfl (by omega) (by decide) (yq.2.2.1) rfl ?_
      refine m_E.iff ((m_leI (a := c_piled (w_now W)) (b := 0) (by omega) (by omega)).trans (decide_eq_false (by omega))) rfl ?_
      refine m_E.run 4 (pc1 := 509) (ls1 := [some _, some _, some _, some _, some _, some _, some _, some _, some _, some _, _, _, _, some _, _, _, some _, some _, some _, some _, some _, some _]) (st1 := []) rfl ?_
      refine m_E.up (fun j => (509, [some (.ref 4), some (.int x), some (.ref 61), some (.ref 62), some (.ref 63), some (.ref 64), some (.ref 65), some (.ref 66), some (.ref 67), some (.ref 68), v10, v11, v12, some (.int (nI 1)), v14, v15, some (.int w16), some (.int (y_bw (g_hm (g_sh F s)) i).1), some (.int (nI (y_bw (g_hm (g_sh F s)) i).2)), some (.int (nI i)), some (.int (nI (g_home (g_sh F s).1 i j))), some (.int (nI j))], [], h)) 24 (fun j => True) (fun j hi hI K => ?_) ?_ (fun hI => ?_)
      · skip
        show m_E _ _ 509 [some (.ref 4), some (.int x), some (.ref 61), some (.ref 62), some (.ref 63), some (.ref 64), some (.ref 65), some (.ref 66), some (.ref 67), some (.ref 68), v10, v11, v12, some (.int (nI 1)), v14, v15, some (.int w16), some (.int (y_bw (g_hm (g_sh F s)) i).1), some (.int (nI (y_bw (g_hm (g_sh F s)) i).2)), some (.int (nI i)), some (.int (nI (g_home (g_sh F s).1 i j))), some (.int (nI j))] [] (h) _
        have hj : j < 24 := by assumption
        have lcell := g_cellAt_lt i hi4 j hj
        have lcard : (g_sh F s).1.getD (g_cellAt i j) 0 < 24 := g_getD_lt so.2.1 (by omega)
        have lmk : (g_sh F s).2.1.getD ((g_sh F s).1.getD (g_cellAt i j) 0) 0 < 16 := g_getD_lt so.1 (by omega)
        refine m_E.run 2 (pc1 := 513) (ls1 := [some _, some _, some _, some _, some _, some _, some _, some _, some _, some _, _, _, _, some _, _, _, some _, some _, some _, some _, some _, some _]) (st1 := [_, _]) rfl ?_
        refine m_E.icf ((m_leI (by omega) (by omega)).trans (decide_eq_false (by omega))) rfl ?_
        refine m_E.run 3 (pc1 := 520) (ls1 := [some _, some _, some _, some _, some _, some _, some _, some _, some _, some _, _, _, _, some _, _, _, some _, some _, some _, some _, some _, some _]) (st1 := [_, _, _]) rfl ?_
        refine m_E.yr H.1 ok.1 rfl (by omega) (by decide) (yq.2.2.1) rfl ?_
        refine m_E.run 4 (pc1 := 527) (ls1 := [some _, some _, some _, some _, some _, some _, some _, some _, some _, some _, _, _, _, some _, _, _, some _, some _, some _, some _, some _, some _]) (st1 := [_, _, _, _]) rfl ?_
        dsimp only
        rw [pk_sub (by omega)]
        refine m_E.cv rfl rfl (y_cellAt (d := d + 6) rfl rfl hi4 hj) ?_
        refine m_E.run 1 (pc1 := 532) (ls1 := [some _, some _, some _, some _, some _, some _, some _, some _, some _, some _, _, _, _, some _, _, _, some _, some _, some _, some _, some _, some _]) (st1 := [_, _, _, _]) rfl ?_
        refine m_E.cv rfl rfl (y_sheetAt (d := d + 6) H ok pk rfl (by omega) rfl lcell) ?_
        refine m_E.run 3 (pc1 := 540) (ls1 := [some _, some _, some _, some _, some _, some _, some _, some _, some _, some _, _, _, _, some _, _, _, some _, some _, some _, some _, some _, some _]) (st1 := [_, _, _]) rfl ?_
        dsimp only
        rw [(y_vc_card lcard lmk).1]
        by_cases e1 : (g_sh F s).1.getD (g_cellAt i j) 0 = j
        · skip
          refine m_E.icf (by rw [e1, m_neI (by omega) (by omega)]; simp) rfl ?_
          refine m_E.run 6 (pc1 := 509) (ls1 := [some _, some _, some _, some _, some _, some _, some _, some _, some _, some _, _, _, _, some _, _, _, some _, some _, some _, some _, some _, some _]) (st1 := []) rfl ?_
          dsimp only
          rw [g_home, g_c1 (p := fun q => (g_sh F s).1.getD (g_cellAt i q) 0 == q) (m_beqE e1), nI_add]
          exact K trivial
        · skip
          refine m_E.ict ((m_neI (by omega) (by omega)).trans (decide_eq_true e1)) rfl ?_
          refine m_E.run 5 (pc1 := 509) (ls1 := [some _, some _, some _, some _, some _, some _, some _, some _, some _, some _, _, _, _, some _, _, _, some _, some _, some _, some _, some _, some _]) (st1 := []) rfl ?_
          dsimp only
          rw [g_home, g_c0 (p := fun q => (g_sh F s).1.getD (g_cellAt i q) 0 == q) (m_beqN e1), nI_add]
          exact K trivial
      · skip
        trivial
      · skip
        show m_E _ _ 509 ((fun j => [some (.ref 4), some (.int x), some (.ref 61), some (.ref 62), some (.ref 63), some (.ref 64), some (.ref 65), some (.ref 66), some (.ref 67), some (.ref 68), v10, v11, v12, some (.int (nI 1)), v14, v15, some (.int w16), some (.int (y_bw (g_hm (g_sh F s)) i).1), some (.int (nI (y_bw (g_hm (g_sh F s)) i).2)), some (.int (nI i)), some (.int (nI (g_home (g_sh F s).1 i j))), some (.int (nI j))]) (24)) [] ((fun j => h) (24)) _
        dsimp only
        change m_E _ _ _ [some (.ref 4), some (.int x), some (.ref 61), some (.ref 62), some (.ref 63), some (.ref 64), some (.ref 65), some (.ref 66), some (.ref 67), some (.ref 68), v10, v11, v12, some (.int (nI 1)), v14, v15, some (.int w16), some (.int (y_bw (g_hm (g_sh F s)) i).1), some (.int (nI (y_bw (g_hm (g_sh F s)) i).2)), some (.int (nI i)), some (.int (nI (g_hm (g_sh F s) i))), some (.int (nI 24))] _ _ _
        refine m_E.run 2 (pc1 := 513) (ls1 := [some _, some _, some _, some _, some _, some _, some _, some _, some _, some _, _, _, _, some _, _, _, some _, some _, some _, some _, some _, some _]) (st1 := [_, _]) rfl ?_
        refine m_E.ict (by decide) rfl ?_
        refine m_E.run 2 (pc1 := 561) (ls1 := [some _, some _, some _, some _, some _, some _, some _, some _, some _, some _, _, _, _, some _, _, _, some _, some _, some _, some _, some _, some _]) (st1 := [_, _]) rfl ?_
        by_cases c1 : g_hm (g_sh F s) i < (y_bw (g_hm (g_sh F s)) i).2
        · skip
          refine m_E.icf ((m_leI (by omega) (by omega)).trans (decide_eq_false (by omega))) rfl ?_
          refine m_E.run 5 (pc1 := 577) (ls1 := [some _, some _, some _, some _, some _, some _, some _, some _, some _, some _, _, _, _, some _, _, _, some _, some _, some _, some _, some _, some _]) (st1 := [_, _]) rfl ?_
          refine m_E.icf ((m_leI (by omega) (by omega)).trans (decide_eq_false (by omega))) rfl ?_
          refine m_E.run 5 (pc1 := 491) (ls1 := [some _, some _, some _, some _, some _, some _, some _, some _, some _, some _, _, _, _, some _, _, _, some _, some _, some _, some _, some _, some _]) (st1 := []) rfl ?_
          rw [nI_add]
          exact K _ _ ⟨_, _, by rw [es, if_pos c1], rfl⟩
        · skip
          refine m_E.ict ((m_leI (by omega) (by omega)).trans (decide_eq_true (by omega))) rfl ?_
          refine m_E.run 4 (pc1 := 577) (ls1 := [some _, some _, some _, some _, some _, some _, some _, some _, some _, some _, _, _, _, some _, _, _, some _, some _, some _, some _, some _, some _]) (st1 := [_, _]) rfl ?_
          refine m_E.ict ((m_leI (by omega) (by omega)).trans (decide_eq_true (by omega))) rfl ?_
          refine m_E.run 4 (pc1 := 491) (ls1 := [some _, some _, some _, some _, some _, some _, some _, some _, some _, some _, _, _, _, some _, _, _, some _, some _, some _, some _, some _, some _]) (st1 := []) rfl ?_
          rw [nI_add]
          exact K _ _ ⟨_, _, by rw [es, if_neg c1], rfl⟩
    · skip
      exact ⟨none, none, rfl, rfl⟩
    · skip
      rintro _ hh ⟨v20, v21, rfl, hI⟩
      have eh := hI.symm
      subst eh
      refine m_E.run 2 (pc1 := 494) (ls1 := [some _, some _, some _, some _, some _, some _, some _, some _, some _, some _, _, _, _, some _, _, _, some _, some _, some _, some _, _, _]) (st1 := [_, _]) rfl ?_
      refine m_E.ict (by decide) rfl ?_
      exact tail _ _ _ _ _ er.symm
theorem y_set {F : Nat → c_Sh} {W : c_W} {k : Nat} (hk : k < 4) : r_count F W (nI (14 + k)) = nI ((c_settings (w_now W)).getD k 0) := by
  rw [y_cnt (by omega)]
  match k, hk with
  | 0, _ => rfl
  | 1, _ => rfl
  | 2, _ => rfl
  | 3, _ => rfl
  | k + 4, hk => omega
theorem y_shIn {F : Nat → c_Sh} {S : c_St} {j c s : Nat} (hj : j < c_piled S) (hc : c < 24) (lp : c_piled S ≤ 6) (et : (c_pile S).getD (c_piled S - 1 - j) none = some s) : r_sheet F S (nI j) (nI c) (nI 0) = nI ((g_sh F s).1.getD c 0) ∧ r_sheet F S (nI j) (nI c) (nI 1) = nI ((g_sh F s).2.1.getD ((g_sh F s).1.getD c 0) 0) := by
  rw [r_sheet, r_sheet, if_pos ⟨g_in_yes hj (by omega), g_in_yes hc (by decide)⟩, if_pos ⟨g_in_yes hj (by omega), g_in_yes hc (by decide)⟩, m_cl (by omega), m_cl (by omega), et]
  dsimp only
  rw [if_pos rfl, if_neg (by decide), if_pos rfl]
  exact ⟨rfl, rfl⟩
theorem y_shOut {F : Nat → c_Sh} {S : c_St} {j : Nat} {y z : Int32} (hj : c_piled S ≤ j) (hj2 : j < 2 ^ 31) : r_sheet F S (nI j) y z = -1 := by
  rw [r_sheet, if_neg (by rw [g_in_no hj hj2]; simp)]
set_option maxRecDepth 100000 in
theorem y_so3 {d at_ : Nat} {n : List Nat} {p : Nat} {F : Nat → c_Sh} {W : c_W} {x : Int32} {R : y_R} {h : m_Hp} {v10 v11 v14 : Option Value} (hn : y_num) (X : Yx n p F W R h) (ha : at_ < 24) : m_E (m_Call m_P (d + 7)) tL_isSo 366 [some (.ref 4), some (.int x), some (.ref 61), some (.ref 62), some (.ref 63), some (.ref 64), some (.ref 65), some (.ref 66), some (.ref 67), some (.ref 68), v10, v11, some (.int (nI at_)), some (.int (nI 1)), v14, none, none, none, none, none, none, none] [] h (fun r2 h2 => r2 = some (.int (nI 1)) ∧ h2 = h) := by
  obtain ⟨HC, okw, H, Y, L, GL⟩ := id X
  have t := okw.1
  have G := HC.gsh
  have l6 := t.1.2.2.2.2.2.2.2.2.2.2.2.1
  obtain ⟨ok, yq, yb, yp, yk⟩ := id Y
  refine m_E.run 4 (pc1 := 371) (ls1 := [some _, some _, some _, some _, some _, some _, some _, some _, some _, some _, _, _, some _, some _, _, none, none, none, none, none, none, none]) (st1 := [_, _]) rfl ?_
  dsimp only
  have ls := y_lw_lt (x >>> (nI 5 &&& 31)) (show 0 < 7 by decide)
  refine m_E.cv rfl rfl (y_low (n := 7) (d := d + 6) rfl (by decide) (by decide)) ?_
  generalize y_lw (x >>> (nI 5 &&& 31)) 7 = j at *
  refine m_E.run 4 (pc1 := 380) (ls1 := [some _, some _, some _, some _, some _, some _, some _, some _, some _, some _, _, _, some _, some _, some _, none, none, none, none, none, none, none]) (st1 := [_, _, _]) rfl ?_
  refine m_E.yr H.1 ok.1 rfl (by omega) (by decide) (yq.2.2.1) rfl ?_
  by_cases e0 : j < c_piled (w_now W)
  · skip
    obtain ⟨s, hs, et⟩ := t.2.2.1.2.1 (c_piled (w_now W) - 1 - j) (by omega)
    obtain ⟨so, sl1, sl2, sl3⟩ := G s hs
    have pk := yp (c_piled (w_now W) - 1 - j) (by omega) s et
    obtain ⟨k1, k2⟩ := y_shIn (F := F) e0 ha l6 et
    have lcard : (g_sh F s).1.getD at_ 0 < 24 := g_getD_lt so.2.1 (by omega)
    have lmk : (g_sh F s).2.1.getD ((g_sh F s).1.getD at_ 0) 0 < 16 := g_getD_lt so.1 (by omega)
    obtain ⟨e1, e2⟩ := y_vc_card lcard lmk
    refine m_E.icf ((m_leI (by omega) (by omega)).trans (decide_eq_false (by omega))) rfl ?_
    refine m_E.run 4 (pc1 := 393) (ls1 := [some _, some _, some _, some _, some _, some _, some _, some _, some _, some _, _, _, some _, some _, some _, some _, none, none, none, none, none, none]) (st1 := [_]) rfl ?_
    refine m_E.iff (by decide) rfl ?_
    refine m_E.run 2 (pc1 := 398) (ls1 := [some _, some _, some _, some _, some _, some _, some _, some _, some _, some _, _, _, some _, some _, some _, some _, none, none, none, none, none, none]) (st1 := [_, _]) rfl ?_
    refine m_E.yr H.1 ok.1 rfl (by omega) (by decide) (yq.2.2.1) rfl ?_
    refine m_E.run 6 (pc1 := 408) (ls1 := [some _, some _, some _, some _, some _, some _, some _, some _, some _, some _, _, _, some _, some _, some _, some _, none, none, none, none, none, none]) (st1 := [_, _, _]) rfl ?_
    dsimp only
    rw [pk_sub (by omega), pk_sub (by omega)]
    refine m_E.cv rfl rfl (y_sheetAt (d := d + 6) H ok pk rfl (by omega) rfl ha) ?_
    refine m_E.run 3 (pc1 := 419) (ls1 := [some _, some _, some _, some _, some _, some _, some _, some _, some _, some _, _, _, some _, some _, some _, some _, some _, none, none, none, none, none]) (st1 := [_]) rfl ?_
    refine m_E.iff (by decide) rfl ?_
    refine m_E.run 4 (pc1 := 428) (ls1 := [some _, some _, some _, some _, some _, some _, some _, some _, some _, some _, _, _, some _, some _, some _, some _, some _, none, none, none, none, none]) (st1 := [_, _, _, _]) rfl ?_
    refine m_E.ov HC.o (by decide) rfl rfl rfl (o_sheet (d := d + 1) HC okw) ?_
    rw [k1]
    refine m_E.run 1 (pc1 := 433) (ls1 := [some _, some _, some _, some _, some _, some _, some _, some _, some _, some _, _, _, some _, some _, some _, some _, some _, none, none, none, none, none]) (st1 := [_, _]) rfl ?_
    refine m_E.iff (by decide) rfl ?_
    refine m_E.run 4 (pc1 := 445) (ls1 := [some _, some _, some _, some _, some _, some _, some _, some _, some _, some _, _, _, some _, some _, some _, some _, some _, none, none, none, none, none]) (st1 := [_, _]) rfl ?_
    dsimp only
    rw [e1]
    refine m_E.icf (y_nn _) rfl ?_
    refine m_E.run 4 (pc1 := 454) (ls1 := [some _, some _, some _, some _, some _, some _, some _, some _, some _, some _, _, _, some _, some _, some _, some _, some _, none, none, none, none, none]) (st1 := [_, _, _, _]) rfl ?_
    refine m_E.ov HC.o (by decide) rfl rfl rfl (o_sheet (d := d + 1) HC okw) ?_
    rw [k2]
    refine m_E.run 1 (pc1 := 459) (ls1 := [some _, some _, some _, some _, some _, some _, some _, some _, some _, some _, _, _, some _, some _, some _, some _, some _, none, none, none, none, none]) (st1 := [_, _]) rfl ?_
    refine m_E.iff (by decide) rfl ?_
    refine m_E.run 4 (pc1 := 470) (ls1 := [some _, some _, some _, some _, some _, some _, some _, some _, some _, some _, _, _, some _, some _, some _, some _, some _, none, none, none, none, none]) (st1 := [_, _]) rfl ?_
    dsimp only
    rw [e2]
    refine m_E.icf (y_nn _) rfl ?_
    refine m_E.run 3 (pc1 := 480) (ls1 := [some _, some _, some _, some _, some _, some _, some _, some _, some _, some _, _, _, some _, some _, some _, some _, some _, none, none, none, none, none]) (st1 := []) rfl ?_
    exact y_so4 hn X
  · skip
    have k1 : ∀ y z, r_sheet F (w_now W) (nI j) y z = -1 := fun y z => y_shOut (by omega) (by omega)
    refine m_E.ict ((m_leI (by omega) (by omega)).trans (decide_eq_true (by omega))) rfl ?_
    refine m_E.run 3 (pc1 := 393) (ls1 := [some _, some _, some _, some _, some _, some _, some _, some _, some _, some _, _, _, some _, some _, some _, some _, none, none, none, none, none, none]) (st1 := [_]) rfl ?_
    refine m_E.ift (by decide) rfl ?_
    refine m_E.run 3 (pc1 := 419) (ls1 := [some _, some _, some _, some _, some _, some _, some _, some _, some _, some _, _, _, some _, some _, some _, some _, some _, none, none, none, none, none]) (st1 := [_]) rfl ?_
    refine m_E.iff (by decide) rfl ?_
    refine m_E.run 4 (pc1 := 428) (ls1 := [some _, some _, some _, some _, some _, some _, some _, some _, some _, some _, _, _, some _, some _, some _, some _, some _, none, none, none, none, none]) (st1 := [_, _, _, _]) rfl ?_
    refine m_E.ov HC.o (by decide) rfl rfl rfl (o_sheet (d := d + 1) HC okw) ?_
    rw [k1]
    refine m_E.run 1 (pc1 := 433) (ls1 := [some _, some _, some _, some _, some _, some _, some _, some _, some _, some _, _, _, some _, some _, some _, some _, some _, none, none, none, none, none]) (st1 := [_, _]) rfl ?_
    refine m_E.ift (by decide) rfl ?_
    refine m_E.run 1 (pc1 := 445) (ls1 := [some _, some _, some _, some _, some _, some _, some _, some _, some _, some _, _, _, some _, some _, some _, some _, some _, none, none, none, none, none]) (st1 := [_, _]) rfl ?_
    refine m_E.icf (y_nn _) rfl ?_
    refine m_E.run 4 (pc1 := 454) (ls1 := [some _, some _, some _, some _, some _, some _, some _, some _, some _, some _, _, _, some _, some _, some _, some _, some _, none, none, none, none, none]) (st1 := [_, _, _, _]) rfl ?_
    refine m_E.ov HC.o (by decide) rfl rfl rfl (o_sheet (d := d + 1) HC okw) ?_
    rw [k1]
    refine m_E.run 1 (pc1 := 459) (ls1 := [some _, some _, some _, some _, some _, some _, some _, some _, some _, some _, _, _, some _, some _, some _, some _, some _, none, none, none, none, none]) (st1 := [_, _]) rfl ?_
    refine m_E.ift (by decide) rfl ?_
    refine m_E.run 1 (pc1 := 470) (ls1 := [some _, some _, some _, some _, some _, some _, some _, some _, some _, some _, _, _, some _, some _, some _, some _, some _, none, none, none, none, none]) (st1 := [_, _]) rfl ?_
    refine m_E.icf (y_nn _) rfl ?_
    refine m_E.run 3 (pc1 := 480) (ls1 := [some _, some _, some _, some _, some _, some _, some _, some _, some _, some _, _, _, some _, some _, some _, some _, some _, none, none, none, none, none]) (st1 := []) rfl ?_
    exact y_so4 hn X
set_option maxRecDepth 100000 in
theorem y_so2 {d at_ : Nat} {n : List Nat} {p : Nat} {F : Nat → c_Sh} {W : c_W} {x : Int32} {R : y_R} {h : m_Hp} {v10 v11 v14 : Option Value} (hn : y_num) (X : Yx n p F W R h) (ha : at_ < 24) : m_E (m_Call m_P (d + 7)) tL_isSo 323 [some (.ref 4), some (.int x), some (.ref 61), some (.ref 62), some (.ref 63), some (.ref 64), some (.ref 65), some (.ref 66), some (.ref 67), some (.ref 68), v10, v11, some (.int (nI at_)), some (.int (nI 1)), v14, none, none, none, none, none, none, none] [] h (fun r2 h2 => r2 = some (.int (nI 1)) ∧ h2 = h) := by
  obtain ⟨HC, okw, H, Y, L, GL⟩ := id X
  obtain ⟨ok, yq, yb, yp, yk⟩ := id Y
  refine m_E.run 2 (pc1 := 326) (ls1 := [some _, some _, some _, some _, some _, some _, some _, some _, some _, some _, _, _, some _, some _, some _, none, none, none, none, none, none, none]) (st1 := []) rfl ?_
  refine m_E.up (fun i => (326, [some (.ref 4), some (.int x), some (.ref 61), some (.ref 62), some (.ref 63), some (.ref 64), some (.ref 65), some (.ref 66), some (.ref 67), some (.ref 68), v10, v11, some (.int (nI at_)), some (.int (nI 1)), some (.int (nI i)), none, none, none, none, none, none, none], [], h)) 4 (fun i => True) (fun i hi hI K => ?_) ?_ (fun hI => ?_)
  · skip
    show m_E _ _ 326 [some (.ref 4), some (.int x), some (.ref 61), some (.ref 62), some (.ref 63), some (.ref 64), some (.ref 65), some (.ref 66), some (.ref 67), some (.ref 68), v10, v11, some (.int (nI at_)), some (.int (nI 1)), some (.int (nI i)), none, none, none, none, none, none, none] [] (h) _
    refine m_E.run 2 (pc1 := 329) (ls1 := [some _, some _, some _, some _, some _, some _, some _, some _, some _, some _, _, _, some _, some _, some _, none, none, none, none, none, none, none]) (st1 := [_, _]) rfl ?_
    refine m_E.icf ((m_leI (by omega) (by omega)).trans (decide_eq_false (by omega))) rfl ?_
    refine m_E.run 1 (pc1 := 334) (ls1 := [some _, some _, some _, some _, some _, some _, some _, some _, some _, some _, _, _, some _, some _, some _, none, none, none, none, none, none, none]) (st1 := [_]) rfl ?_
    refine m_E.iff (by decide) rfl ?_
    refine m_E.run 4 (pc1 := 343) (ls1 := [some _, some _, some _, some _, some _, some _, some _, some _, some _, some _, _, _, some _, some _, some _, none, none, none, none, none, none, none]) (st1 := [_, _]) rfl ?_
    dsimp only
    rw [nI_add]
    refine m_E.ov HC.o (by decide) rfl rfl rfl (o_count (d := d + 1) (y := nI (14 + i)) HC okw) ?_
    rw [y_set hi]
    refine m_E.run 2 (pc1 := 349) (ls1 := [some _, some _, some _, some _, some _, some _, some _, some _, some _, some _, _, _, some _, some _, some _, none, none, none, none, none, none, none]) (st1 := [_, _, _]) rfl ?_
    refine m_E.yr H.1 ok.1 rfl (by omega) (by decide) ((yq.1 i hi)) rfl ?_
    refine m_E.icf (y_nn _) rfl ?_
    refine m_E.run 5 (pc1 := 326) (ls1 := [some _, some _, some _, some _, some _, some _, some _, some _, some _, some _, _, _, some _, some _, some _, none, none, none, none, none, none, none]) (st1 := []) rfl ?_
    rw [nI_add]
    exact K trivial
  · skip
    trivial
  · skip
    show m_E _ _ 326 ((fun i => [some (.ref 4), some (.int x), some (.ref 61), some (.ref 62), some (.ref 63), some (.ref 64), some (.ref 65), some (.ref 66), some (.ref 67), some (.ref 68), v10, v11, some (.int (nI at_)), some (.int (nI 1)), some (.int (nI i)), none, none, none, none, none, none, none]) (4)) [] ((fun i => h) (4)) _
    dsimp only
    refine m_E.run 2 (pc1 := 329) (ls1 := [some _, some _, some _, some _, some _, some _, some _, some _, some _, some _, _, _, some _, some _, some _, none, none, none, none, none, none, none]) (st1 := [_, _]) rfl ?_
    refine m_E.ict (by decide) rfl ?_
    exact y_so3 hn X ha
