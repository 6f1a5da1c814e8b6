/-! best way, chances -/
def g_hm (s : c_Sh) (w : Nat) : Nat := g_home s.1 w 24
def r_best (F : Nat → c_Sh) (S : c_St) : Int32 := match c_top S with
  | none => -4
  | some k => if c_piled S = 0 then -4 else nI (g_wf (g_hm (g_sh F k)) 3).1
theorem o_bestWay {d : Nat} {n : List Nat} {p : Nat} {F : Nat → c_Sh} {W : c_W} {h : m_Hp} (H : Hcl h n F W) (ok : Okw n p W) : m_Call m_P (d + 6) 60 [.ref 4] (h) (some (.int (r_best F (w_now W)))) (h) := by
  refine m_call_of (tab := tX5_bestWay) (nL := 6) rfl rfl ?_
  have l12 := ok.1.1.2.2.2.2.2.2.2.2.2.2.2.1
  refine m_E.run 1 (pc1 := 1) (ls1 := [some _, none, none, none, none, none]) (st1 := [_]) rfl ?_
  refine m_E.gf H.o (by decide) rfl rfl ?_
  refine m_E.run 1 (pc1 := 5) (ls1 := [some _, none, none, none, none, none]) (st1 := [_, _]) rfl ?_
  by_cases e0 : c_piled (w_now W) = 0
  · skip
    have er : r_best F (w_now W) = -4 := by rw [r_best]; split; rfl; rw [if_pos e0]
    rw [er]
    refine m_E.ov H.now.2.1 (by decide) rfl rfl rfl (c_sheetAt0 H.now ok.1.1 (Or.inr (by rw [e0]; decide))) ?_
    refine m_E.run 2 (pc1 := 10) (ls1 := [some _, some _, none, none, none, none]) (st1 := [_]) rfl ?_
    refine m_E.run 1 (pc1 := 13) (ls1 := [some _, some _, none, none, none, none]) (st1 := []) rfl ?_
    refine m_E.run 1 (pc1 := 15) (ls1 := [some _, some _, none, none, none, none]) (st1 := [_]) rfl ?_
    exact m_E.iret rfl ⟨rfl, rfl⟩
  · skip
    obtain ⟨i, hi, et⟩ := ok.1.2.2.1.2.1 (c_piled (w_now W) - 1) (by omega)
    obtain ⟨s1, s2, s3⟩ := H.sheet hi
    have fl : ∀ k, g_hm (g_sh F i) k < 25 := fun k => Nat.lt_succ_of_le (g_cnt_le _ 24)
    refine m_E.ov H.now.2.1 (by decide) rfl rfl rfl (c_sheetAt (j := 0) H.now ok.1.1 rfl (by omega)) ?_
    rw [Nat.sub_zero, et]
    have er : r_best F (w_now W) = nI (g_wf (g_hm (g_sh F i)) 3).1 := by rw [r_best, c_top, et]; dsimp only; rw [if_neg e0]
    rw [er]
    refine m_E.run 2 (pc1 := 10) (ls1 := [some _, some _, none, none, none, none]) (st1 := [_]) rfl ?_
    refine m_E.run 1 (pc1 := 16) (ls1 := [some _, some _, none, none, none, none]) (st1 := []) rfl ?_
    refine m_E.run 4 (pc1 := 20) (ls1 := [some _, some _, some _, none, none, none]) (st1 := [_, _]) rfl ?_
    refine m_E.ov s1.2.1 s1.1 rfl rfl rfl (c_atHome (d := d + 1) s1 s2.2.1 (way := 0) rfl (by decide)) ?_
    change m_E _ _ _ _ (.int (nI (g_hm (g_sh F i) 0)) :: _) _ _
    refine m_E.run 3 (pc1 := 27) (ls1 := [some _, some _, some _, some _, some _, none]) (st1 := []) rfl ?_
    refine m_E.lp (fun j ls hh => ∃ v, ls = [some (.ref 4), some (.ref i), some (.int (nI (g_wf (g_hm (g_sh F i)) j).1)), some (.int (nI (g_wf (g_hm (g_sh F i)) j).2)), some (.int (nI (j + 1))), v] ∧ (hh = h)) 3 ?_ ?_ ?_
    · skip
      rintro j _ hh hi ⟨v, rfl, hI⟩ K
      subst hI
      obtain ⟨lw1, lw2⟩ := g_wf_lt fl j
      have lf := fl (j + 1)
      refine m_E.run 2 (pc1 := 30) (ls1 := [some _, some _, some _, some _, some _, _]) (st1 := [_, _]) rfl ?_
      refine m_E.icf ((m_leI (by omega) (by omega)).trans (decide_eq_false (by omega))) rfl ?_
      refine m_E.run 2 (pc1 := 36) (ls1 := [some _, some _, some _, some _, some _, _]) (st1 := [_, _]) rfl ?_
      refine m_E.ov s1.2.1 s1.1 rfl rfl rfl (c_atHome (d := d + 1) s1 s2.2.1 (way := j + 1) rfl (by omega)) ?_
      change m_E _ _ _ _ (.int (nI (g_hm (g_sh F i) (j + 1))) :: _) _ _
      refine m_E.run 3 (pc1 := 44) (ls1 := [some _, some _, some _, some _, some _, some _]) (st1 := [_, _]) rfl ?_
      by_cases e : g_hm (g_sh F i) (j + 1) < (g_wf (g_hm (g_sh F i)) j).2
      · skip
        refine m_E.icf ((m_leI (by omega) (by omega)).trans (decide_eq_false (by omega))) rfl ?_
        refine m_E.run 6 (pc1 := 27) (ls1 := [some _, some _, some _, some _, some _, some _]) (st1 := []) rfl ?_
        rw [nI_add]
        exact K _ _ ⟨_, by rw [g_wf, if_pos e], rfl⟩
      · skip
        refine m_E.ict ((m_leI (by omega) (by omega)).trans (decide_eq_true (by omega))) rfl ?_
        refine m_E.run 2 (pc1 := 27) (ls1 := [some _, some _, some _, some _, some _, some _]) (st1 := []) rfl ?_
        rw [nI_add]
        exact K _ _ ⟨_, by rw [g_wf, if_neg e], rfl⟩
    · skip
      exact ⟨none, rfl, rfl⟩
    · skip
      rintro _ hh ⟨v, rfl, hI⟩
      subst hI
      refine m_E.run 2 (pc1 := 30) (ls1 := [some _, some _, some _, some _, some _, _]) (st1 := [_, _]) rfl ?_
      refine m_E.ict (by decide) rfl ?_
      refine m_E.run 1 (pc1 := 60) (ls1 := [some _, some _, some _, some _, some _, _]) (st1 := [_]) rfl ?_
      exact m_E.iret rfl ⟨rfl, rfl⟩
def r_chances (F : Nat → c_Sh) (S : c_St) : UInt32 := match c_fr S with
  | none => 3212836864
  | some k => g_sum (g_can (c_order S) (g_sh F k).2.1 (c_dealt S) (24 - c_dealt S)) (24 - c_dealt S)
theorem o_chances {d : Nat} {n : List Nat} {p : Nat} {F : Nat → c_Sh} {W : c_W} {h : m_Hp} (hn : g_num) (H : Hcl h n F W) (ok : Okw n p W) : m_Call m_P (d + 6) 58 [.ref 4] (h) (some (.float (r_chances F (w_now W)))) (h) := by
  refine m_call_of (tab := tX5_chances) (nL := 1) rfl rfl ?_
  have hpk := H.now.pk ok.1.1
  have hps := H.ps ok
  refine m_E.run 1 (pc1 := 1) (ls1 := [some _]) (st1 := [_]) rfl ?_
  refine m_E.gf H.o (by decide) rfl rfl ?_
  refine m_E.gf H.now.2.1 (by decide) rfl rfl ?_
  refine m_E.ov hpk.2.1 hpk.1 rfl rfl rfl (c_isThere (d := d + 4) hpk) ?_
  rcases ef : c_fr (w_now W) with _ | k
  · skip
    rw [r_chances, ef]
    refine m_E.ift (rfl) rfl ?_
    refine m_E.run 1 (pc1 := 28) (ls1 := [some _]) (st1 := [_]) rfl ?_
    exact m_E.ret rfl rfl ⟨rfl, rfl⟩
  · skip
    rw [r_chances, ef]
    have es : c_shf F (w_now W) = g_sh F k := by rw [c_shf, ef]
    rw [es, ef] at hps
    refine m_E.iff (rfl) rfl ?_
    refine m_E.run 1 (pc1 := 14) (ls1 := [some _]) (st1 := [_]) rfl ?_
    refine m_E.gf H.o (by decide) rfl rfl ?_
    refine m_E.gf H.now.2.1 (by decide) rfl rfl ?_
    refine m_E.ov hpk.2.1 hpk.1 rfl rfl rfl (c_sum (d := d) hn hps) ?_
    refine m_E.run 1 (pc1 := 28) (ls1 := [some _]) (st1 := [_]) rfl ?_
    exact m_E.ret rfl rfl ⟨rfl, rfl⟩
