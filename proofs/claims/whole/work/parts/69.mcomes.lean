/-! the model's comesBack -/
theorem e_comesBack {d : Nat} {n top : Nat} {o : Nat → Nat} {x : Int32} {M : c_M} {h : m_Hp} (H : Hmo h M) (ok : Okm M) (h7 : (d_state M).getD 7 0 = nI n) (hn : n ≤ 24) (hx : x = nI top) (ht : top ≤ n) (ho : ∀ k, k < n → (d_order M).getD k 0 = nI (o k) ∧ o k < 24) : ∃ r h', m_Call m_P (d + 2) 166 [.ref 61, .int x] (h) r h' ∧ (fun r h2 => r = some (.int (m_bI (g_allb (fun k => o (g_before k top n)) n))) ∧ ∃ row sn, Hmo h2 (d_set_seen (d_set_order M row) sn) ∧ row.length = 24 ∧ sn.length = 24 ∧ (∀ k, k < n → row.getD k 0 = nI (o (g_before k top n))) ∧ Chg 61 69 h h2) r h' := by
  refine m_call_ex (tab := tX6_comesBack) (nL := 4) rfl rfl ?_
  subst hx
  have lo : (d_order M).length = 24 := ok.2.2.2.2.2.2.2.2.1
  have ls : (d_seen M).length = 24 := ok.2.2.2.2.2.2.2.2.2
  refine m_E.run 2 (pc1 := 2) (ls1 := [some _, some _, some _, none]) (st1 := []) rfl ?_
  refine m_E.lp (fun i ls hh => ∃ sn, ls = [some (.ref 61), some (.int (nI top)), some (.int (nI i)), none] ∧ (Hmo hh (d_set_seen M sn) ∧ sn.length = 24 ∧ (∀ k, k < i → sn.getD k 0 = nI (o (g_before k top n))) ∧ Chg 61 69 h hh)) n ?_ ?_ ?_
  · skip
    rintro i _ hh hi ⟨sn, rfl, hI⟩ K
    obtain ⟨Hi, li, vi, ci⟩ := hI
    have lb : g_before i top n < n := g_before_lt ht hi
    refine m_E.run 2 (pc1 := 4) (ls1 := [some _, some _, some _, none]) (st1 := [_, _]) rfl ?_
    refine m_E.gf Hi.o (by decide) rfl rfl ?_
    refine m_E.run 1 (pc1 := 9) (ls1 := [some _, some _, some _, none]) (st1 := [_, _, _]) rfl ?_
    refine m_E.rs Hi ok.1 rfl (by omega) (h7) rfl ?_
    refine m_E.icf ((m_leI (by omega) (by omega)).trans (decide_eq_false (by omega))) rfl ?_
    refine m_E.run 1 (pc1 := 14) (ls1 := [some _, some _, some _, none]) (st1 := [_]) rfl ?_
    refine m_E.gf Hi.o (by decide) rfl rfl ?_
    refine m_E.run 2 (pc1 := 19) (ls1 := [some _, some _, some _, none]) (st1 := [_, _, _]) rfl ?_
    refine m_E.gf Hi.o (by decide) rfl rfl ?_
    refine m_E.run 3 (pc1 := 25) (ls1 := [some _, some _, some _, none]) (st1 := [_, _, _, _, _, _]) rfl ?_
    refine m_E.ov Hi.o (by decide) rfl rfl rfl (e_cameFrom Hi ok.1 h7 (by omega) rfl (by omega) rfl ht) ?_
    refine m_E.ild Hi.2.2.2.2.2.2.1 (j := g_before i top n) (Or.inl rfl) rfl (show _ < (d_order M).length by omega) (show (d_order M).length < 2 ^ 31 by omega) rfl ?_
    change m_E _ _ _ _ (.int ((d_order M).getD (g_before i top n) 0) :: _) _ _
    rw [(ho _ lb).1]
    refine m_E.ig Hi.2.2.2.2.2.2.2 (by decide) rfl (show i < sn.length by omega) (show sn.length < 2 ^ 31 by omega) rfl (fun h3 u3 => ?_)
    refine m_E.run 2 (pc1 := 2) (ls1 := [some _, some _, some _, none]) (st1 := []) rfl ?_
    rw [nI_add]
    refine K _ _ ⟨_, rfl, Hi.w_seen u3, (List.length_set ..).trans li, fun k hk => ?_, ci.tr (u3.chg (by decide) (by decide))⟩
    show (sn.set i _).getD k 0 = _
    rw [g_sd (by omega)]
    by_cases e : k = i
    · rw [if_pos e, e]
    · rw [if_neg e]; exact vi k (by omega)
  · skip
    exact ⟨_, rfl, H, ls, fun k hk => absurd hk (Nat.not_lt_zero k), Chg.rf⟩
  · skip
    rintro _ hh ⟨sn, rfl, hI⟩
    obtain ⟨Hi, li, vi, ci⟩ := hI
    refine m_E.run 2 (pc1 := 4) (ls1 := [some _, some _, some _, none]) (st1 := [_, _]) rfl ?_
    refine m_E.gf Hi.o (by decide) rfl rfl ?_
    refine m_E.run 1 (pc1 := 9) (ls1 := [some _, some _, some _, none]) (st1 := [_, _, _]) rfl ?_
    refine m_E.rs Hi ok.1 rfl (by omega) (h7) rfl ?_
    refine m_E.ict ((m_leI (by omega) (by omega)).trans (decide_eq_true (Nat.le_refl _))) rfl ?_
    refine m_E.run 4 (pc1 := 40) (ls1 := [some _, some _, some _, some _]) (st1 := []) rfl ?_
    refine m_E.lp (fun j ls hh => ∃ row, ls = [some (.ref 61), some (.int (nI top)), some (.int (m_bI (g_allb (fun k => o (g_before k top n)) j))), some (.int (nI j))] ∧ (Hmo hh (d_set_seen (d_set_order M row) sn) ∧ row.length = 24 ∧ (∀ k, k < j → row.getD k 0 = nI (o (g_before k top n))) ∧ Chg 61 69 h hh)) n ?_ ?_ ?_
    · skip
      rintro j _ hh hi ⟨row, rfl, hI⟩ K
      obtain ⟨Hj, lj, vj, cj⟩ := hI
      have lb : g_before j top n < n := g_before_lt ht (by assumption)
      have lo2 := (ho _ lb).2
      refine m_E.run 2 (pc1 := 42) (ls1 := [some _, some _, some _, some _]) (st1 := [_, _]) rfl ?_
      refine m_E.gf Hj.o (by decide) rfl rfl ?_
      refine m_E.run 1 (pc1 := 47) (ls1 := [some _, some _, some _, some _]) (st1 := [_, _, _]) rfl ?_
      refine m_E.rs Hj ok.1 rfl (by omega) (h7) rfl ?_
      refine m_E.icf ((m_leI (by omega) (by omega)).trans (decide_eq_false (by omega))) rfl ?_
      refine m_E.run 1 (pc1 := 52) (ls1 := [some _, some _, some _, some _]) (st1 := [_]) rfl ?_
      refine m_E.gf Hj.o (by decide) rfl rfl ?_
      refine m_E.run 2 (pc1 := 57) (ls1 := [some _, some _, some _, some _]) (st1 := [_, _, _]) rfl ?_
      refine m_E.gf Hj.o (by decide) rfl rfl ?_
      refine m_E.run 1 (pc1 := 61) (ls1 := [some _, some _, some _, some _]) (st1 := [_, _, _, _]) rfl ?_
      refine m_E.ild Hj.2.2.2.2.2.2.2 (j := j) (Or.inl rfl) rfl (show _ < sn.length by omega) (show sn.length < 2 ^ 31 by omega) rfl ?_
      change m_E _ _ _ _ (.int (sn.getD j 0) :: _) _ _
      rw [vi j (by omega)]
      refine m_E.ig Hj.2.2.2.2.2.2.1 (by decide) rfl (show j < row.length by omega) (show row.length < 2 ^ 31 by omega) rfl (fun h3 u3 => ?_)
      have H3 : Hmo h3 (d_set_seen (d_set_order M (row.set j (nI (o (g_before j top n))))) sn) := Hj.w_order u3
      have l3 : (row.set j (nI (o (g_before j top n)))).length = 24 := (List.length_set ..).trans lj
      have v3 : ∀ k, k < j + 1 → (row.set j (nI (o (g_before j top n)))).getD k 0 = nI (o (g_before k top n)) := fun k hk => by
        rw [g_sd (by omega)]
        by_cases e : k = j
        · rw [if_pos e, e]
        · rw [if_neg e]; exact vj k (by omega)
      have c3 := cj.tr (u3.chg (lo := 61) (hi := 69) (by decide) (by decide))
      generalize row.set j (nI (o (g_before j top n))) = row3 at H3 l3 v3
      refine m_E.run 1 (pc1 := 64) (ls1 := [some _, some _, some _, some _]) (st1 := [_]) rfl ?_
      cases eb : g_allb (fun k => o (g_before k top n)) j
      · skip
        refine m_E.ift (rfl) rfl ?_
        refine m_E.run 4 (pc1 := 40) (ls1 := [some _, some _, some _, some _]) (st1 := []) rfl ?_
        rw [nI_add, show nI 0 = m_bI (g_allb (fun k => o (g_before k top n)) (j + 1)) from by rw [g_allb, eb]; rfl]
        exact K _ _ ⟨row3, rfl, H3, l3, v3, c3⟩
      · skip
        refine m_E.iff (rfl) rfl ?_
        refine m_E.run 1 (pc1 := 68) (ls1 := [some _, some _, some _, some _]) (st1 := [_]) rfl ?_
        refine m_E.gf H3.o (by decide) rfl rfl ?_
        refine m_E.run 1 (pc1 := 72) (ls1 := [some _, some _, some _, some _]) (st1 := [_, _]) rfl ?_
        refine m_E.ild H3.2.2.2.2.2.2.1 (j := j) (Or.inl rfl) rfl (show _ < row3.length by omega) (show row3.length < 2 ^ 31 by omega) rfl ?_
        change m_E _ _ _ _ (.int (row3.getD j 0) :: _) _ _
        rw [v3 j (by omega)]
        refine m_E.run 1 (pc1 := 74) (ls1 := [some _, some _, some _, some _]) (st1 := [_, _]) rfl ?_
        by_cases e1 : o (g_before j top n) = j
        · skip
          refine m_E.icf (by rw [e1, m_neI (by omega) (by omega)]; simp) rfl ?_
          refine m_E.run 5 (pc1 := 40) (ls1 := [some _, some _, some _, some _]) (st1 := []) rfl ?_
          rw [nI_add, show nI 1 = m_bI (g_allb (fun k => o (g_before k top n)) (j + 1)) from by rw [g_allb, eb, m_beqE e1]; rfl]
          exact K _ _ ⟨row3, rfl, H3, l3, v3, c3⟩
        · skip
          refine m_E.ict (by rw [m_neI (by omega) (by omega)]; exact decide_eq_true e1) rfl ?_
          refine m_E.run 4 (pc1 := 40) (ls1 := [some _, some _, some _, some _]) (st1 := []) rfl ?_
          rw [nI_add, show nI 0 = m_bI (g_allb (fun k => o (g_before k top n)) (j + 1)) from by rw [g_allb, eb, m_beqN e1]; rfl]
          exact K _ _ ⟨row3, rfl, H3, l3, v3, c3⟩
    · skip
      exact ⟨_, rfl, Hi, lo, fun k hk => absurd hk (Nat.not_lt_zero k), ci⟩
    · skip
      rintro _ hh ⟨row, rfl, hI⟩
      obtain ⟨Hj, lj, vj, cj⟩ := hI
      refine m_E.run 2 (pc1 := 42) (ls1 := [some _, some _, some _, some _]) (st1 := [_, _]) rfl ?_
      refine m_E.gf Hj.o (by decide) rfl rfl ?_
      refine m_E.run 1 (pc1 := 47) (ls1 := [some _, some _, some _, some _]) (st1 := [_, _, _]) rfl ?_
      refine m_E.rs Hj ok.1 rfl (by omega) (h7) rfl ?_
      refine m_E.ict ((m_leI (by omega) (by omega)).trans (decide_eq_true (Nat.le_refl _))) rfl ?_
      refine m_E.run 1 (pc1 := 90) (ls1 := [some _, some _, some _, some _]) (st1 := [_]) rfl ?_
      exact m_E.zret (m_bI_z _) rfl ⟨rfl, row, sn, Hj, lj, li, vj, cj⟩
