/-! what the model says that would be -/
theorem Okm.seen {M : c_M} (ok : Okm M) {v : List Int32} (h : v.length = 24) : Okm (d_set_seen M v) := by
  obtain ⟨k1, k2, k3, k4, k5, k6, k7, k8, k9, k10⟩ := ok
  exact ⟨k1, k2, k3, k4, k5, k6, k7, k8, k9, h⟩
theorem Okm.order {M : c_M} (ok : Okm M) {v : List Int32} (h : v.length = 24) : Okm (d_set_order M v) := by
  obtain ⟨k1, k2, k3, k4, k5, k6, k7, k8, k9, k10⟩ := ok
  exact ⟨k1, k2, k3, k4, k5, k6, k7, k8, h, k10⟩
theorem e_see {d : Nat} {tu : Bool} {x : Int32} {M : c_M} {h : m_Hp} (H : Hmo h M) (ok : Okm M) (hx : x = m_bI tu) : ∃ r h', m_Call m_P (d + 2) 161 [.ref 61, .int x] (h) r h' ∧ (fun r h2 => r = none ∧ ∃ row, Hmo h2 (d_set_seen M row) ∧ row.length = 24 ∧ (∀ k, k < 24 → row.getD k 0 = (d_state M).getD (59 + (if tu then 23 - k else k)) 0) ∧ Chg 61 69 h h2) r h' := by
  refine m_call_ex (tab := tX6_see) (nL := 3) rfl rfl ?_
  subst hx
  have ls : (d_seen M).length = 24 := ok.2.2.2.2.2.2.2.2.2
  refine m_E.run 2 (pc1 := 2) (ls1 := [some _, some _, some _]) (st1 := []) rfl ?_
  refine m_E.lp (fun i ls hh => ∃ row, ls = [some (.ref 61), some (.int (m_bI tu)), some (.int (nI i))] ∧ (Hmo hh (d_set_seen M row) ∧ row.length = 24 ∧ (∀ k, k < i → row.getD k 0 = (d_state M).getD (59 + (if tu then 23 - k else k)) 0) ∧ Chg 61 69 h hh)) 24 ?_ ?_ ?_
  · skip
    rintro i _ hh hi ⟨row, rfl, hI⟩ K
    obtain ⟨Hi, li, vi, ci⟩ := hI
    refine m_E.run 2 (pc1 := 5) (ls1 := [some _, some _, some _]) (st1 := [_, _]) rfl ?_
    refine m_E.icf ((m_leI (by omega) (by omega)).trans (decide_eq_false (by omega))) rfl ?_
    refine m_E.run 1 (pc1 := 9) (ls1 := [some _, some _, some _]) (st1 := [_]) rfl ?_
    refine m_E.gf Hi.o (by decide) rfl rfl ?_
    refine m_E.run 4 (pc1 := 16) (ls1 := [some _, some _, some _]) (st1 := [_, _, _, _, _]) rfl ?_
    refine m_E.ov Hi.o (by decide) rfl rfl rfl (e_backOf Hi ok.1 rfl hi rfl) ?_
    refine m_E.ig Hi.2.2.2.2.2.2.2 (by decide) rfl (show i < row.length by omega) (show row.length < 2 ^ 31 by omega) rfl (fun h3 u3 => ?_)
    refine m_E.run 2 (pc1 := 2) (ls1 := [some _, some _, some _]) (st1 := []) rfl ?_
    rw [nI_add]
    refine K _ _ ⟨_, rfl, Hi.w_seen u3, (List.length_set ..).trans li, fun k hk => ?_, ci.tr (u3.chg (by decide) (by decide))⟩
    show (row.set i _).getD k 0 = _
    rw [g_sd (by omega)]
    by_cases e : k = i
    · rw [if_pos e, e]; rfl
    · rw [if_neg e]; exact vi k (by omega)
  · skip
    exact ⟨_, rfl, H, ls, fun k hk => absurd hk (Nat.not_lt_zero k), Chg.rf⟩
  · skip
    rintro _ hh ⟨row, rfl, hI⟩
    obtain ⟨Hi, li, vi, ci⟩ := hI
    refine m_E.run 2 (pc1 := 5) (ls1 := [some _, some _, some _]) (st1 := [_, _]) rfl ?_
    refine m_E.ict (by decide) rfl ?_
    exact m_E.vret rfl ⟨rfl, row, Hi, li, vi, ci⟩
theorem g_bk_at {S : c_St} {tu : Bool} {k : Nat} (hk : k < 24) : g_bk (c_backs S) tu 24 k = (c_backs S).getD (if tu then 23 - k else k) 0 := by
  rw [g_bk, if_neg (by cases tu <;> simp <;> omega)]
theorem g_bk_lt {n p : Nat} {S : c_St} (t : Tok n p S) {tu : Bool} {b k : Nat} (hk : k < 24) : g_bk (c_backs S) tu b k < 16 := by
  rw [g_bk]
  by_cases e : (if tu = true then 23 - k else k) = b
  · rw [if_pos e]; decide
  · rw [if_neg e]; exact t.bck _ (by split <;> omega)
theorem e_ifPrinted {d : Nat} {n p : Nat} {F : Nat → c_Sh} {S : c_St} {tu : Bool} {x : Int32} {M : c_M} {h : m_Hp} (H : Hmo h M) (ok : Okm M) (E : Enc F S (d_state M)) (t : Tok n p S) (hx : x = m_bI tu) : ∃ r h', m_Call m_P (d + 3) 162 [.ref 61, .int x] (h) r h' ∧ (fun r h2 => r = some (.int (nI (g_kn S tu 24))) ∧ ∃ row, Hmo h2 (d_set_seen M row) ∧ row.length = 24 ∧ Chg 61 69 h h2) r h' := by
  refine m_call_ex (tab := tX6_ifPrinted) (nL := 2) rfl rfl ?_
  refine m_E.run 2 (pc1 := 2) (ls1 := [some _, some _]) (st1 := [_, _]) rfl ?_
  obtain ⟨_, h1, p1, rfl, row, H1, l1, v1, c1⟩ := e_see (d := d) H ok hx
  refine m_E.on H.o (by decide) rfl rfl rfl (p1) ?_
  refine m_E.run 1 (pc1 := 6) (ls1 := [some _, some _]) (st1 := [_]) rfl ?_
  refine m_E.ov H1.o (by decide) rfl rfl rfl (e_single H1 (ok.seen l1) (fun k hk => g_bk_lt t (tu := tu) (b := 24) hk) (fun k hk => by show row.getD k 0 = _; rw [v1 k hk, E.back (show (if tu = true then 23 - k else k) < 24 by split <;> omega), g_bk_at hk])) ?_
  exact m_E.iret rfl ⟨rfl, row, H1, l1, c1⟩
def g_wb (f : Nat → Nat) : Nat → Int32
  | 0 => -5
  | j + 1 => nI (g_wf f j).1
def g_wc (f : Nat → Nat) : Nat → Nat
  | 0 => 0
  | j + 1 => (g_wf f j).2
theorem g_bk_own {S : c_St} {i k : Nat} : g_bk (c_backs S) false i k = if k = i then 0 else (c_backs S).getD k 0 := rfl
theorem e_worstFlaw {d : Nat} {n p : Nat} {F : Nat → c_Sh} {S : c_St} {y : Int32} {M : c_M} {h : m_Hp} (H : Hmo h M) (ok : Okm M) (E : Enc F S (d_state M)) (t : Tok n p S) : ∃ r h', m_Call m_P (d + 3) 163 [.ref 61, .int y] (h) r h' ∧ (fun r h2 => r = some (.int (r_worst S y)) ∧ ∃ row, Hmo h2 (d_set_seen M row) ∧ row.length = 24 ∧ Chg 61 69 h h2) r h' := by
  refine m_call_ex (tab := tX6_worstFlaw) (nL := 6) rfl rfl ?_
  have ls : (d_seen M).length = 24 := ok.2.2.2.2.2.2.2.2.2
  have fl : ∀ k, g_kn S false k < 17 := fun k => Nat.lt_succ_of_le (g_cnt_le _ 16)
  refine m_E.run 3 (pc1 := 3) (ls1 := [some _, some _, none, none, none, none]) (st1 := [_, _, _]) rfl ?_
  refine m_E.cv rfl rfl (e_within) ?_
  rw [m_in2]
  have main : (y = nI 0 ∨ y = nI 1) → m_E (m_Call m_P (d + 2)) tX6_worstFlaw 12 [some (.ref 61), some (.int y), none, none, none, none] [] h (fun r h2 => r = some (.int (r_worst S y)) ∧ ∃ row, Hmo h2 (d_set_seen M row) ∧ row.length = 24 ∧ Chg 61 69 h h2) := by
    intro hy
    refine m_E.run 6 (pc1 := 20) (ls1 := [some _, some _, some _, some _, some _, none]) (st1 := []) rfl ?_
    refine m_E.lp (fun i ls hh => ∃ v5, ∃ row, ls = [some (.ref 61), some (.int y), some (.int (g_wb (g_kn S false) i)), some (.int (nI (g_wc (g_kn S false) i))), some (.int (nI i)), v5] ∧ (Hmo hh (d_set_seen M row) ∧ row.length = 24 ∧ Chg 61 69 h hh)) 24 ?_ ?_ ?_
    · skip
      rintro i _ hh hi ⟨v5, row, rfl, hI⟩ K
      obtain ⟨Hi, li, ci⟩ := hI
      have lf := fl i
      refine m_E.run 2 (pc1 := 24) (ls1 := [some _, some _, some _, some _, some _, _]) (st1 := [_, _]) rfl ?_
      refine m_E.icf ((m_leI (by omega) (by omega)).trans (decide_eq_false (by omega))) rfl ?_
      refine m_E.run 2 (pc1 := 29) (ls1 := [some _, some _, some _, some _, some _, _]) (st1 := [_, _]) rfl ?_
      obtain ⟨_, h1, p1, rfl, row1, H1, l1, v1, c1⟩ := e_see (d := d) (tu := false) Hi (ok.seen li) rfl
      refine m_E.on Hi.o (by decide) rfl rfl rfl (p1) ?_
      change Hmo h1 (d_set_seen M row1) at H1
      refine m_E.run 1 (pc1 := 33) (ls1 := [some _, some _, some _, some _, some _, _]) (st1 := [_]) rfl ?_
      refine m_E.gf H1.o (by decide) rfl rfl ?_
      refine m_E.run 2 (pc1 := 39) (ls1 := [some _, some _, some _, some _, some _, _]) (st1 := [_, _, _]) rfl ?_
      refine m_E.ig H1.2.2.2.2.2.2.2 (by decide) rfl (show i < row1.length by omega) (show row1.length < 2 ^ 31 by omega) rfl (fun h3 u3 => ?_)
      have H3 : Hmo h3 (d_set_seen M (row1.set i (nI 0))) := H1.w_seen u3
      have l3 : (row1.set i (nI 0)).length = 24 := (List.length_set ..).trans l1
      have c3 : Chg 61 69 h h3 := ci.tr (c1.tr (u3.chg (by decide) (by decide)))
      have v3 : ∀ k, k < 24 → (row1.set i (nI 0)).getD k 0 = nI (g_bk (c_backs S) false i k) := fun k hk => by
        rw [g_sd (by omega), g_bk_own]
        by_cases e : k = i
        · rw [if_pos e, if_pos e]
        · rw [if_neg e, if_neg e, v1 k hk]; exact E.back hk
      have sg := fun (dd : Nat) => e_single (d := dd) H3 (ok.seen l3) (fun k hk => g_bk_lt t (tu := false) (b := i) hk) v3
      generalize row1.set i (nI 0) = row3 at H3 l3 sg
      have yes : g_wb (g_kn S false) (i + 1) = nI i → g_wc (g_kn S false) (i + 1) = g_kn S false i → m_E (m_Call m_P (d + 2)) tX6_worstFlaw 54 [some (.ref 61), some (.int y), some (.int (g_wb (g_kn S false) i)), some (.int (nI (g_wc (g_kn S false) i))), some (.int (nI i)), v5] [] h3 (fun r h2 => r = some (.int (r_worst S y)) ∧ ∃ row, Hmo h2 (d_set_seen M row) ∧ row.length = 24 ∧ Chg 61 69 h h2) := by
        intro e1 e2
        refine m_E.run 4 (pc1 := 63) (ls1 := [some _, some _, some _, some _, some _, some _]) (st1 := [_]) rfl ?_
        refine m_E.iff (rfl) rfl ?_
        refine m_E.run 4 (pc1 := 75) (ls1 := [some _, some _, some _, some _, some _, some _]) (st1 := [_]) rfl ?_
        refine m_E.iff (rfl) rfl ?_
        refine m_E.run 1 (pc1 := 79) (ls1 := [some _, some _, some _, some _, some _, some _]) (st1 := [_]) rfl ?_
        refine m_E.ov H3.o (by decide) rfl rfl rfl (sg _) ?_
        refine m_E.run 4 (pc1 := 20) (ls1 := [some _, some _, some _, some _, some _, some _]) (st1 := []) rfl ?_
        rw [nI_add]
        exact K _ _ ⟨_, row3, by rw [e1, e2]; rfl, H3, l3, c3⟩
      have no : g_wb (g_kn S false) (i + 1) = g_wb (g_kn S false) i → g_wc (g_kn S false) (i + 1) = g_wc (g_kn S false) i → m_E (m_Call m_P (d + 2)) tX6_worstFlaw 58 [some (.ref 61), some (.int y), some (.int (g_wb (g_kn S false) i)), some (.int (nI (g_wc (g_kn S false) i))), some (.int (nI i)), v5] [] h3 (fun r h2 => r = some (.int (r_worst S y)) ∧ ∃ row, Hmo h2 (d_set_seen M row) ∧ row.length = 24 ∧ Chg 61 69 h h2) := by
        intro e1 e2
        refine m_E.run 3 (pc1 := 63) (ls1 := [some _, some _, some _, some _, some _, some _]) (st1 := [_]) rfl ?_
        refine m_E.ift (rfl) rfl ?_
        refine m_E.run 3 (pc1 := 75) (ls1 := [some _, some _, some _, some _, some _, some _]) (st1 := [_]) rfl ?_
        refine m_E.ift (rfl) rfl ?_
        refine m_E.run 4 (pc1 := 20) (ls1 := [some _, some _, some _, some _, some _, some _]) (st1 := []) rfl ?_
        rw [nI_add]
        exact K _ _ ⟨_, row3, by rw [e1, e2], H3, l3, c3⟩
      rcases i with _ | j
      · skip
        refine m_E.run 2 (pc1 := 43) (ls1 := [some _, some _, some _, some _, some _, _]) (st1 := [_, _]) rfl ?_
        refine m_E.ict (rfl) rfl ?_
        exact yes rfl rfl
      · skip
        obtain ⟨lw1, lw2⟩ := g_wf_lt fl j
        refine m_E.run 2 (pc1 := 43) (ls1 := [some _, some _, some _, some _, some _, _]) (st1 := [_, _]) rfl ?_
        have e5 : (g_wb (g_kn S false) (j + 1) == (-5 : Int32)) = false := m_n5 (by omega)
        refine m_E.icf (e5) rfl ?_
        refine m_E.run 1 (pc1 := 47) (ls1 := [some _, some _, some _, some _, some _, _]) (st1 := [_]) rfl ?_
        refine m_E.ov H3.o (by decide) rfl rfl rfl (sg _) ?_
        change m_E _ _ _ _ (.int (nI (g_kn S false (j + 1))) :: _) _ _
        refine m_E.run 1 (pc1 := 51) (ls1 := [some _, some _, some _, some _, some _, _]) (st1 := [_, _]) rfl ?_
        by_cases e : g_kn S false (j + 1) < (g_wf (g_kn S false) j).2
        · skip
          refine m_E.icf ((m_leI (by omega) (by omega)).trans (decide_eq_false (show ¬ (g_wf (g_kn S false) j).2 ≤ g_kn S false (j + 1) by omega))) rfl ?_
          exact yes (by show nI (g_wf _ (j + 1)).1 = _; rw [g_wf, if_pos e]) (by show (g_wf _ (j + 1)).2 = _; rw [g_wf, if_pos e])
        · skip
          refine m_E.ict ((m_leI (by omega) (by omega)).trans (decide_eq_true (show (g_wf (g_kn S false) j).2 ≤ g_kn S false (j + 1) by omega))) rfl ?_
          exact no (by show nI (g_wf _ (j + 1)).1 = _; rw [g_wf, if_neg e]; rfl) (by show (g_wf _ (j + 1)).2 = _; rw [g_wf, if_neg e]; rfl)
    · skip
      exact ⟨none, _, rfl, H, ls, Chg.rf⟩
    · skip
      rintro _ hh ⟨v5, row, rfl, hI⟩
      obtain ⟨Hi, li, ci⟩ := hI
      refine m_E.run 2 (pc1 := 24) (ls1 := [some _, some _, some _, some _, some _, _]) (st1 := [_, _]) rfl ?_
      refine m_E.ict (by decide) rfl ?_
      refine m_E.run 1 (pc1 := 94) (ls1 := [some _, some _, some _, some _, some _, _]) (st1 := [_]) rfl ?_
      rcases hy with rfl | rfl
      · skip
        refine m_E.iff (rfl) rfl ?_
        refine m_E.run 2 (pc1 := 102) (ls1 := [some _, some _, some _, some _, some _, _]) (st1 := [_]) rfl ?_
        exact m_E.iret rfl ⟨rfl, row, Hi, li, ci⟩
      · skip
        refine m_E.ift (rfl) rfl ?_
        refine m_E.run 1 (pc1 := 102) (ls1 := [some _, some _, some _, some _, some _, _]) (st1 := [_]) rfl ?_
        exact m_E.iret rfl ⟨rfl, row, Hi, li, ci⟩
  by_cases e0 : y = nI 0
  · skip
    refine m_E.ift (by rw [e0]; decide) rfl ?_
    exact main (Or.inl e0)
  · skip
    by_cases e1 : y = nI 1
    · skip
      refine m_E.ift (by rw [e1]; decide) rfl ?_
      exact main (Or.inr e1)
    · skip
      have ez : g_in 2 y = false := by rw [← Bool.not_eq_true]; intro q; obtain ⟨w, hw, rfl⟩ := g_in_of q (by decide); match w, hw with | 0, _ => exact e0 rfl | 1, _ => exact e1 rfl
      rw [ez, r_worst, if_neg e0, if_neg e1]
      refine m_E.iff (rfl) rfl ?_
      refine m_E.run 1 (pc1 := 11) (ls1 := [some _, some _, none, none, none, none]) (st1 := [_]) rfl ?_
      exact m_E.iret rfl ⟨rfl, _, H, ls, Chg.rf⟩
theorem e_cellAt {d : Nat} {way place : Nat} {a b : Int32} {h : m_Hp} (ha : a = nI place) (hb : b = nI way) (hw : way < 4) (hp : place < 24) : m_Call m_P (d + 1) 120 [.int a, .int b] (h) (some (.int (nI (g_cellAt way place)))) (h) := by
  refine m_call_of (tab := tX6_cellAt) (nL := 6) rfl rfl ?_
  subst ha hb
  have e : way = 0 ∨ way = 1 ∨ way = 2 ∨ way = 3 := by omega
  refine m_E.run 2 (pc1 := 2) (ls1 := [some _, some _, none, none, none, none]) (st1 := [_, _]) rfl ?_
  refine m_E.div (by decide) rfl ?_
  rcases e with rfl | rfl | rfl | rfl
  · skip
    refine m_E.iff (by decide) rfl ?_
    refine m_E.run 4 (pc1 := 13) (ls1 := [some _, some _, some _, none, none, none]) (st1 := [_]) rfl ?_
    refine m_E.iff (by decide) rfl ?_
    refine m_E.run 5 (pc1 := 25) (ls1 := [some _, some _, some _, some _, none, none]) (st1 := [_, _]) rfl ?_
    refine m_E.div (by decide) rfl ?_
    rw [pk_div (by omega) (by decide) (by decide)]
    refine m_E.run 3 (pc1 := 30) (ls1 := [some _, some _, some _, some _, some _, none]) (st1 := [_, _]) rfl ?_
    refine m_E.div (by decide) rfl ?_
    rw [m_rem (by omega) 6 (by decide) (by decide)]
    refine m_E.run 3 (pc1 := 35) (ls1 := [some _, some _, some _, some _, some _, some _]) (st1 := [_, _]) rfl ?_
    refine m_E.ict (by decide) rfl ?_
    refine m_E.run 3 (pc1 := 60) (ls1 := [some _, some _, some _, some _, some _, some _]) (st1 := [_]) rfl ?_
    refine m_E.iff (by decide) rfl ?_
    refine m_E.run 6 (pc1 := 82) (ls1 := [some _, some _, some _, some _, some _, some _]) (st1 := [_]) rfl ?_
    dsimp only
    rw [pk_mul, nI_add]
    exact m_E.iret rfl ⟨rfl, rfl⟩
  · skip
    refine m_E.ift (by decide) rfl ?_
    refine m_E.run 3 (pc1 := 13) (ls1 := [some _, some _, some _, none, none, none]) (st1 := [_]) rfl ?_
    refine m_E.ift (by decide) rfl ?_
    refine m_E.run 4 (pc1 := 25) (ls1 := [some _, some _, some _, some _, none, none]) (st1 := [_, _]) rfl ?_
    refine m_E.div (by decide) rfl ?_
    rw [pk_div (by omega) (by decide) (by decide)]
    refine m_E.run 3 (pc1 := 30) (ls1 := [some _, some _, some _, some _, some _, none]) (st1 := [_, _]) rfl ?_
    refine m_E.div (by decide) rfl ?_
    rw [m_rem (by omega) 4 (by decide) (by decide)]
    refine m_E.run 3 (pc1 := 35) (ls1 := [some _, some _, some _, some _, some _, some _]) (st1 := [_, _]) rfl ?_
    refine m_E.ict (by decide) rfl ?_
    refine m_E.run 3 (pc1 := 60) (ls1 := [some _, some _, some _, some _, some _, some _]) (st1 := [_]) rfl ?_
    refine m_E.ift (by decide) rfl ?_
    refine m_E.run 5 (pc1 := 82) (ls1 := [some _, some _, some _, some _, some _, some _]) (st1 := [_]) rfl ?_
    dsimp only
    rw [pk_mul, nI_add]
    exact m_E.iret rfl ⟨rfl, rfl⟩
  · skip
    refine m_E.iff (by decide) rfl ?_
    refine m_E.run 4 (pc1 := 13) (ls1 := [some _, some _, some _, none, none, none]) (st1 := [_]) rfl ?_
    refine m_E.iff (by decide) rfl ?_
    refine m_E.run 5 (pc1 := 25) (ls1 := [some _, some _, some _, some _, none, none]) (st1 := [_, _]) rfl ?_
    refine m_E.div (by decide) rfl ?_
    rw [pk_div (by omega) (by decide) (by decide)]
    refine m_E.run 3 (pc1 := 30) (ls1 := [some _, some _, some _, some _, some _, none]) (st1 := [_, _]) rfl ?_
    refine m_E.div (by decide) rfl ?_
    rw [m_rem (by omega) 6 (by decide) (by decide)]
    refine m_E.run 3 (pc1 := 35) (ls1 := [some _, some _, some _, some _, some _, some _]) (st1 := [_, _]) rfl ?_
    refine m_E.icf (by decide) rfl ?_
    refine m_E.run 2 (pc1 := 41) (ls1 := [some _, some _, some _, some _, some _, some _]) (st1 := [_, _]) rfl ?_
    refine m_E.div (by decide) rfl ?_
    rw [m_rem (by omega) 2 (by decide) (by decide)]
    refine m_E.run 1 (pc1 := 43) (ls1 := [some _, some _, some _, some _, some _, some _]) (st1 := [_, _]) rfl ?_
    by_cases e2 : place / 6 % 2 = 1
    · skip
      refine m_E.icf (by rw [e2]; decide) rfl ?_
      refine m_E.run 8 (pc1 := 60) (ls1 := [some _, some _, some _, some _, some _, some _]) (st1 := [_]) rfl ?_
      dsimp only
      rw [pk_sub (by decide), pk_sub (show place % 6 ≤ 6 - 1 by omega)]
      refine m_E.iff (by decide) rfl ?_
      refine m_E.run 6 (pc1 := 82) (ls1 := [some _, some _, some _, some _, some _, some _]) (st1 := [_]) rfl ?_
      dsimp only
      rw [pk_mul, nI_add]
      exact m_E.iret rfl ⟨by rw [g_cellAt, if_pos (Or.inr rfl), decide_eq_true ⟨rfl, e2⟩]; rfl, rfl⟩
    · skip
      refine m_E.ict (by rw [m_neI (by omega) (by omega)]; exact decide_eq_true e2) rfl ?_
      refine m_E.run 3 (pc1 := 60) (ls1 := [some _, some _, some _, some _, some _, some _]) (st1 := [_]) rfl ?_
      refine m_E.iff (by decide) rfl ?_
      refine m_E.run 6 (pc1 := 82) (ls1 := [some _, some _, some _, some _, some _, some _]) (st1 := [_]) rfl ?_
      dsimp only
      rw [pk_mul, nI_add]
      exact m_E.iret rfl ⟨by rw [g_cellAt, if_pos (Or.inr rfl), decide_eq_false (fun z => e2 z.2)]; rfl, rfl⟩
  · skip
    refine m_E.ift (by decide) rfl ?_
    refine m_E.run 3 (pc1 := 13) (ls1 := [some _, some _, some _, none, none, none]) (st1 := [_]) rfl ?_
    refine m_E.ift (by decide) rfl ?_
    refine m_E.run 4 (pc1 := 25) (ls1 := [some _, some _, some _, some _, none, none]) (st1 := [_, _]) rfl ?_
    refine m_E.div (by decide) rfl ?_
    rw [pk_div (by omega) (by decide) (by decide)]
    refine m_E.run 3 (pc1 := 30) (ls1 := [some _, some _, some _, some _, some _, none]) (st1 := [_, _]) rfl ?_
    refine m_E.div (by decide) rfl ?_
    rw [m_rem (by omega) 4 (by decide) (by decide)]
    refine m_E.run 3 (pc1 := 35) (ls1 := [some _, some _, some _, some _, some _, some _]) (st1 := [_, _]) rfl ?_
    refine m_E.icf (by decide) rfl ?_
    refine m_E.run 2 (pc1 := 41) (ls1 := [some _, some _, some _, some _, some _, some _]) (st1 := [_, _]) rfl ?_
    refine m_E.div (by decide) rfl ?_
    rw [m_rem (by omega) 2 (by decide) (by decide)]
    refine m_E.run 1 (pc1 := 43) (ls1 := [some _, some _, some _, some _, some _, some _]) (st1 := [_, _]) rfl ?_
    by_cases e2 : place / 4 % 2 = 1
    · skip
      refine m_E.icf (by rw [e2]; decide) rfl ?_
      refine m_E.run 8 (pc1 := 60) (ls1 := [some _, some _, some _, some _, some _, some _]) (st1 := [_]) rfl ?_
      dsimp only
      rw [pk_sub (by decide), pk_sub (show place % 4 ≤ 4 - 1 by omega)]
      refine m_E.ift (by decide) rfl ?_
      refine m_E.run 5 (pc1 := 82) (ls1 := [some _, some _, some _, some _, some _, some _]) (st1 := [_]) rfl ?_
      dsimp only
      rw [pk_mul, nI_add]
      exact m_E.iret rfl ⟨by rw [g_cellAt, if_neg (by decide), decide_eq_true ⟨rfl, e2⟩]; rfl, rfl⟩
    · skip
      refine m_E.ict (by rw [m_neI (by omega) (by omega)]; exact decide_eq_true e2) rfl ?_
      refine m_E.run 3 (pc1 := 60) (ls1 := [some _, some _, some _, some _, some _, some _]) (st1 := [_]) rfl ?_
      refine m_E.ift (by decide) rfl ?_
      refine m_E.run 5 (pc1 := 82) (ls1 := [some _, some _, some _, some _, some _, some _]) (st1 := [_]) rfl ?_
      dsimp only
      rw [pk_mul, nI_add]
      exact m_E.iret rfl ⟨by rw [g_cellAt, if_neg (by decide), decide_eq_false (fun z => e2 z.2)]; rfl, rfl⟩
theorem e_atHome {d : Nat} {n p j s w : Nat} {F : Nat → c_Sh} {S : c_St} {x : Int32} {M : c_M} {h : m_Hp} (H : Hmo h M) (E : Enc F S (d_state M)) (t : Tok n p S) (G : Gsh n F) (hj : c_piled S = j + 1) (hs : (c_pile S).getD j none = some s) (hx : x = nI w) (hw : w < 4) : m_Call m_P (d + 3) 164 [.ref 61, .int x] (h) (some (.int (nI (g_hm (g_sh F s) w)))) (h) := by
  refine m_call_of (tab := tX6_atHome) (nL := 4) rfl rfl ?_
  subst hx
  have lp := t.1.2.2.2.2.2.2.2.2.2.2.2.1
  obtain ⟨i0, hi0, e0⟩ := t.2.2.1.2.1 j (by omega)
  have g := G.at (k := s) ⟨i0, hi0, by rw [hs] at e0; exact Option.some.inj e0⟩
  refine m_E.run 4 (pc1 := 4) (ls1 := [some _, some _, some _, some _]) (st1 := []) rfl ?_
  refine m_E.up (fun i => (4, [some (.ref 61), some (.int (nI w)), some (.int (nI (g_cnt (fun q => (g_sh F s).1.getD (g_cellAt w q) 0 == q) i))), some (.int (nI i))], [], h)) 24 (fun i => True) (fun i hi hI K => ?_) ?_ (fun hI => ?_)
  · skip
    show m_E _ _ 4 [some (.ref 61), some (.int (nI w)), some (.int (nI (g_cnt (fun q => (g_sh F s).1.getD (g_cellAt w q) 0 == q) i))), some (.int (nI i))] [] (h) _
    have lc := g_cellAt_lt w hw i hi
    have lv : (g_sh F s).1.getD (g_cellAt w i) 0 < 24 := g_getD_lt g.1.2.1 (by rw [g.2.1]; exact lc)
    refine m_E.run 2 (pc1 := 7) (ls1 := [some _, some _, some _, some _]) (st1 := [_, _]) rfl ?_
    refine m_E.icf ((m_leI (by omega) (by omega)).trans (decide_eq_false (by omega))) rfl ?_
    refine m_E.run 2 (pc1 := 12) (ls1 := [some _, some _, some _, some _]) (st1 := [_, _]) rfl ?_
    refine m_E.gf H.o (by decide) rfl rfl ?_
    refine m_E.run 1 (pc1 := 16) (ls1 := [some _, some _, some _, some _]) (st1 := [_, _, _]) rfl ?_
    refine m_E.ov H.o (by decide) rfl rfl rfl (e_top H E.len (E.pil.trans (by rw [hj]))) ?_
    refine m_E.run 2 (pc1 := 21) (ls1 := [some _, some _, some _, some _]) (st1 := [_, _, _, _, _]) rfl ?_
    refine m_E.cv rfl rfl (e_cellAt rfl rfl hw hi) ?_
    refine m_E.run 1 (pc1 := 25) (ls1 := [some _, some _, some _, some _]) (st1 := [_, _, _]) rfl ?_
    dsimp only
    refine m_E.rs H E.len (nI_add _ _) (by omega) ((E.pile (show j < c_piled S by omega) hs lc).1) rfl ?_
    refine m_E.run 1 (pc1 := 27) (ls1 := [some _, some _, some _, some _]) (st1 := [_, _, _]) rfl ?_
    by_cases e1 : (g_sh F s).1.getD (g_cellAt w i) 0 = i
    · skip
      refine m_E.icf (by rw [e1, m_neI (by omega) (by omega)]; simp) rfl ?_
      refine m_E.run 6 (pc1 := 4) (ls1 := [some _, some _, some _, some _]) (st1 := []) rfl ?_
      dsimp only
      rw [g_c1 (p := fun q => (g_sh F s).1.getD (g_cellAt w q) 0 == q) (m_beqE e1), nI_add]
      exact K trivial
    · skip
      refine m_E.ict (by rw [m_neI (by omega) (by omega)]; exact decide_eq_true e1) rfl ?_
      refine m_E.run 5 (pc1 := 4) (ls1 := [some _, some _, some _, some _]) (st1 := []) rfl ?_
      dsimp only
      rw [g_c0 (p := fun q => (g_sh F s).1.getD (g_cellAt w q) 0 == q) (m_beqN e1), nI_add]
      exact K trivial
  · skip
    trivial
  · skip
    show m_E _ _ 4 ((fun i => [some (.ref 61), some (.int (nI w)), some (.int (nI (g_cnt (fun q => (g_sh F s).1.getD (g_cellAt w q) 0 == q) i))), some (.int (nI i))]) (24)) [] ((fun i => h) (24)) _
    dsimp only
    refine m_E.run 2 (pc1 := 7) (ls1 := [some _, some _, some _, some _]) (st1 := [_, _]) rfl ?_
    refine m_E.ict (by decide) rfl ?_
    refine m_E.run 1 (pc1 := 44) (ls1 := [some _, some _, some _, some _]) (st1 := [_]) rfl ?_
    exact m_E.iret rfl ⟨rfl, rfl⟩
theorem g_wf_val (f : Nat → Nat) : ∀ n, (g_wf f n).2 = f (g_wf f n).1
  | 0 => rfl
  | n + 1 => by
    rw [g_wf]
    split
    · rfl
    · exact g_wf_val f n
theorem e_bestWay {d : Nat} {n p : Nat} {F : Nat → c_Sh} {S : c_St} {M : c_M} {h : m_Hp} (H : Hmo h M) (E : Enc F S (d_state M)) (t : Tok n p S) (G : Gsh n F) : m_Call m_P (d + 4) 165 [.ref 61] (h) (some (.int (r_best F S))) (h) := by
  refine m_call_of (tab := tX6_bestWay) (nL := 3) rfl rfl ?_
  have lp := t.1.2.2.2.2.2.2.2.2.2.2.2.1
  refine m_E.run 1 (pc1 := 1) (ls1 := [some _, none, none]) (st1 := [_]) rfl ?_
  refine m_E.gf H.o (by decide) rfl rfl ?_
  refine m_E.run 1 (pc1 := 5) (ls1 := [some _, none, none]) (st1 := [_, _]) rfl ?_
  refine m_E.rs H E.len rfl (by omega) (E.pil) rfl ?_
  by_cases e0 : c_piled S = 0
  · skip
    have er : r_best F S = -4 := by rw [r_best]; split; rfl; rw [if_pos e0]
    rw [er]
    refine m_E.iff (by rw [e0]; rfl) rfl ?_
    refine m_E.run 1 (pc1 := 11) (ls1 := [some _, none, none]) (st1 := [_]) rfl ?_
    exact m_E.iret rfl ⟨rfl, rfl⟩
  · skip
    refine m_E.ift (by rw [m_beq0 (by omega), decide_eq_false e0]; rfl) rfl ?_
    obtain ⟨j, hj⟩ : ∃ j, c_piled S = j + 1 := ⟨c_piled S - 1, by omega⟩
    obtain ⟨i, hi, et⟩ := t.2.2.1.2.1 j (by omega)
    have er : r_best F S = nI (g_wf (g_hm (g_sh F (69 + 4 * i))) 3).1 := by rw [r_best, c_top, show c_piled S - 1 = j by omega, et]; dsimp only; rw [if_neg e0]
    rw [er]
    have fl : ∀ k, g_hm (g_sh F (69 + 4 * i)) k < 25 := fun k => Nat.lt_succ_of_le (g_cnt_le _ 24)
    refine m_E.run 4 (pc1 := 16) (ls1 := [some _, some _, some _]) (st1 := []) rfl ?_
    refine m_E.up (fun k => (16, [some (.ref 61), some (.int (nI (g_wf (g_hm (g_sh F (69 + 4 * i))) k).1)), some (.int (nI (k + 1)))], [], h)) 3 (fun k => True) (fun k hi hI K => ?_) ?_ (fun hI => ?_)
    · skip
      show m_E _ _ 16 [some (.ref 61), some (.int (nI (g_wf (g_hm (g_sh F (69 + 4 * i))) k).1)), some (.int (nI (k + 1)))] [] (h) _
      have hk : k < 3 := by assumption
      obtain ⟨lw1, lw2⟩ := g_wf_lt fl k
      have lf := fl (k + 1)
      have ev := g_wf_val (g_hm (g_sh F (69 + 4 * i))) k
      have lf2 := fl (g_wf (g_hm (g_sh F (69 + 4 * i))) k).1
      refine m_E.run 2 (pc1 := 18) (ls1 := [some _, some _, some _]) (st1 := [_, _]) rfl ?_
      refine m_E.icf ((m_leI (by omega) (by omega)).trans (decide_eq_false (by omega))) rfl ?_
      refine m_E.run 2 (pc1 := 23) (ls1 := [some _, some _, some _]) (st1 := [_, _]) rfl ?_
      refine m_E.ov H.o (by decide) rfl rfl rfl (e_atHome H E t G hj et rfl (show k + 1 < 4 by omega)) ?_
      refine m_E.run 2 (pc1 := 28) (ls1 := [some _, some _, some _]) (st1 := [_, _, _]) rfl ?_
      refine m_E.ov H.o (by decide) rfl rfl rfl (e_atHome H E t G hj et rfl (show (g_wf (g_hm (g_sh F (69 + 4 * i))) k).1 < 4 by omega)) ?_
      by_cases e : g_hm (g_sh F (69 + 4 * i)) (k + 1) < (g_wf (g_hm (g_sh F (69 + 4 * i))) k).2
      · skip
        refine m_E.icf ((m_leI (by omega) (by omega)).trans (decide_eq_false (by omega))) rfl ?_
        refine m_E.run 5 (pc1 := 16) (ls1 := [some _, some _, some _]) (st1 := []) rfl ?_
        rw [nI_add, show nI (k + 1) = nI (g_wf (g_hm (g_sh F (69 + 4 * i))) (k + 1)).1 from by rw [g_wf, if_pos e]]
        exact K trivial
      · skip
        refine m_E.ict ((m_leI (by omega) (by omega)).trans (decide_eq_true (by omega))) rfl ?_
        refine m_E.run 4 (pc1 := 16) (ls1 := [some _, some _, some _]) (st1 := []) rfl ?_
        rw [nI_add, show nI (g_wf (g_hm (g_sh F (69 + 4 * i))) k).1 = nI (g_wf (g_hm (g_sh F (69 + 4 * i))) (k + 1)).1 from by rw [g_wf, if_neg e]]
        exact K trivial
    · skip
      trivial
    · skip
      show m_E _ _ 16 ((fun k => [some (.ref 61), some (.int (nI (g_wf (g_hm (g_sh F (69 + 4 * i))) k).1)), some (.int (nI (k + 1)))]) (3)) [] ((fun k => h) (3)) _
      dsimp only
      refine m_E.run 2 (pc1 := 18) (ls1 := [some _, some _, some _]) (st1 := [_, _]) rfl ?_
      refine m_E.ict (by decide) rfl ?_
      refine m_E.run 1 (pc1 := 47) (ls1 := [some _, some _, some _]) (st1 := [_]) rfl ?_
      exact m_E.iret rfl ⟨rfl, rfl⟩
theorem e_chances {d : Nat} {n p : Nat} {F : Nat → c_Sh} {S : c_St} {M : c_M} {h : m_Hp} (hn : g_num) (H : Hmo h M) (E : Enc F S (d_state M)) (t : Tok n p S) (G : Gsh n F) : m_Call m_P (d + 2) 159 [.ref 61] (h) (some (.float (r_chances F S))) (h) := by
  refine m_call_of (tab := tX6_chances) (nL := 3) rfl rfl ?_
  refine m_E.run 1 (pc1 := 1) (ls1 := [some _, none, none]) (st1 := [_]) rfl ?_
  refine m_E.gf H.o (by decide) rfl rfl ?_
  refine m_E.run 1 (pc1 := 6) (ls1 := [some _, none, none]) (st1 := [_, _]) rfl ?_
  refine m_E.rs H E.len rfl (by omega) (E.has) rfl ?_
  rcases ef : c_fr S with _ | s
  · skip
    rw [r_chances, ef]
    refine m_E.iff (rfl) rfl ?_
    refine m_E.run 1 (pc1 := 12) (ls1 := [some _, none, none]) (st1 := [_]) rfl ?_
    exact m_E.ret rfl rfl ⟨rfl, rfl⟩
  · skip
    have hf : c_fr S ≠ none := by rw [ef]; intro z; cases z
    have el : c_lf S = 24 - c_dealt S := by rw [c_lf, ef]; rfl
    have ll : c_lf S ≤ 24 := g_left_le _ _
    have er : r_chances F S = g_sum (q_can F S) (c_lf S) := by rw [r_chances, ef]; dsimp only; rw [el, ← c_shf_some (F := F) ef]; rfl
    rw [er]
    refine m_E.ift (rfl) rfl ?_
    refine m_E.run 4 (pc1 := 17) (ls1 := [some _, some _, some _]) (st1 := []) rfl ?_
    refine m_E.up (fun i => (17, [some (.ref 61), some (.float (g_sum (q_can F S) i)), some (.int (nI i))], [], h)) (c_lf S) (fun i => True) (fun i hi hI K => ?_) ?_ (fun hI => ?_)
    · skip
      show m_E _ _ 17 [some (.ref 61), some (.float (g_sum (q_can F S) i)), some (.int (nI i))] [] (h) _
      have lq : ∀ j, q_can F S j ≤ 24 := fun j => Nat.le_trans (g_cnt_le _ _) (Nat.sub_le _ _)
      have lq1 : ∀ j, j < c_lf S → 1 ≤ q_can F S j := fun j hj => g_can_pos (by omega)
      refine m_E.run 2 (pc1 := 19) (ls1 := [some _, some _, some _]) (st1 := [_, _]) rfl ?_
      refine m_E.gf H.o (by decide) rfl rfl ?_
      refine m_E.run 1 (pc1 := 24) (ls1 := [some _, some _, some _]) (st1 := [_, _, _]) rfl ?_
      refine m_E.rs H E.len rfl (by omega) (E.lf) rfl ?_
      refine m_E.icf ((m_leI (by omega) (by omega)).trans (decide_eq_false (by omega))) rfl ?_
      refine m_E.run 5 (pc1 := 33) (ls1 := [some _, some _, some _]) (st1 := [_, _, _, _, _]) rfl ?_
      refine m_E.ov H.o (by decide) rfl rfl rfl (e_marksAt H E t rfl hi) ?_
      refine m_E.ov H.o (by decide) rfl rfl rfl (e_alike H E t G hf rfl (q_mk_lt t G hi)) ?_
      rw [q_al_can t hf]
      refine m_E.run 1 (pc1 := 40) (ls1 := [some _, some _, some _]) (st1 := [_, _, _]) rfl ?_
      refine m_E.fbin (hn.1 _ (lq1 i hi) (lq i)) rfl ?_
      refine m_E.fbin (hn.2 (q_can F S) (i + 1) (fun j hj => ⟨lq1 j (by omega), lq j⟩)) rfl ?_
      refine m_E.run 3 (pc1 := 17) (ls1 := [some _, some _, some _]) (st1 := []) rfl ?_
      rw [nI_add]
      exact K trivial
    · skip
      trivial
    · skip
      show m_E _ _ 17 ((fun i => [some (.ref 61), some (.float (g_sum (q_can F S) i)), some (.int (nI i))]) ((c_lf S))) [] ((fun i => h) ((c_lf S))) _
      dsimp only
      refine m_E.run 2 (pc1 := 19) (ls1 := [some _, some _, some _]) (st1 := [_, _]) rfl ?_
      refine m_E.gf H.o (by decide) rfl rfl ?_
      refine m_E.run 1 (pc1 := 24) (ls1 := [some _, some _, some _]) (st1 := [_, _, _]) rfl ?_
      refine m_E.rs H E.len rfl (by omega) (E.lf) rfl ?_
      refine m_E.ict ((m_leI (by omega) (by omega)).trans (decide_eq_true (Nat.le_refl _))) rfl ?_
      refine m_E.run 1 (pc1 := 50) (ls1 := [some _, some _, some _]) (st1 := [_]) rfl ?_
      exact m_E.ret rfl rfl ⟨rfl, rfl⟩
