/-! how many are alike, what is known, what leans, why -/
theorem y_bit {D i : Nat} (hD : D < 2 ^ 24) (hi : i < 24) : (nI D >>> (nI i &&& 31)) &&& nI 1 = m_bI (D.testBit i) := by
  rw [pk_shrN (by omega) _ i (y_smod i (by omega)), pk_andN (Nat.lt_of_le_of_lt (Nat.div_le_self _ _) (by omega)) 1 (by decide)]
  rw [Nat.testBit_eq_decide_div_mod_eq]
  have l := Nat.mod_lt (D / 2 ^ i) (show 0 < 2 by decide)
  by_cases q : D / 2 ^ i % 2 = 1
  · rw [show (2 : Nat) ^ 1 = 2 from rfl, q, decide_eq_true rfl]; rfl
  · rw [show (2 : Nat) ^ 1 = 2 from rfl, show D / 2 ^ i % 2 = 0 by omega]; rfl
def y_lo (low i : Nat) : Int32 := if i ≤ low then -1 else nI low
theorem m_bI_and (b : Bool) : (!(m_bI b == 0)) = b := by cases b <;> decide
theorem y_alike {d : Nat} {n : List Nat} {p m low : Nat} {F : Nat → c_Sh} {S : c_St} {x : Int32} {R : y_R} {h : m_Hp} (H : Hrw h R) (ok : Okr R) (Y : Ryk F S R) (t : Tok n p S) (G : Gsh n F) (hf : c_fr S ≠ none) (hx : x = nI m) (hm : m < 16) (h1 : low < 24) (h2 : q_q F S m low = true) (h3 : ∀ c, c < low → q_q F S m c = false) : m_Call m_P (d + 1) 83 [.int x, .ref 61, .ref 67] (h) (some (.int (nI (q_al F S m + 100 * low)))) (h) := by
  refine m_call_of (tab := tL_alike) (nL := 7) rfl rfl ?_
  subst hx
  obtain ⟨y1, _, D, y3, y4, y5⟩ := Y.2 hf
  refine m_E.run 6 (pc1 := 8) (ls1 := [some _, some _, some _, some _, some _, some _, none]) (st1 := []) rfl ?_
  refine m_E.lp (fun i ls hh => ∃ v, ls = [some (.int (nI m)), some (.ref 61), some (.ref 67), some (.int (nI (g_cnt (q_q F S m) i))), some (.int (y_lo low i)), some (.int (nI i)), v] ∧ (hh = h)) 24 ?_ ?_ ?_
  · skip
    rintro i _ hh hi ⟨v, rfl, hI⟩ K
    subst hI
    have hi : i < 24 := by assumption
    have lm := q_mc_lt t G hf hi
    have tail : ∀ b, q_q F S m i = b → m_E (m_Call m_P d) tL_alike 40 [some (.int (nI m)), some (.ref 61), some (.ref 67), some (.int (nI (g_cnt (q_q F S m) i))), some (.int (y_lo low i)), some (.int (nI i)), v] [.int (m_bI b)] hh (fun r2 h2 => r2 = some (.int (nI (q_al F S m + 100 * low))) ∧ h2 = hh) := by
      intro b hb
      cases b
      · skip
        refine m_E.run 3 (pc1 := 45) (ls1 := [some _, some _, some _, some _, some _, some _, some _]) (st1 := [_, _]) rfl ?_
        refine m_E.ift (rfl) rfl ?_
        refine m_E.run 4 (pc1 := 57) (ls1 := [some _, some _, some _, some _, some _, some _, some _]) (st1 := [_]) rfl ?_
        dsimp only
        refine m_E.ift (rfl) rfl ?_
        refine m_E.run 4 (pc1 := 8) (ls1 := [some _, some _, some _, some _, some _, some _, some _]) (st1 := []) rfl ?_
        rw [g_c0 hb, nI_add, show y_lo low i = y_lo low (i + 1) from by rw [y_lo, y_lo]; by_cases z : i ≤ low; rw [if_pos z, if_pos (by by_cases z2 : i = low; rw [z2, h2] at hb; cases hb; omega)]; rw [if_neg z, if_neg (by omega)]]
        exact K _ _ ⟨_, rfl, rfl⟩
      · skip
        have li : low ≤ i := by by_cases z : low ≤ i; exact z; rw [h3 i (by omega)] at hb; cases hb
        refine m_E.run 3 (pc1 := 45) (ls1 := [some _, some _, some _, some _, some _, some _, some _]) (st1 := [_, _]) rfl ?_
        refine m_E.iff (rfl) rfl ?_
        refine m_E.run 5 (pc1 := 57) (ls1 := [some _, some _, some _, some _, some _, some _, some _]) (st1 := [_]) rfl ?_
        dsimp only
        refine m_E.iff (rfl) rfl ?_
        refine m_E.run 1 (pc1 := 62) (ls1 := [some _, some _, some _, some _, some _, some _, some _]) (st1 := [_]) rfl ?_
        by_cases z : i = low
        · skip
          refine m_E.iff (by rw [y_lo, if_pos (by omega)]; decide) rfl ?_
          refine m_E.run 5 (pc1 := 8) (ls1 := [some _, some _, some _, some _, some _, some _, some _]) (st1 := []) rfl ?_
          rw [g_c1 hb, nI_add, show nI i = y_lo low (i + 1) from by rw [y_lo, if_neg (by omega), z]]
          exact K _ _ ⟨_, by rw [y_lo, if_neg (by omega), z], rfl⟩
        · skip
          refine m_E.ift (by rw [y_lo, if_neg (by omega)]; exact decide_eq_true (nI_pos' (by omega))) rfl ?_
          refine m_E.run 4 (pc1 := 8) (ls1 := [some _, some _, some _, some _, some _, some _, some _]) (st1 := []) rfl ?_
          rw [g_c1 hb, nI_add, show y_lo low i = y_lo low (i + 1) from by rw [y_lo, y_lo, if_neg (by omega), if_neg (by omega)]]
          exact K _ _ ⟨_, rfl, rfl⟩
    refine m_E.run 2 (pc1 := 12) (ls1 := [some _, some _, some _, some _, some _, some _, _]) (st1 := [_, _]) rfl ?_
    refine m_E.icf ((m_leI (by omega) (by omega)).trans (decide_eq_false (by omega))) rfl ?_
    refine m_E.run 2 (pc1 := 18) (ls1 := [some _, some _, some _, some _, some _, some _, _]) (st1 := [_, _]) rfl ?_
    refine m_E.yr H.1 ok.1 rfl (by omega) (by decide) (y4) rfl ?_
    refine m_E.run 4 (pc1 := 24) (ls1 := [some _, some _, some _, some _, some _, some _, _]) (st1 := [_]) rfl ?_
    dsimp only
    rw [y_bit y3 hi]
    cases ed : D.testBit i
    · skip
      refine m_E.iff (rfl) rfl ?_
      refine m_E.run 2 (pc1 := 30) (ls1 := [some _, some _, some _, some _, some _, some _, _]) (st1 := [_, _]) rfl ?_
      refine m_E.yr H.2.2.2.2.2.2.1 ok.2.2.2.2.2.2.1 rfl (by omega) (by decide) ((y1 i hi)) rfl ?_
      refine m_E.run 1 (pc1 := 32) (ls1 := [some _, some _, some _, some _, some _, some _, _]) (st1 := [_, _]) rfl ?_
      by_cases em : (c_shf F S).2.1.getD i 0 = m
      · skip
        refine m_E.icf (by rw [em, m_neI (by omega) (by omega)]; simp) rfl ?_
        refine m_E.run 2 (pc1 := 40) (ls1 := [some _, some _, some _, some _, some _, some _, _]) (st1 := [_]) rfl ?_
        exact tail true (by rw [q_q, ← y5 i hi, ed, m_beqE em]; rfl)
      · skip
        refine m_E.ict ((m_neI (by omega) (by omega)).trans (decide_eq_true em)) rfl ?_
        refine m_E.run 1 (pc1 := 40) (ls1 := [some _, some _, some _, some _, some _, some _, _]) (st1 := [_]) rfl ?_
        exact tail false (by rw [q_q, m_beqN em, Bool.and_false])
    · skip
      refine m_E.ift (rfl) rfl ?_
      refine m_E.run 1 (pc1 := 40) (ls1 := [some _, some _, some _, some _, some _, some _, _]) (st1 := [_]) rfl ?_
      exact tail false (by rw [q_q, ← y5 i hi, ed]; rfl)
  · skip
    exact ⟨none, by rw [y_lo, if_pos (Nat.zero_le _)]; rfl, rfl⟩
  · skip
    rintro _ hh ⟨v, rfl, hI⟩
    subst hI
    refine m_E.run 2 (pc1 := 12) (ls1 := [some _, some _, some _, some _, some _, some _, _]) (st1 := [_, _]) rfl ?_
    refine m_E.ict (by decide) rfl ?_
    refine m_E.run 5 (pc1 := 87) (ls1 := [some _, some _, some _, some _, some _, some _, _]) (st1 := [_]) rfl ?_
    dsimp only
    rw [y_lo, if_neg (by omega), pk_mul, nI_add]
    exact m_E.iret rfl ⟨rfl, rfl⟩
theorem y_known {d : Nat} {n : List Nat} {p : Nat} {F : Nat → c_Sh} {S : c_St} {R : y_R} {h : m_Hp} (H : Hrw h R) (Y : Ry F S R) (t : Tok n p S) (G : Gsh n F) : m_Call m_P (d + 2) 84 [.ref 61, .ref 66, .ref 67] (h) (some (.int (nI (g_cnt (q_k1 F S) (c_lf S))))) (h) := by
  refine m_call_of (tab := tL_known) (nL := 5) rfl rfl ?_
  have ok := Y.1
  have yq := Y.2.1
  have yk := Y.2.2.2.2
  have ll : c_lf S ≤ 24 := g_left_le _ _
  refine m_E.run 4 (pc1 := 5) (ls1 := [some _, some _, some _, some _, some _]) (st1 := []) rfl ?_
  refine m_E.up (fun i => (5, [some (.ref 61), some (.ref 66), some (.ref 67), some (.int (nI (g_cnt (q_k1 F S) i))), some (.int (nI i))], [], h)) (c_lf S) (fun i => True) (fun i hi hI K => ?_) ?_ (fun hI => ?_)
  · skip
    show m_E _ _ 5 [some (.ref 61), some (.ref 66), some (.ref 67), some (.int (nI (g_cnt (q_k1 F S) i))), some (.int (nI i))] [] (h) _
    obtain ⟨hf, h2⟩ := lf_lt t hi
    have lo := t.ord _ h2
    obtain ⟨g1, g2, g3⟩ := q_gs_ok (F := F) t hf h2
    refine m_E.run 3 (pc1 := 10) (ls1 := [some _, some _, some _, some _, some _]) (st1 := [_, _, _]) rfl ?_
    refine m_E.yr H.1 ok.1 rfl (by omega) (by decide) (yq.2.2.2.2.1) rfl ?_
    refine m_E.icf ((m_leI (by omega) (by omega)).trans (decide_eq_false (by omega))) rfl ?_
    refine m_E.run 4 (pc1 := 19) (ls1 := [some _, some _, some _, some _, some _]) (st1 := [_, _, _, _]) rfl ?_
    refine m_E.yr H.2.2.2.2.2.1 ok.2.2.2.2.2.1 rfl (by omega) (by decide) ((yk.1 i hi)) rfl ?_
    refine m_E.yr H.2.2.2.2.2.2.1 ok.2.2.2.2.2.2.1 rfl (by omega) (by decide) (((yk.2 hf).1 _ lo)) rfl ?_
    refine m_E.run 2 (pc1 := 23) (ls1 := [some _, some _, some _, some _, some _]) (st1 := [_, _, _, _]) rfl ?_
    refine m_E.cv rfl rfl (y_alike (m := q_mk F S i) H ok yk t G hf rfl (q_mk_lt t G hi) g1 g2 g3) ?_
    rw [q_al_can t hf]
    have lq : q_can F S i ≤ 24 := Nat.le_trans (g_cnt_le _ _) (Nat.sub_le _ _)
    refine m_E.run 1 (pc1 := 28) (ls1 := [some _, some _, some _, some _, some _]) (st1 := [_, _, _]) rfl ?_
    refine m_E.div (by decide) rfl ?_
    rw [m_rem (by omega) 100 (by decide) (by decide), show (q_can F S i + 100 * q_gs F S i) % 100 = q_can F S i by omega]
    refine m_E.run 1 (pc1 := 30) (ls1 := [some _, some _, some _, some _, some _]) (st1 := [_, _, _]) rfl ?_
    by_cases e1 : q_can F S i = 1
    · skip
      refine m_E.icf (by rw [e1]; rfl) rfl ?_
      refine m_E.run 6 (pc1 := 5) (ls1 := [some _, some _, some _, some _, some _]) (st1 := []) rfl ?_
      dsimp only
      rw [g_c1 (p := q_k1 F S) (m_beqE e1), nI_add]
      exact K trivial
    · skip
      refine m_E.ict ((m_neI (by omega) (by omega)).trans (decide_eq_true e1)) rfl ?_
      refine m_E.run 5 (pc1 := 5) (ls1 := [some _, some _, some _, some _, some _]) (st1 := []) rfl ?_
      dsimp only
      rw [g_c0 (p := q_k1 F S) (m_beqN e1), nI_add]
      exact K trivial
  · skip
    trivial
  · skip
    show m_E _ _ 5 ((fun i => [some (.ref 61), some (.ref 66), some (.ref 67), some (.int (nI (g_cnt (q_k1 F S) i))), some (.int (nI i))]) ((c_lf S))) [] ((fun i => h) ((c_lf S))) _
    dsimp only
    refine m_E.run 3 (pc1 := 10) (ls1 := [some _, some _, some _, some _, some _]) (st1 := [_, _, _]) rfl ?_
    refine m_E.yr H.1 ok.1 rfl (by omega) (by decide) (yq.2.2.2.2.1) rfl ?_
    refine m_E.ict ((m_leI (by omega) (by omega)).trans (decide_eq_true (Nat.le_refl _))) rfl ?_
    refine m_E.run 1 (pc1 := 47) (ls1 := [some _, some _, some _, some _, some _]) (st1 := [_]) rfl ?_
    exact m_E.iret rfl ⟨rfl, rfl⟩
/-- the first card behind the courts that are done -/
def y_cq (i : Nat) : Nat := 6 * (i / 3) + (if i % 3 = 0 then 0 else 3 + i % 3)
theorem y_bz {xs : List Int32} {lim c : Nat} (hm : lim < 100) (h : xs.getD c 0 = 0) : g_beyond xs (nI lim) (c + 1) = g_beyond xs (nI lim) c := by
  rw [g_beyond, h, if_neg (by rw [show g_abs 0 = nI 0 from by decide, m_ge (by omega) (by omega)]; omega), Nat.add_zero]
theorem y_bs {xs : List Int32} {lim i : Nat} (hk : Lnk xs) (hm : lim < 100) (hi : i < 12) : g_beyond xs (nI lim) (y_cq (i + 1)) = g_beyond xs (nI lim) (y_cc i + 1) ∧ g_beyond xs (nI lim) (y_cc i) = g_beyond xs (nI lim) (y_cq i) := by
  have z : i % 3 = 0 ∨ i % 3 = 1 ∨ i % 3 = 2 := by omega
  rcases z with z | z | z
  · have e1 : y_cq (i + 1) = y_cc i + 1 := by rw [y_cq, if_neg (by omega), y_cc]; omega
    have e2 : y_cc i = y_cq i + 1 + 1 + 1 := by rw [y_cq, if_pos z, y_cc]; omega
    have e3 : y_cq i = 6 * (i / 3) := by rw [y_cq, if_pos z, Nat.add_zero]
    refine ⟨by rw [e1], ?_⟩
    rw [e2, y_bz hm (hk.2.2 _ (by omega) (by omega)), y_bz hm (hk.2.2 _ (by omega) (by omega)), y_bz hm (hk.2.2 _ (by omega) (by omega))]
  · have e1 : y_cq (i + 1) = y_cc i + 1 := by rw [y_cq, if_neg (by omega), y_cc]; omega
    have e2 : y_cc i = y_cq i := by rw [y_cq, if_neg (by omega), y_cc]; omega
    exact ⟨by rw [e1], by rw [e2]⟩
  · have e1 : y_cq (i + 1) = y_cc i + 1 := by rw [y_cq, if_pos (by omega), y_cc]; omega
    have e2 : y_cc i = y_cq i := by rw [y_cq, if_neg (by omega), y_cc]; omega
    exact ⟨by rw [e1], by rw [e2]⟩
theorem y_ab : ∀ v, v < 19 → ∀ lim, lim < 100 → decide (nI lim < g_abs (nI v - nI 9)) = (decide (nI lim < nI v - nI 9) || !decide (-(nI v - nI 9) ≤ nI lim)) := by decide +kernel
theorem y_leaning {d : Nat} {a lim : Nat} {x : Int32} {xs ls : List Int32} {h : m_Hp} (hh : h[a]? = some (.inl (0, ls))) (hl : ls.length = 12) (hv : ∀ j, j < 12 → ls.getD j 0 = xs.getD (y_cc j) 0) (hk : Lnk xs) (hx : x = nI lim) (hm : lim < 100) : m_Call m_P (d + 1) 85 [.int x, .ref a] (h) (some (.int (nI (g_beyond xs (nI lim) 24)))) (h) := by
  refine m_call_of (tab := tL_leaning) (nL := 4) rfl rfl ?_
  subst hx
  refine m_E.run 4 (pc1 := 4) (ls1 := [some _, some _, some _, some _]) (st1 := []) rfl ?_
  refine m_E.up (fun i => (4, [some (.int (nI lim)), some (.ref a), some (.int (nI (g_beyond xs (nI lim) (y_cq i)))), some (.int (nI i))], [], h)) 12 (fun i => True) (fun i hi hI K => ?_) ?_ (fun hI => ?_)
  · skip
    show m_E _ _ 4 [some (.int (nI lim)), some (.ref a), some (.int (nI (g_beyond xs (nI lim) (y_cq i)))), some (.int (nI i))] [] (h) _
    obtain ⟨b1, b2⟩ := y_bs hk hm hi
    obtain ⟨c1, c2, c3⟩ := y_cc_ok hi
    obtain ⟨v, v1, v2⟩ := hk.2.1 (y_cc i) c1
    have ab := y_ab v v1 lim hm
    have yes : (decide (nI lim < nI v - nI 9) || !decide (-(nI v - nI 9) ≤ nI lim)) = true → nI (g_beyond xs (nI lim) (y_cq i)) + nI 1 = nI (g_beyond xs (nI lim) (y_cq (i + 1))) := fun z => by
      rw [b1, g_beyond, v2, if_pos (of_decide_eq_true (ab.trans z)), b2, nI_add]
    have no : (decide (nI lim < nI v - nI 9) || !decide (-(nI v - nI 9) ≤ nI lim)) = false → nI (g_beyond xs (nI lim) (y_cq i)) + nI 0 = nI (g_beyond xs (nI lim) (y_cq (i + 1))) := fun z => by
      rw [b1, g_beyond, v2, if_neg (of_decide_eq_false (ab.trans z)), b2, nI_add]
    refine m_E.run 2 (pc1 := 7) (ls1 := [some _, some _, some _, some _]) (st1 := [_, _]) rfl ?_
    refine m_E.icf ((m_leI (by omega) (by omega)).trans (decide_eq_false (by omega))) rfl ?_
    refine m_E.run 3 (pc1 := 13) (ls1 := [some _, some _, some _, some _]) (st1 := [_, _, _]) rfl ?_
    refine m_E.yr hh hl (j := i) rfl (by omega) (by decide) ((hv i hi).trans v2) rfl ?_
    refine m_E.run 1 (pc1 := 15) (ls1 := [some _, some _, some _, some _]) (st1 := [_, _, _]) rfl ?_
    refine m_E.ic2 rfl (fun q1 => ?_) (fun q1 => ?_)
    · skip
      refine m_E.run 6 (pc1 := 4) (ls1 := [some _, some _, some _, some _]) (st1 := []) rfl ?_
      dsimp only
      rw [yes (by rw [q1]; rfl), nI_add]
      exact K trivial
    · skip
      refine m_E.run 2 (pc1 := 20) (ls1 := [some _, some _, some _, some _]) (st1 := [_, _, _]) rfl ?_
      refine m_E.yr hh hl (j := i) rfl (by omega) (by decide) ((hv i hi).trans v2) rfl ?_
      refine m_E.run 2 (pc1 := 23) (ls1 := [some _, some _, some _, some _]) (st1 := [_, _, _]) rfl ?_
      dsimp only
      refine m_E.ic2 rfl (fun q2 => ?_) (fun q2 => ?_)
      · skip
        refine m_E.run 5 (pc1 := 4) (ls1 := [some _, some _, some _, some _]) (st1 := []) rfl ?_
        dsimp only
        rw [no (by rw [q1, q2]; rfl), nI_add]
        exact K trivial
      · skip
        refine m_E.run 6 (pc1 := 4) (ls1 := [some _, some _, some _, some _]) (st1 := []) rfl ?_
        dsimp only
        rw [yes (by rw [q1, q2]; rfl), nI_add]
        exact K trivial
  · skip
    trivial
  · skip
    show m_E _ _ 4 ((fun i => [some (.int (nI lim)), some (.ref a), some (.int (nI (g_beyond xs (nI lim) (y_cq i)))), some (.int (nI i))]) (12)) [] ((fun i => h) (12)) _
    dsimp only
    refine m_E.run 2 (pc1 := 7) (ls1 := [some _, some _, some _, some _]) (st1 := [_, _]) rfl ?_
    refine m_E.ict (by decide) rfl ?_
    refine m_E.run 1 (pc1 := 40) (ls1 := [some _, some _, some _, some _]) (st1 := [_]) rfl ?_
    exact m_E.iret rfl ⟨rfl, rfl⟩
theorem g_reason_eq {F : Nat → c_Sh} {S : c_St} {s : Nat} (hf : c_fr S = some s) : g_reason S (g_sh F s) = if c_lf S < 24 then 1 else if 0 < g_beyond (c_shf F S).2.2 (nI ((c_settings S).getD 1 0)) 24 then 2 else if (c_settings S).getD 2 0 < g_cnt (q_k1 F S) (c_lf S) then 3 else 0 := by
  have e : g_known S (g_sh F s) = g_cnt (q_k1 F S) (c_lf S) := by rw [← c_shf_some (F := F) hf]; rfl
  have e2 : c_lf S = 24 - c_dealt S := by rw [c_lf, hf]; rfl
  rw [g_reason, e, c_shf_some hf, e2]
  by_cases z : 0 < c_dealt S
  · rw [if_pos z, if_pos (by omega)]
  · rw [if_neg z, if_neg (show ¬ 24 - c_dealt S < 24 by omega)]
theorem Tok.set_lt {n : List Nat} {p k : Nat} {S : c_St} (t : Tok n p S) (hk : k < 4) : (c_settings S).getD k 0 < 100 := g_getD_lt t.1.2.2.2.2.2.2.1 (by rw [t.1.2.2.2.2.2.1]; exact hk)
theorem y_why {d : Nat} {n : List Nat} {p : Nat} {F : Nat → c_Sh} {S : c_St} {R : y_R} {h : m_Hp} (H : Hrw h R) (Y : Ry F S R) (t : Tok n p S) (G : Gsh n F) (L : Gln n F) : m_Call m_P (d + 3) 86 [.ref 61, .ref 66, .ref 67, .ref 68] (h) (some (.int (r_why F S))) (h) := by
  refine m_call_of (tab := tL_why) (nL := 4) rfl rfl ?_
  have ok := Y.1
  have yq := Y.2.1
  have yk := Y.2.2.2.2
  have ll : c_lf S ≤ 24 := g_left_le _ _
  have lk := g_cnt_le (q_k1 F S) (c_lf S)
  have lb := g_beyond_le (c_shf F S).2.2 (nI ((c_settings S).getD 1 0)) 24
  have ls2 := t.set_lt (k := 2) (by decide)
  refine m_E.run 2 (pc1 := 3) (ls1 := [some _, some _, some _, some _]) (st1 := [_, _]) rfl ?_
  refine m_E.yr H.1 ok.1 rfl (by omega) (by decide) (yq.2.2.2.1) rfl ?_
  by_cases ef : c_fr S = none
  · skip
    rw [if_pos ef]
    refine m_E.iff (rfl) rfl ?_
    refine m_E.run 2 (pc1 := 56) (ls1 := [some _, some _, some _, some _]) (st1 := [_]) rfl ?_
    rw [show r_why F S = -4 from by rw [r_why, ef]]
    exact m_E.iret rfl ⟨rfl, rfl⟩
  · skip
    rw [if_neg ef]
    obtain ⟨s, es⟩ : ∃ s, c_fr S = some s := by cases e : c_fr S with | none => exact absurd e ef | some s => exact ⟨s, rfl⟩
    have er : r_why F S = nI (g_reason S (g_sh F s)) := by rw [r_why, es]
    have lnk := L s (t.2.2.1.2.2 s es)
    rw [← c_shf_some es] at lnk
    rw [er, g_reason_eq es]
    refine m_E.ift (rfl) rfl ?_
    refine m_E.run 2 (pc1 := 15) (ls1 := [some _, some _, some _, some _]) (st1 := [_, _]) rfl ?_
    refine m_E.yr H.1 ok.1 rfl (by omega) (by decide) (yq.2.2.2.2.1) rfl ?_
    refine m_E.run 1 (pc1 := 18) (ls1 := [some _, some _, some _, some _]) (st1 := [_, _]) rfl ?_
    refine m_E.ic2 rfl (fun q1 => ?_) (fun q1 => ?_)
    · skip
      have z := of_decide_eq_true ((m_leI (by omega) (by omega)).symm.trans q1)
      rw [if_neg (show ¬ c_lf S < 24 by omega)]
      refine m_E.run 2 (pc1 := 27) (ls1 := [some _, some _, some _, some _]) (st1 := [_, _]) rfl ?_
      refine m_E.yr H.1 ok.1 rfl (by omega) (by decide) ((yq.1 1 (by decide))) rfl ?_
      refine m_E.run 1 (pc1 := 29) (ls1 := [some _, some _, some _, some _]) (st1 := [_, _]) rfl ?_
      refine m_E.cv rfl rfl (y_leaning (d := d + 1) H.2.2.2.2.2.2.2 ok.2.2.2.2.2.2.2 (yk.2 ef).2.1 lnk rfl (t.set_lt (by decide))) ?_
      refine m_E.if2 rfl (fun q2 => ?_) (fun q2 => ?_)
      · skip
        have z2 := of_decide_eq_true ((m_leI (a := g_beyond (c_shf F S).2.2 (nI ((c_settings S).getD 1 0)) 24) (b := 0) (by omega) (by omega)).symm.trans q2)
        rw [if_neg (by omega)]
        refine m_E.run 3 (pc1 := 42) (ls1 := [some _, some _, some _, some _]) (st1 := [_, _, _]) rfl ?_
        refine m_E.cv rfl rfl (y_known H Y t G) ?_
        refine m_E.run 2 (pc1 := 47) (ls1 := [some _, some _, some _, some _]) (st1 := [_, _, _]) rfl ?_
        refine m_E.yr H.1 ok.1 rfl (by omega) (by decide) ((yq.1 2 (by decide))) rfl ?_
        refine m_E.ic2 rfl (fun q3 => ?_) (fun q3 => ?_)
        · skip
          have z3 := of_decide_eq_true ((m_leI (by omega) (by omega)).symm.trans q3)
          rw [if_neg (by omega)]
          refine m_E.run 1 (pc1 := 56) (ls1 := [some _, some _, some _, some _]) (st1 := [_]) rfl ?_
          exact m_E.iret rfl ⟨rfl, rfl⟩
        · skip
          have z3 := of_decide_eq_false ((m_leI (by omega) (by omega)).symm.trans q3)
          rw [if_pos (by omega)]
          refine m_E.run 2 (pc1 := 56) (ls1 := [some _, some _, some _, some _]) (st1 := [_]) rfl ?_
          exact m_E.iret rfl ⟨rfl, rfl⟩
      · skip
        have z2 := of_decide_eq_false ((m_leI (a := g_beyond (c_shf F S).2.2 (nI ((c_settings S).getD 1 0)) 24) (b := 0) (by omega) (by omega)).symm.trans q2)
        rw [if_pos (by omega)]
        refine m_E.run 2 (pc1 := 56) (ls1 := [some _, some _, some _, some _]) (st1 := [_]) rfl ?_
        exact m_E.iret rfl ⟨rfl, rfl⟩
    · skip
      have z := of_decide_eq_false ((m_leI (by omega) (by omega)).symm.trans q1)
      rw [if_pos (show c_lf S < 24 by omega)]
      refine m_E.run 2 (pc1 := 56) (ls1 := [some _, some _, some _, some _]) (st1 := [_]) rfl ?_
      exact m_E.iret rfl ⟨rfl, rfl⟩
