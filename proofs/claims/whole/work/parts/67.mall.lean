/-! the model does the changes of a text; its other calls on the text -/
theorem y_sg_x {W : c_W} {M : c_M} (T : Trl W M) : y_sg M = x_sg (w_text W) := by
  funext k
  rw [y_sg, x_sg, T.1, T.2]
theorem p_run_ext {sg : Nat → Nat} {len : Nat} : ∀ fuel a L, (p_run sg len fuel a L).1 = none → ∃ c R, (p_run sg len fuel a L).2 = L ++ c :: R
  | 0, a, L, h => by cases h
  | fuel + 1, a, L, h => by
    rcases ec : p_change sg a with ⟨_ | c, n⟩
    · rw [p_run, ec] at h; cases h
    · rw [p_run, ec] at h ⊢
      dsimp only at h ⊢
      by_cases e1 : n = len
      · rw [if_pos e1]; exact ⟨c, [], rfl⟩
      · rw [if_neg e1] at h ⊢
        by_cases e2 : sg n = 59
        · rw [if_pos e2] at h ⊢
          obtain ⟨c2, R, e⟩ := p_run_ext fuel (n + 1) (L ++ [c]) h
          exact ⟨c, c2 :: R, by rw [e, List.append_assoc]; rfl⟩
        · rw [if_neg e2] at h; cases h
theorem e_doesChange {d : Nat} {n p a k i : Nat} {v : Int32} {F : Nat → c_Sh} {S : c_St} {M : c_M} {h : m_Hp} (H : Hmo h (d_rd M a (nI k) (nI i) v)) (E : Enc F S (d_state M)) (t : Tok n p S) (hr : p_okc (k, i, v)) : ∃ r h', m_Call m_P (d + 2) 148 [.ref 61] (h) r h' ∧ (fun r h2 => r = some (.int (m_bI (!(p_bad (k, i, v))))) ∧ ((p_bad (k, i, v) = true ∧ h2 = h) ∨ (p_bad (k, i, v) = false ∧ ∃ row, Hmo h2 (d_rd (d_set_state M row) a (nI k) (nI i) v) ∧ Enc F (g_do S (k, i, v)) row ∧ Chg 61 69 h h2))) r h' := by
  refine m_call_ex (tab := tX6_doesChange) (nL := 1) rfl rfl ?_
  have lk : k < 200 := by rcases hr.1 with z | z | z | z <;> (dsimp only at z; omega)
  obtain ⟨h1, hi, s, h3, h4⟩ := id hr
  dsimp only at h1 hi h3 h4
  unfold p_most at h3
  have hl : (d_state (d_rd M a (nI k) (nI i) v)).length = 611 := E.len
  have go : p_bad (k, i, v) = false → m_E (m_Call m_P (d + 1)) tX6_doesChange 21 [some (.ref 61)] [] h (fun r h2 => r = some (.int (m_bI (!(p_bad (k, i, v))))) ∧ ((p_bad (k, i, v) = true ∧ h2 = h) ∨ (p_bad (k, i, v) = false ∧ ∃ row, Hmo h2 (d_rd (d_set_state M row) a (nI k) (nI i) v) ∧ Enc F (g_do S (k, i, v)) row ∧ Chg 61 69 h h2))) := by
    intro eb
    rw [eb]
    refine m_E.run 1 (pc1 := 22) (ls1 := [some _]) (st1 := [_]) rfl ?_
    refine m_E.gf H.ro (by decide) rfl rfl ?_
    refine m_E.run 1 (pc1 := 27) (ls1 := [some _]) (st1 := [_, _]) rfl ?_
    by_cases e1 : k = 115
    · skip
      have ev : v = nI s := by rcases h4 with z | z; exact z; omega
      subst ev
      rw [if_pos e1] at h3
      have eg : g_do S (k, i, nI s) = c_xch S i s := by rw [g_do, if_pos e1, m_cl (by omega)]
      rw [eg]
      refine m_E.icf (by rw [e1]; decide) rfl ?_
      refine m_E.run 2 (pc1 := 32) (ls1 := [some _]) (st1 := [_, _]) rfl ?_
      refine m_E.gf H.ro (by decide) rfl rfl ?_
      refine m_E.run 1 (pc1 := 36) (ls1 := [some _]) (st1 := [_, _, _]) rfl ?_
      refine m_E.gf H.ro (by decide) rfl rfl ?_
      obtain ⟨_, h5, p5, rfl, H5, c5⟩ := e_exchange (d := d) H hl (rfl : nI i = nI i) hi (rfl : nI s = nI s) (show s < 24 by omega)
      refine m_E.on H.ro (by decide) rfl rfl rfl (p5) ?_
      refine m_E.run 2 (pc1 := 100) (ls1 := [some _]) (st1 := [_]) rfl ?_
      exact m_E.zret (by decide) rfl ⟨rfl, Or.inr ⟨rfl, _, H5, E.xch t hi (by omega), c5⟩⟩
    · skip
      rw [if_neg e1] at h3
      refine m_E.ict (by rw [m_neI (by omega) (by omega)]; exact decide_eq_true e1) rfl ?_
      refine m_E.run 1 (pc1 := 46) (ls1 := [some _]) (st1 := [_]) rfl ?_
      refine m_E.gf H.ro (by decide) rfl rfl ?_
      refine m_E.run 1 (pc1 := 51) (ls1 := [some _]) (st1 := [_, _]) rfl ?_
      by_cases e2 : k = 108
      · skip
        have eg : g_do S (k, i, v) = c_setLeans S ((c_leans S).set i v) := by rw [g_do, if_neg e1, if_pos e2]
        rw [eg]
        refine m_E.icf (by rw [e2]; decide) rfl ?_
        refine m_E.run 1 (pc1 := 55) (ls1 := [some _]) (st1 := [_]) rfl ?_
        refine m_E.gf H.ro (by decide) rfl rfl ?_
        refine m_E.run 2 (pc1 := 61) (ls1 := [some _]) (st1 := [_, _, _]) rfl ?_
        refine m_E.gf H.ro (by decide) rfl rfl ?_
        refine m_E.run 2 (pc1 := 66) (ls1 := [some _]) (st1 := [_, _, _]) rfl ?_
        dsimp only
        refine m_E.gf H.ro (by decide) rfl rfl ?_
        refine m_E.ws H hl (nI_add _ _) (by omega) rfl (fun h5 H5 c5 => ?_)
        refine m_E.run 2 (pc1 := 100) (ls1 := [some _]) (st1 := [_]) rfl ?_
        exact m_E.zret (by decide) rfl ⟨rfl, Or.inr ⟨rfl, _, H5, E.setlean t hi, c5⟩⟩
      · skip
        rw [if_neg e2] at h3
        have ev : v = nI s := by rcases h4 with z | z; exact z; omega
        subst ev
        have eg : g_do S (k, i, nI s) = c_mark S i s (decide (k = 109)) := by rw [g_do, if_neg e1, if_neg e2, m_cl (by omega)]
        rw [eg]
        refine m_E.ict (by rw [m_neI (by omega) (by omega)]; exact decide_eq_true e2) rfl ?_
        refine m_E.run 2 (pc1 := 75) (ls1 := [some _]) (st1 := [_, _]) rfl ?_
        refine m_E.gf H.ro (by decide) rfl rfl ?_
        refine m_E.run 1 (pc1 := 79) (ls1 := [some _]) (st1 := [_, _, _]) rfl ?_
        refine m_E.gf H.ro (by decide) rfl rfl ?_
        refine m_E.run 1 (pc1 := 83) (ls1 := [some _]) (st1 := [_, _, _, _]) rfl ?_
        refine m_E.gf H.ro (by decide) rfl rfl ?_
        refine m_E.run 1 (pc1 := 88) (ls1 := [some _]) (st1 := [_, _, _, _, _]) rfl ?_
        have lb := t.bck i hi
        by_cases e3 : k = 109
        · skip
          rw [decide_eq_true e3]
          refine m_E.icf (by rw [e3]; decide) rfl ?_
          refine m_E.run 2 (pc1 := 96) (ls1 := [some _]) (st1 := [_, _, _, _]) rfl ?_
          obtain ⟨_, h5, p5, rfl, H5, c5⟩ := e_setMark (d := d) (is := true) H hl (rfl : nI i = nI i) hi (rfl : nI s = nI s) (show s < 4 by omega) rfl (E.back hi) lb
          refine m_E.on H.ro (by decide) rfl rfl rfl (p5) ?_
          refine m_E.run 1 (pc1 := 100) (ls1 := [some _]) (st1 := [_]) rfl ?_
          exact m_E.zret (by decide) rfl ⟨rfl, Or.inr ⟨rfl, _, H5, E.mark t hi, c5⟩⟩
        · skip
          rw [decide_eq_false e3]
          refine m_E.ict (by rw [m_neI (by omega) (by omega)]; exact decide_eq_true e3) rfl ?_
          refine m_E.run 1 (pc1 := 96) (ls1 := [some _]) (st1 := [_, _, _, _]) rfl ?_
          obtain ⟨_, h5, p5, rfl, H5, c5⟩ := e_setMark (d := d) (is := false) H hl (rfl : nI i = nI i) hi (rfl : nI s = nI s) (show s < 4 by omega) rfl (E.back hi) lb
          refine m_E.on H.ro (by decide) rfl rfl rfl (p5) ?_
          refine m_E.run 1 (pc1 := 100) (ls1 := [some _]) (st1 := [_]) rfl ?_
          exact m_E.zret (by decide) rfl ⟨rfl, Or.inr ⟨rfl, _, H5, E.mark t hi, c5⟩⟩
  refine m_E.run 1 (pc1 := 1) (ls1 := [some _]) (st1 := [_]) rfl ?_
  refine m_E.gf H.ro (by decide) rfl rfl ?_
  refine m_E.run 1 (pc1 := 6) (ls1 := [some _]) (st1 := [_, _]) rfl ?_
  by_cases e2 : k = 108
  · skip
    refine m_E.icf (by rw [e2]; decide) rfl ?_
    refine m_E.run 1 (pc1 := 10) (ls1 := [some _]) (st1 := [_]) rfl ?_
    refine m_E.gf H.ro (by decide) rfl rfl ?_
    refine m_E.cv rfl rfl (e_isCourt rfl (show i < 100 by omega)) ?_
    by_cases ec : 3 ≤ i % 6
    · skip
      rw [decide_eq_true ec]
      refine m_E.ift (by decide) rfl ?_
      exact go (by rw [p_bad]; exact decide_eq_false (fun z => z.2 ec))
    · skip
      have eb : p_bad (k, i, v) = true := by rw [p_bad]; exact decide_eq_true ⟨e2, ec⟩
      rw [decide_eq_false ec, eb]
      refine m_E.iff (by decide) rfl ?_
      refine m_E.run 1 (pc1 := 20) (ls1 := [some _]) (st1 := [_]) rfl ?_
      exact m_E.zret (by decide) rfl ⟨rfl, Or.inl ⟨rfl, rfl⟩⟩
  · skip
    refine m_E.ict (by rw [m_neI (by omega) (by omega)]; exact decide_eq_true e2) rfl ?_
    exact go (by rw [p_bad]; exact decide_eq_false (fun z => e2 z.1))
theorem e_changeAll {d : Nat} {n p : Nat} {F : Nat → c_Sh} {W : c_W} {M : c_M} {h : m_Hp} (H : Hmo h M) (ok : Okm M) (R : Rl F W M) (t : Tok n p (w_now W)) : ∃ r h', m_Call m_P (d + 6) 149 [.ref 61] (h) r h' ∧ (Opm F (w_res W (b_chg (w_now W) (w_text W)).2) h (b_chg (w_now W) (w_text W)).1) r h' := by
  refine m_call_ex (tab := tX6_changeAll) (nL := 3) rfl rfl ?_
  have k8 := ok.2.2.2.2.2.2.2.1
  have hz : ∀ j, y_sg M j ≠ 0 → j < d_len M := fun j => y_sg_pos
  have T := R.2.2.2
  have ex : x_run (w_text W) = p_run (y_sg M) (d_len M) 60 0 [] := by rw [x_run, ← y_sg_x T, T.1]
  refine m_E.run 1 (pc1 := 1) (ls1 := [some _, none, none]) (st1 := [_]) rfl ?_
  obtain ⟨_, h1, p1, rfl, a1, s1, f1, g1, H1, c1⟩ := e_findFault (d := d) (M := M) (a0 := d_at M) (s0 := d_sign M) (f0 := d_first M) (g0 := d_second M) H ok
  refine m_E.ov H.o (by decide) rfl rfl rfl (p1) ?_
  have lim := fun m => p_run_le hz 60 0 [] (Nat.zero_le _) m
  generalize eq : p_run (y_sg M) (d_len M) 60 0 [] = q at ex lim ⊢
  rcases q with ⟨_ | m, L⟩
  · skip
    have eb : b_chg (w_now W) (w_text W) = if L.any p_bad = true then (-4, none) else (nI L.length, some (L.foldl g_do (w_now W))) := by rw [b_chg, ex]
    change m_E _ _ _ _ (.int (-5) :: _) _ _
    refine m_E.run 3 (pc1 := 8) (ls1 := [some _, some _, none]) (st1 := [_, _]) rfl ?_
    refine m_E.ict (by decide) rfl ?_
    refine m_E.run 1 (pc1 := 17) (ls1 := [some _, some _, none]) (st1 := [_]) rfl ?_
    obtain ⟨_, h2, p2, rfl, H2, c2⟩ := e_putAside (d := d + 4) H1 (ok.rd a1 s1 f1 g1)
    replace c2 := c1.tr c2
    refine m_E.on H1.ro (by decide) rfl rfl rfl (p2) ?_
    have H2b : Hmo h2 (d_rd (d_set_spare M (d_state M)) a1 s1 f1 g1) := H2
    refine m_E.run 2 (pc1 := 22) (ls1 := [some _, some _, none]) (st1 := [_, _]) rfl ?_
    refine m_E.pg H2b.ro (by decide) (v := .int (nI 0)) rfl (Nat.le_of_ble_eq_true rfl) rfl (fun h3 u3 => ?_)
    have H3 : Hmo h3 (d_rd (d_set_spare M (d_state M)) 0 s1 f1 g1) := H2b.rset u3
    have c3 := c2.tr (u3.chg (lo := 61) (hi := 69) (by decide) (by decide))
    refine m_E.run 2 (pc1 := 27) (ls1 := [some _, some _, some _]) (st1 := []) rfl ?_
    refine m_E.lp (fun i ls hh => ∃ a, ∃ s, ∃ f, ∃ g, ∃ row, ∃ L2, ∃ v1, ls = [some (.ref 61), some (.int v1), some (.int (nI i))] ∧ (Hmo hh (d_rd (d_set_state (d_set_spare M (d_state M)) row) a s f g) ∧ Enc F (L2.foldl g_do (w_now W)) row ∧ Tok n p (L2.foldl g_do (w_now W)) ∧ L2.length = i ∧ (∀ r, r ∈ L2 → p_bad r = false) ∧ ((a ≤ d_len M ∧ p_run (y_sg M) (d_len M) (60 - i) a L2 = (none, L)) ∨ (a = d_len M + 1 ∧ L2 = L)) ∧ Chg 61 69 h hh)) L.length ?_ ?_ ?_
    · skip
      rintro i _ hh hi ⟨a, s, f, g, row, L2, v1, rfl, hI⟩ K
      obtain ⟨Hi, Ei, ti, li, bi, ab, ci⟩ := hI
      have oki : Okm (d_set_state (d_set_spare M (d_state M)) row) := ok.aside.state Ei.len
      rcases ab with ⟨la, ep⟩ | ⟨_, e2⟩
      rotate_left
      · exact absurd (by rw [← e2]; exact li) (show ¬ L.length = i by omega)
      rcases hf : 60 - i with _ | fuel
      · rw [hf] at ep
        have z := congrArg Prod.fst ep
        cases z
      rw [hf] at ep
      refine m_E.run 1 (pc1 := 28) (ls1 := [some _, some _, some _]) (st1 := [_]) rfl ?_
      refine m_E.gf Hi.ro (by decide) rfl rfl ?_
      refine m_E.run 1 (pc1 := 32) (ls1 := [some _, some _, some _]) (st1 := [_, _]) rfl ?_
      refine m_E.gf Hi.ro (by decide) rfl rfl ?_
      change m_E _ _ _ _ (.int (nI (d_len M)) :: .int (nI a) :: _) _ _
      have pp := p_change_pos (a := a) hz la
      rcases ec : p_change (y_sg M) a with ⟨_ | ⟨k, j, v⟩, m⟩
      · rw [p_run, ec] at ep
        have z := congrArg Prod.fst ep
        cases z
      rw [p_run, ec] at ep
      dsimp only at ep
      rw [ec] at pp
      obtain ⟨pn1, pn2, pn3⟩ := pp
      obtain ⟨pn4, pn5⟩ := pn3 _ rfl
      dsimp only at pn1 pn2 pn4
      refine m_E.icf ((m_leI (by omega) (by omega)).trans (decide_eq_false (by omega))) rfl ?_
      refine m_E.run 1 (pc1 := 39) (ls1 := [some _, some _, some _]) (st1 := [_]) rfl ?_
      obtain ⟨_, h4, p4, rfl, s4, f4, g4, H4, v4, c4⟩ := e_readsChange (d := d + 1) Hi oki la ci
      change Hmo h4 (d_rd (d_set_state (d_set_spare M (d_state M)) row) (p_change (y_sg M) a).2 s4 f4 g4) at H4
      change ∀ k i v, (p_change (y_sg M) a).1 = some (k, i, v) → _ at v4
      change m_Call _ _ _ _ _ (some (.int (m_bI (p_change (y_sg M) a).1.isSome))) _ at p4
      rw [ec] at H4 v4 p4
      obtain ⟨e4a, e4b, e4c⟩ := v4 k j v rfl
      rw [e4a, e4b, e4c] at H4
      refine m_E.ov Hi.ro (by decide) rfl rfl rfl (p4) ?_
      change Hmo h4 (d_rd (d_set_state (d_set_spare M (d_state M)) row) m (nI k) (nI j) v) at H4
      refine m_E.iff (rfl) rfl ?_
      refine m_E.run 1 (pc1 := 46) (ls1 := [some _, some _, some _]) (st1 := [_]) rfl ?_
      obtain ⟨_, h5, p5, rfl, D5⟩ := e_doesChange (d := d + 3) H4 Ei ti pn5
      refine m_E.ov H4.ro (by decide) rfl rfl rfl (p5) ?_
      have eL : ∃ R2, L = (L2 ++ [(k, j, v)]) ++ R2 := by
        by_cases en : m = d_len M
        · rw [if_pos en] at ep
          exact ⟨[], by rw [List.append_nil]; exact (congrArg Prod.snd ep).symm⟩
        · rw [if_neg en] at ep
          by_cases es : y_sg M m = 59
          · rw [if_pos es] at ep
            obtain ⟨c2, R2, e⟩ := p_run_ext fuel (m + 1) (L2 ++ [(k, j, v)]) (congrArg Prod.fst ep)
            rw [ep] at e
            exact ⟨c2 :: R2, e⟩
          · rw [if_neg es] at ep
            have z := congrArg Prod.fst ep
            cases z
      rcases D5 with ⟨eb5, rfl⟩ | ⟨eb5, row5, H5, E5, c5⟩
      · skip
        rw [eb5]
        have ea : L.any p_bad = true := by obtain ⟨R2, e⟩ := eL; rw [e, List.any_append, List.any_append, List.any_cons, eb5]; simp
        rw [if_pos ea] at eb
        rw [eb]
        refine m_E.iff (by decide) rfl ?_
        refine m_E.run 1 (pc1 := 53) (ls1 := [some _, some _, some _]) (st1 := [_]) rfl ?_
        obtain ⟨_, h6, p6, rfl, H6, c6⟩ := e_takeBack (d := d + 4) H4 oki
        refine m_E.on H4.ro (by decide) rfl rfl rfl (p6) ?_
        refine m_E.run 1 (pc1 := 58) (ls1 := [some _, some _, some _]) (st1 := [_]) rfl ?_
        have H6b : Hmo h6 (d_rd (d_set_spare M (d_state M)) m (nI k) (nI j) v) := H6
        exact m_E.iret rfl ⟨rfl, _, H6b, ok.aside.rd m (nI k) (nI j) v, R, c4.tr c6⟩
      · skip
        rw [eb5]
        refine m_E.ift (by decide) rfl ?_
        refine m_E.run 3 (pc1 := 64) (ls1 := [some _, some _, some _]) (st1 := [_, _]) rfl ?_
        refine m_E.gf H5.ro (by decide) rfl rfl ?_
        refine m_E.run 2 (pc1 := 69) (ls1 := [some _, some _, some _]) (st1 := [_, _]) rfl ?_
        dsimp only
        rw [nI_add, nI_add]
        refine m_E.pg H5.ro (by decide) rfl (Nat.le_of_ble_eq_true rfl) rfl (fun h6 u6 => ?_)
        have H6 : Hmo h6 (d_rd (d_set_state (d_set_spare M (d_state M)) row5) (m + 1) (nI k) (nI j) v) := H5.rset u6
        have c6 := c4.tr (c5.tr (u6.chg (lo := 61) (hi := 69) (by decide) (by decide)))
        refine m_E.run 1 (pc1 := 27) (ls1 := [some _, some _, some _]) (st1 := []) rfl ?_
        have ef : (L2 ++ [(k, j, v)]).foldl g_do (w_now W) = g_do (L2.foldl g_do (w_now W)) (k, j, v) := by rw [List.foldl_append]; rfl
        refine K _ _ ⟨m + 1, _, _, _, row5, L2 ++ [(k, j, v)], _, rfl, H6, by rw [ef]; exact E5, by rw [ef]; exact ti.do pn5, by rw [List.length_append, li]; rfl, fun r hr => ?_, ?_, c6⟩
        · rcases List.mem_append.mp hr with z | z
          · exact bi r z
          · rw [List.mem_singleton.mp z]; exact eb5
        · by_cases en : m = d_len M
          · rw [if_pos en] at ep
            exact Or.inr ⟨by rw [en], congrArg Prod.snd ep⟩
          · rw [if_neg en] at ep
            by_cases es : y_sg M m = 59
            · rw [if_pos es] at ep
              exact Or.inl ⟨by omega, by rw [show 60 - (i + 1) = fuel by omega]; exact ep⟩
            · rw [if_neg es] at ep
              have z := congrArg Prod.fst ep
              cases z
    · skip
      exact ⟨0, s1, f1, g1, d_state M, [], _, rfl, H3, R.1, t, rfl, (fun r hr => by cases hr), Or.inl ⟨Nat.zero_le _, eq⟩, c3⟩
    · skip
      rintro _ hh ⟨a, s, f, g, row, L2, v1, rfl, hI⟩
      obtain ⟨Hi, Ei, ti, li, bi, ab, ci⟩ := hI
      have oki : Okm (d_set_state (d_set_spare M (d_state M)) row) := ok.aside.state Ei.len
      rcases ab with ⟨la, ep⟩ | ⟨ea, rfl⟩
      · exfalso
        obtain ⟨c2, R2, e⟩ := p_run_ext (60 - L.length) a L2 (congrArg Prod.fst ep)
        rw [ep] at e
        have z := congrArg List.length e
        rw [List.length_append, List.length_cons] at z
        dsimp only at z
        omega
      have en : L2.any p_bad = false := by rw [List.any_eq_false]; intro r hr; rw [bi r hr]; decide
      rw [if_neg (by rw [en]; decide)] at eb
      rw [eb]
      refine m_E.run 1 (pc1 := 28) (ls1 := [some _, some _, some _]) (st1 := [_]) rfl ?_
      refine m_E.gf Hi.ro (by decide) rfl rfl ?_
      refine m_E.run 1 (pc1 := 32) (ls1 := [some _, some _, some _]) (st1 := [_, _]) rfl ?_
      refine m_E.gf Hi.ro (by decide) rfl rfl ?_
      change m_E _ _ _ _ (.int (nI (d_len M)) :: .int (nI a) :: _) _ _
      refine m_E.ict ((m_leI (by omega) (by omega)).trans (decide_eq_true (by omega))) rfl ?_
      refine m_E.run 1 (pc1 := 76) (ls1 := [some _, some _, some _]) (st1 := [_]) rfl ?_
      obtain ⟨_, h6, p6, rfl, H6, c6⟩ := e_push (d := d + 4) Hi (oki.rd a s f g)
      refine m_E.on Hi.ro (by decide) rfl rfl rfl (p6) ?_
      refine m_E.run 1 (pc1 := 80) (ls1 := [some _, some _, some _]) (st1 := [_]) rfl ?_
      have okr : Okm (d_rd (d_set_state (d_set_spare M (d_state M)) row) a s f g) := oki.rd a s f g
      exact m_E.iret rfl ⟨rfl, _, H6, okr.push, Rl.push (M := d_rd (d_set_state (d_set_spare M (d_state M)) row) a s f g) okr R.1 Ei R.2.1 R.2.2.1 R.2.2.2, ci.tr c6⟩
  · skip
    have eb : b_chg (w_now W) (w_text W) = (-100 - nI m, none) := by rw [b_chg, ex]
    have lm := lim m rfl
    rw [eb]
    change m_E _ _ _ _ (.int (nI m) :: _) _ _
    refine m_E.run 3 (pc1 := 8) (ls1 := [some _, some _, none]) (st1 := [_, _]) rfl ?_
    refine m_E.icf (m_n5 (by omega)) rfl ?_
    refine m_E.run 3 (pc1 := 15) (ls1 := [some _, some _, none]) (st1 := [_]) rfl ?_
    dsimp only
    exact m_E.iret rfl ⟨rfl, _, H1, ok.rd a1 s1 f1 g1, R, c1⟩
theorem Rl.setX {F : Nat → c_Sh} {W : c_W} {M : c_M} {X : c_Tx} (R : Rl F W M) (h1 : x_len X = x_len (w_text W)) (h2 : x_signs X = x_signs (w_text W)) : Rl F (w_X W X) M := ⟨R.1, R.2.1, R.2.2.1, R.2.2.2.1.trans h1.symm, R.2.2.2.2.trans h2.symm⟩
theorem e_type {d : Nat} {c : Nat} {x : Int32} {F : Nat → c_Sh} {W : c_W} {M : c_M} {h : m_Hp} (H : Hmo h M) (ok : Okm M) (R : Rl F W M) (hx : x = nI c) (hc : c < 65536) : ∃ r h', m_Call m_P (d + 1) 139 [.ref 61, .int x] (h) r h' ∧ (Opm F (w_X W (if x_len (w_text W) < 60 then x_type (w_text W) c else w_text W)) h (if x_len (w_text W) < 60 then nI (x_len (w_text W) + 1) else -3)) r h' := by
  refine m_call_ex (tab := tX6_type) (nL := 2) rfl rfl ?_
  subst hx
  have k8 := ok.2.2.2.2.2.2.2.1
  have k6 := ok.2.2.2.2.2.1
  have T := R.2.2.2
  have H0 : Hmo h (d_rd M (d_at M) (d_sign M) (d_first M) (d_second M)) := H
  rw [← T.1]
  refine m_E.run 1 (pc1 := 1) (ls1 := [some _, some _]) (st1 := [_]) rfl ?_
  refine m_E.gf H.o (by decide) rfl rfl ?_
  refine m_E.run 1 (pc1 := 6) (ls1 := [some _, some _]) (st1 := [_, _]) rfl ?_
  by_cases e : d_len M < 60
  · skip
    rw [if_pos e, if_pos e]
    refine m_E.ict (by rw [m_neI (by omega) (by omega)]; exact decide_eq_true (by omega)) rfl ?_
    refine m_E.run 1 (pc1 := 13) (ls1 := [some _, some _]) (st1 := [_]) rfl ?_
    refine m_E.gf H.o (by decide) rfl rfl ?_
    refine m_E.run 1 (pc1 := 17) (ls1 := [some _, some _]) (st1 := [_, _]) rfl ?_
    refine m_E.gf H.o (by decide) rfl rfl ?_
    refine m_E.run 1 (pc1 := 21) (ls1 := [some _, some _]) (st1 := [_, _, _]) rfl ?_
    refine m_E.ig H.2.2.2.2.2.1 (by decide) rfl (show d_len M < ((d_text M).map nI).length by rw [List.length_map]; omega) (show ((d_text M).map nI).length < 2 ^ 31 by rw [List.length_map]; omega) rfl (fun h1 u1 => ?_)
    rw [m_map_set] at u1
    have H1 : Hmo h1 (d_set_text M ((d_text M).set (d_len M) c)) := H.w_text u1
    refine m_E.run 2 (pc1 := 24) (ls1 := [some _, some _]) (st1 := [_, _]) rfl ?_
    refine m_E.gf H1.o (by decide) rfl rfl ?_
    refine m_E.run 2 (pc1 := 29) (ls1 := [some _, some _]) (st1 := [_, _]) rfl ?_
    dsimp only
    change m_E _ _ _ _ (.int (nI (d_len M) + nI 1) :: _) _ _
    rw [nI_add]
    refine m_E.pg H1.o (by decide) rfl (Nat.le_of_ble_eq_true rfl) rfl (fun h2 u2 => ?_)
    have H2 : Hmo h2 (d_set_len (d_set_text M ((d_text M).set (d_len M) c)) (d_len M + 1)) := H1.obj u2 rfl rfl rfl rfl rfl rfl rfl
    refine m_E.run 1 (pc1 := 33) (ls1 := [some _, some _]) (st1 := [_]) rfl ?_
    refine m_E.gf H2.o (by decide) rfl rfl ?_
    exact m_E.iret rfl ⟨rfl, _, H2, ⟨ok.1, ok.2.1, ok.2.2.1, ok.2.2.2.1, ok.2.2.2.2.1, (List.length_set ..).trans k6, g_mem_set ok.2.2.2.2.2.2.1 hc, (show d_len M + 1 ≤ 60 by omega), ok.2.2.2.2.2.2.2.2⟩, ⟨R.1, R.2.1, R.2.2.1, by show d_len M + 1 = x_len (w_text W) + 1; rw [T.1], by show (d_text M).set (d_len M) c = (x_signs (w_text W)).set (x_len (w_text W)) c; rw [T.1, T.2]⟩, (u1.chg (by decide) (by decide)).tr (u2.chg (by decide) (by decide))⟩
  · skip
    rw [if_neg e, if_neg e]
    refine m_E.icf (by rw [show d_len M = 60 by omega]; decide) rfl ?_
    refine m_E.run 1 (pc1 := 11) (ls1 := [some _, some _]) (st1 := [_]) rfl ?_
    exact m_E.iret rfl ⟨rfl, _, H, ok, R, Chg.rf⟩
theorem e_clearText {d : Nat} {F : Nat → c_Sh} {W : c_W} {M : c_M} {h : m_Hp} (H : Hmo h M) (ok : Okm M) (R : Rl F W M) : ∃ r h', m_Call m_P (d + 1) 140 [.ref 61] (h) r h' ∧ (Opm F (w_X W (x_setLen (w_text W) 0)) h (nI (x_len (w_text W)))) r h' := by
  refine m_call_ex (tab := tX6_clearText) (nL := 2) rfl rfl ?_
  have T := R.2.2.2
  rw [← T.1]
  refine m_E.run 1 (pc1 := 1) (ls1 := [some _, none]) (st1 := [_]) rfl ?_
  refine m_E.gf H.o (by decide) rfl rfl ?_
  refine m_E.run 3 (pc1 := 7) (ls1 := [some _, some _]) (st1 := [_, _]) rfl ?_
  refine m_E.pg H.o (by decide) (v := .int (nI 0)) rfl (Nat.le_of_ble_eq_true rfl) rfl (fun h2 u2 => ?_)
  have H2 : Hmo h2 (d_set_len M 0) := H.obj u2 rfl rfl rfl rfl rfl rfl rfl
  refine m_E.run 1 (pc1 := 11) (ls1 := [some _, some _]) (st1 := [_]) rfl ?_
  exact m_E.iret rfl ⟨rfl, _, H2, ⟨ok.1, ok.2.1, ok.2.2.1, ok.2.2.2.1, ok.2.2.2.2.1, ok.2.2.2.2.2.1, ok.2.2.2.2.2.2.1, Nat.zero_le _, ok.2.2.2.2.2.2.2.2⟩, ⟨R.1, R.2.1, R.2.2.1, rfl, T.2⟩, u2.chg (by decide) (by decide)⟩
