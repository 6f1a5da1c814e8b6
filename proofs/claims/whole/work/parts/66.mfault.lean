/-! the model reads a change and finds the fault -/
theorem p_most_lt (k : Nat) : p_most k < 100 := by rw [p_most]; split; decide; split <;> decide
theorem e_readsChange {d : Nat} {a : Nat} {s0 f0 g0 : Int32} {M : c_M} {h0 h : m_Hp} (H0 : Hmo h (d_rd M a s0 f0 g0)) (ok : Okm M) (ha : a ≤ d_len M) (c0 : Chg 61 69 h0 h) : ∃ r h', m_Call m_P (d + 4) 145 [.ref 61] (h) r h' ∧ (fun r h2 => r = some (.int (m_bI (p_change (y_sg M) a).1.isSome)) ∧ d_got M h0 h2 (p_change (y_sg M) a)) r h' := by
  refine m_call_ex (tab := tX6_readsChange) (nL := 1) rfl rfl ?_
  have k8 := ok.2.2.2.2.2.2.2.1
  have hz : ∀ j, y_sg M j ≠ 0 → j < d_len M := fun j => y_sg_pos
  have hs := y_sg_lt ok a
  refine m_E.run 2 (pc1 := 2) (ls1 := [some _]) (st1 := [_, _]) rfl ?_
  refine m_E.ov H0.ro (by decide) rfl rfl rfl (e_code H0 ok (by omega)) ?_
  generalize hk : y_sg M a = k at hs ⊢
  refine m_E.pg H0.ro (by decide) rfl (Nat.le_of_ble_eq_true rfl) rfl (fun h1 u1 => ?_)
  have H : Hmo h1 (d_rd M a (nI k) f0 g0) := H0.rset u1
  have c1 := c0.tr (u1.chg (lo := 61) (hi := 69) (by decide) (by decide))
  have fin : (k = 115 ∨ k = 109 ∨ k = 117 ∨ k = 108) → m_E (m_Call m_P (d + 3)) tX6_readsChange 46 [some (.ref 61)] [] h1 (fun r h2 => r = some (.int (m_bI (p_change (y_sg M) a).1.isSome)) ∧ d_got M h0 h2 (p_change (y_sg M) a)) := by
    intro hkk
    have hn := hz a (by omega)
    refine m_E.run 2 (pc1 := 48) (ls1 := [some _]) (st1 := [_, _]) rfl ?_
    refine m_E.gf H.ro (by decide) rfl rfl ?_
    refine m_E.run 2 (pc1 := 53) (ls1 := [some _]) (st1 := [_, _]) rfl ?_
    dsimp only
    rw [nI_add]
    refine m_E.pg H.ro (by decide) rfl (Nat.le_of_ble_eq_true rfl) rfl (fun h2 u2 => ?_)
    have H2 : Hmo h2 (d_rd M (a + 1) (nI k) f0 g0) := H.rset u2
    have c2 := c1.tr (u2.chg (lo := 61) (hi := 69) (by decide) (by decide))
    refine m_E.run 3 (pc1 := 60) (ls1 := [some _]) (st1 := [_, _, _]) rfl ?_
    obtain ⟨_, h3, p3, rfl, H3, c3⟩ := e_readNumber (d := d + 1) H2 ok (by omega) (rfl : nI 23 = nI 23) (by decide)
    replace c3 := c2.tr c3
    refine m_E.ov H2.ro (by decide) rfl rfl rfl (p3) ?_
    have pp := p_num_pos (l := 0) (m := 23) hz (show a + 1 ≤ d_len M by omega)
    generalize en : p_num (y_sg M) 0 23 (a + 1) = q at H3 pp ⊢
    rcases q with ⟨_ | i, n⟩
    · skip
      have ep : p_change (y_sg M) a = (none, n) := by rw [p_change, if_pos (by omega), en]
      rw [ep]
      change Hmo h3 (d_rd M n (nI k) f0 g0) at H3
      change m_E _ _ _ _ (.int (-5) :: _) _ _
      refine m_E.pg H3.ro (by decide) rfl (Nat.le_of_ble_eq_true rfl) rfl (fun h4 u4 => ?_)
      have H4 : Hmo h4 (d_rd M n (nI k) (-5) g0) := H3.rset u4
      refine m_E.run 1 (pc1 := 67) (ls1 := [some _]) (st1 := [_]) rfl ?_
      refine m_E.gf H4.ro (by decide) rfl rfl ?_
      refine m_E.run 1 (pc1 := 72) (ls1 := [some _]) (st1 := [_, _]) rfl ?_
      refine m_E.ict (by decide) rfl ?_
      refine m_E.run 1 (pc1 := 99) (ls1 := [some _]) (st1 := [_]) rfl ?_
      exact m_E.zret (by decide) rfl ⟨rfl, _, _, _, H4, (fun _ _ _ q => by cases q), c3.tr (u4.chg (by decide) (by decide))⟩
    · skip
      obtain ⟨pn1, pn2, pn3⟩ := pp
      obtain ⟨pn4, pn5, _⟩ := pn3 i rfl
      dsimp only at pn1 pn2 pn4
      change Hmo h3 (d_rd M n (nI k) f0 g0) at H3
      change m_E _ _ _ _ (.int (nI i) :: _) _ _
      refine m_E.pg H3.ro (by decide) rfl (Nat.le_of_ble_eq_true rfl) rfl (fun h4 u4 => ?_)
      have H4 : Hmo h4 (d_rd M n (nI k) (nI i) g0) := H3.rset u4
      have c4 := c3.tr (u4.chg (lo := 61) (hi := 69) (by decide) (by decide))
      refine m_E.run 1 (pc1 := 67) (ls1 := [some _]) (st1 := [_]) rfl ?_
      refine m_E.gf H4.ro (by decide) rfl rfl ?_
      refine m_E.run 1 (pc1 := 72) (ls1 := [some _]) (st1 := [_, _]) rfl ?_
      refine m_E.icf (m_n5 (by omega)) rfl ?_
      refine m_E.run 2 (pc1 := 77) (ls1 := [some _]) (st1 := [_, _]) rfl ?_
      refine m_E.gf H4.ro (by decide) rfl rfl ?_
      refine m_E.run 1 (pc1 := 82) (ls1 := [some _]) (st1 := [_, _, _]) rfl ?_
      have sep : ∀ c, c = (if k = 115 then 47 else 61) → m_E (m_Call m_P (d + 3)) tX6_readsChange 92 [some (.ref 61)] [.int (nI c), .ref 61] h4 (fun r h2 => r = some (.int (m_bI (p_change (y_sg M) a).1.isSome)) ∧ d_got M h0 h2 (p_change (y_sg M) a)) := by
        intro c ec
        have hc : c < 65536 ∧ c ≠ 0 := by rw [ec]; split <;> decide
        obtain ⟨_, h5, p5, rfl, H5, c5⟩ := e_takes (d := d + 2) H4 ok (by omega) (rfl : nI c = nI c) hc.1 hc.2
        replace c5 := c4.tr c5
        refine m_E.ov H4.ro (by decide) rfl rfl rfl (p5) ?_
        by_cases es : y_sg M n = c
        · skip
          rw [if_pos es] at H5
          rw [decide_eq_true es]
          have hn2 := hz n (by omega)
          refine m_E.ift (by decide) rfl ?_
          refine m_E.run 1 (pc1 := 101) (ls1 := [some _]) (st1 := [_]) rfl ?_
          refine m_E.gf H5.ro (by decide) rfl rfl ?_
          refine m_E.run 1 (pc1 := 106) (ls1 := [some _]) (st1 := [_, _]) rfl ?_
          by_cases el : k = 108
          · skip
            refine m_E.icf (by rw [el]; decide) rfl ?_
            refine m_E.run 1 (pc1 := 110) (ls1 := [some _]) (st1 := [_]) rfl ?_
            have ep : p_change (y_sg M) a = if y_sg M (n + 1) = 45 then p_tail (y_sg M) k i true (n + 1 + 1) else p_tail (y_sg M) k i false (n + 1) := by
              rw [p_change, if_pos (by omega), en]
              dsimp only
              rw [hk, if_pos (by rw [es, ec])]
              by_cases eb : y_sg M (n + 1) = 45
              · rw [if_pos eb, if_pos ⟨el, eb⟩]
              · rw [if_neg eb, if_neg (fun z => eb z.2)]
            rw [ep]
            obtain ⟨_, h6, p6, rfl, G6⟩ := e_readsLean (d := d) H5 ok (by omega) el c5
            refine m_E.ov H5.ro (by decide) rfl rfl rfl (p6) ?_
            exact m_E.zret (m_bI_z _) rfl ⟨rfl, G6⟩
          · skip
            refine m_E.ict (by rw [m_neI (by omega) (by omega)]; exact decide_eq_true el) rfl ?_
            have ep : p_change (y_sg M) a = p_tail (y_sg M) k i false (n + 1) := by rw [p_change, if_pos (by omega), en]; dsimp only; rw [hk, if_pos (by rw [es, ec]), if_neg (fun z => el z.1)]
            rw [ep]
            refine m_E.run 3 (pc1 := 117) (ls1 := [some _]) (st1 := [_, _, _]) rfl ?_
            refine m_E.gf H5.ro (by decide) rfl rfl ?_
            refine m_E.run 1 (pc1 := 122) (ls1 := [some _]) (st1 := [_, _, _, _]) rfl ?_
            have num : m_E (m_Call m_P (d + 3)) tX6_readsChange 131 [some (.ref 61)] [.int (nI (p_most k)), .ref 61, .ref 61] h5 (fun r h2 => r = some (.int (m_bI (p_tail (y_sg M) k i false (n + 1)).1.isSome)) ∧ d_got M h0 h2 (p_tail (y_sg M) k i false (n + 1))) := by
              obtain ⟨_, h6, p6, rfl, H6, c6⟩ := e_readNumber (d := d + 1) H5 ok (by omega) (rfl : nI (p_most k) = nI (p_most k)) (p_most_lt k)
              replace c6 := c5.tr c6
              refine m_E.ov H5.ro (by decide) rfl rfl rfl (p6) ?_
              have qq := p_num_pos (l := 0) (m := p_most k) hz (show n + 1 ≤ d_len M by omega)
              generalize em : p_num (y_sg M) 0 (p_most k) (n + 1) = q at H6 qq ⊢
              have lm := p_most_lt k
              rcases q with ⟨_ | v, z⟩
              · skip
                have et : p_tail (y_sg M) k i false (n + 1) = (none, z) := by rw [p_tail, if_neg (by decide), em]
                rw [et]
                change Hmo h6 (d_rd M z (nI k) (nI i) g0) at H6
                change m_E _ _ _ _ (.int (-5) :: _) _ _
                refine m_E.pg H6.ro (by decide) rfl (Nat.le_of_ble_eq_true rfl) rfl (fun h7 u7 => ?_)
                have H7 : Hmo h7 (d_rd M z (nI k) (nI i) (-5)) := H6.rset u7
                refine m_E.run 1 (pc1 := 138) (ls1 := [some _]) (st1 := [_]) rfl ?_
                refine m_E.gf H7.ro (by decide) rfl rfl ?_
                refine m_E.run 1 (pc1 := 143) (ls1 := [some _]) (st1 := [_, _]) rfl ?_
                refine m_E.ict (by decide) rfl ?_
                refine m_E.run 1 (pc1 := 151) (ls1 := [some _]) (st1 := [_]) rfl ?_
                exact m_E.zret (by decide) rfl ⟨rfl, _, _, _, H7, (fun _ _ _ q => by cases q), c6.tr (u7.chg (by decide) (by decide))⟩
              · skip
                have lv := (qq.2.2 v rfl).2.1
                have et : p_tail (y_sg M) k i false (n + 1) = (some (k, i, nI v), z) := by rw [p_tail, if_neg (by decide), em]; rfl
                rw [et]
                change Hmo h6 (d_rd M z (nI k) (nI i) g0) at H6
                change m_E _ _ _ _ (.int (nI v) :: _) _ _
                refine m_E.pg H6.ro (by decide) rfl (Nat.le_of_ble_eq_true rfl) rfl (fun h7 u7 => ?_)
                have H7 : Hmo h7 (d_rd M z (nI k) (nI i) (nI v)) := H6.rset u7
                refine m_E.run 1 (pc1 := 138) (ls1 := [some _]) (st1 := [_]) rfl ?_
                refine m_E.gf H7.ro (by decide) rfl rfl ?_
                refine m_E.run 1 (pc1 := 143) (ls1 := [some _]) (st1 := [_, _]) rfl ?_
                refine m_E.icf (m_n5 (by omega)) rfl ?_
                refine m_E.run 2 (pc1 := 151) (ls1 := [some _]) (st1 := [_]) rfl ?_
                exact m_E.zret (by decide) rfl ⟨rfl, _, _, _, H7, (fun _ _ _ q => by cases q; exact ⟨rfl, rfl, rfl⟩), c6.tr (u7.chg (by decide) (by decide))⟩
            by_cases e115 : k = 115
            · skip
              refine m_E.icf (by rw [e115]; decide) rfl ?_
              refine m_E.run 2 (pc1 := 131) (ls1 := [some _]) (st1 := [_, _, _]) rfl ?_
              have e9 : p_most k = 23 := by rw [e115]; rfl
              rw [e9] at num
              exact num
            · skip
              refine m_E.ict (by rw [m_neI (by omega) (by omega)]; exact decide_eq_true e115) rfl ?_
              refine m_E.run 1 (pc1 := 131) (ls1 := [some _]) (st1 := [_, _, _]) rfl ?_
              have e9 : p_most k = 3 := by rw [p_most, if_neg e115, if_neg el]
              rw [e9] at num
              exact num
        · skip
          rw [if_neg es] at H5
          rw [decide_eq_false es]
          have ep : p_change (y_sg M) a = (none, n) := by rw [p_change, if_pos (by omega), en]; dsimp only; rw [hk, if_neg (by rw [← ec]; exact es)]
          rw [ep]
          refine m_E.iff (by decide) rfl ?_
          refine m_E.run 1 (pc1 := 99) (ls1 := [some _]) (st1 := [_]) rfl ?_
          exact m_E.zret (by decide) rfl ⟨rfl, _, _, _, H5, (fun _ _ _ q => by cases q), c5⟩
      by_cases e115 : k = 115
      · skip
        refine m_E.icf (by rw [e115]; decide) rfl ?_
        refine m_E.run 2 (pc1 := 92) (ls1 := [some _]) (st1 := [_, _]) rfl ?_
        exact sep 47 (by rw [if_pos e115])
      · skip
        refine m_E.ict (by rw [m_neI (by omega) (by omega)]; exact decide_eq_true e115) rfl ?_
        refine m_E.run 1 (pc1 := 92) (ls1 := [some _]) (st1 := [_, _]) rfl ?_
        exact sep 61 (by rw [if_neg e115])
  refine m_E.run 1 (pc1 := 9) (ls1 := [some _]) (st1 := [_]) rfl ?_
  refine m_E.gf H.ro (by decide) rfl rfl ?_
  refine m_E.run 1 (pc1 := 14) (ls1 := [some _]) (st1 := [_, _]) rfl ?_
  by_cases e1 : k = 115
  · skip
    refine m_E.ict (by rw [e1]; decide) rfl ?_
    exact fin (by omega)
  · skip
    refine m_E.icf (by rw [m_beqI (by omega) (by omega)]; exact decide_eq_false e1) rfl ?_
    refine m_E.run 1 (pc1 := 18) (ls1 := [some _]) (st1 := [_]) rfl ?_
    refine m_E.gf H.ro (by decide) rfl rfl ?_
    refine m_E.run 1 (pc1 := 23) (ls1 := [some _]) (st1 := [_, _]) rfl ?_
    by_cases e2 : k = 109
    · skip
      refine m_E.ict (by rw [e2]; decide) rfl ?_
      exact fin (by omega)
    · skip
      refine m_E.icf (by rw [m_beqI (by omega) (by omega)]; exact decide_eq_false e2) rfl ?_
      refine m_E.run 1 (pc1 := 27) (ls1 := [some _]) (st1 := [_]) rfl ?_
      refine m_E.gf H.ro (by decide) rfl rfl ?_
      refine m_E.run 1 (pc1 := 32) (ls1 := [some _]) (st1 := [_, _]) rfl ?_
      by_cases e3 : k = 117
      · skip
        refine m_E.ict (by rw [e3]; decide) rfl ?_
        exact fin (by omega)
      · skip
        refine m_E.icf (by rw [m_beqI (by omega) (by omega)]; exact decide_eq_false e3) rfl ?_
        refine m_E.run 1 (pc1 := 36) (ls1 := [some _]) (st1 := [_]) rfl ?_
        refine m_E.gf H.ro (by decide) rfl rfl ?_
        refine m_E.run 1 (pc1 := 41) (ls1 := [some _]) (st1 := [_, _]) rfl ?_
        by_cases e4 : k = 108
        · skip
          refine m_E.ict (by rw [e4]; decide) rfl ?_
          exact fin (by omega)
        · skip
          refine m_E.icf (by rw [m_beqI (by omega) (by omega)]; exact decide_eq_false e4) rfl ?_
          have ep : p_change (y_sg M) a = (none, a) := by rw [p_change, if_neg (by omega)]
          rw [ep]
          refine m_E.run 1 (pc1 := 45) (ls1 := [some _]) (st1 := [_]) rfl ?_
          exact m_E.zret (by decide) rfl ⟨rfl, _, _, _, H, (fun _ _ _ q => by cases q), c1⟩
theorem e_findFault {d : Nat} {a0 : Nat} {s0 f0 g0 : Int32} {M : c_M} {h : m_Hp} (H0 : Hmo h (d_rd M a0 s0 f0 g0)) (ok : Okm M) : ∃ r h', m_Call m_P (d + 5) 146 [.ref 61] (h) r h' ∧ (fun r h2 => r = some (.int (p_oI (p_run (y_sg M) (d_len M) 60 0 []).1)) ∧ ∃ a s f g, Hmo h2 (d_rd M a s f g) ∧ Chg 61 69 h h2) r h' := by
  refine m_call_ex (tab := tX6_findFault) (nL := 1) rfl rfl ?_
  have k8 := ok.2.2.2.2.2.2.2.1
  have hz : ∀ j, y_sg M j ≠ 0 → j < d_len M := fun j => y_sg_pos
  refine m_E.run 2 (pc1 := 2) (ls1 := [some _]) (st1 := [_, _]) rfl ?_
  refine m_E.pg H0.ro (by decide) (v := .int (nI 0)) rfl (Nat.le_of_ble_eq_true rfl) rfl (fun h1 u1 => ?_)
  have H1 : Hmo h1 (d_rd M 0 s0 f0 g0) := H0.rset u1
  have c1 : Chg 61 69 h h1 := u1.chg (by decide) (by decide)
  generalize hG : p_run (y_sg M) (d_len M) 60 0 [] = G
  refine m_E.lp (fun i ls hh => ∃ a, ∃ s, ∃ f, ∃ g, ∃ L, ls = [some (.ref 61)] ∧ (Hmo hh (d_rd M a s f g) ∧ a ≤ d_len M ∧ 5 * i ≤ a ∧ p_run (y_sg M) (d_len M) (60 - i) a L = G ∧ Chg 61 69 h hh)) 60 ?_ ?_ ?_
  · skip
    rintro i _ hh hi ⟨a, s, f, g, L, rfl, hI⟩ K
    obtain ⟨Hi, lY, mY, eG, cY⟩ := hI
    refine m_E.run 1 (pc1 := 6) (ls1 := [some _]) (st1 := [_]) rfl ?_
    obtain ⟨_, h3, p3, rfl, s3, f3, g3, H3, v3, c3⟩ := e_readsChange (d := d) Hi ok lY cY
    have pp := p_change_pos (a := a) hz lY
    refine m_E.ov Hi.ro (by decide) rfl rfl rfl (p3) ?_
    have e60 : 60 - i = (59 - i) + 1 := by omega
    rw [e60] at eG
    generalize ec : p_change (y_sg M) a = q at H3 v3 pp ⊢
    rcases q with ⟨_ | ⟨k, j, v⟩, n⟩
    · skip
      rw [p_run, ec] at eG
      dsimp only at eG
      change Hmo h3 (d_rd M n s3 f3 g3) at H3
      refine m_E.ift (rfl) rfl ?_
      refine m_E.run 1 (pc1 := 41) (ls1 := [some _]) (st1 := [_]) rfl ?_
      refine m_E.gf H3.ro (by decide) rfl rfl ?_
      exact m_E.iret rfl ⟨by rw [← eG]; rfl, _, _, _, _, H3, c3⟩
    · skip
      rw [p_run, ec] at eG
      dsimp only at eG
      change Hmo h3 (d_rd M n s3 f3 g3) at H3
      obtain ⟨pn1, pn2, pn3⟩ := pp
      obtain ⟨pn4, _⟩ := pn3 _ rfl
      dsimp only at pn1 pn2 pn4
      refine m_E.iff (rfl) rfl ?_
      refine m_E.run 1 (pc1 := 13) (ls1 := [some _]) (st1 := [_]) rfl ?_
      refine m_E.gf H3.ro (by decide) rfl rfl ?_
      refine m_E.run 1 (pc1 := 17) (ls1 := [some _]) (st1 := [_, _]) rfl ?_
      refine m_E.gf H3.ro (by decide) rfl rfl ?_
      by_cases en : n = d_len M
      · skip
        rw [if_pos en] at eG
        refine m_E.icf (by rw [en]; exact (m_neI (by omega) (by omega)).trans (decide_eq_false (fun z => z rfl))) rfl ?_
        refine m_E.run 1 (pc1 := 25) (ls1 := [some _]) (st1 := [_]) rfl ?_
        exact m_E.iret rfl ⟨by rw [← eG]; rfl, _, _, _, _, H3, c3⟩
      · skip
        rw [if_neg en] at eG
        refine m_E.ict ((m_neI (by omega) (by omega)).trans (decide_eq_true en)) rfl ?_
        refine m_E.run 2 (pc1 := 29) (ls1 := [some _]) (st1 := [_, _]) rfl ?_
        obtain ⟨_, h4, p4, rfl, H4, c4⟩ := e_takes (d := d + 3) H3 ok (by omega) (rfl : nI 59 = nI 59) (by decide) (by decide)
        replace c4 := c3.tr c4
        refine m_E.ov H3.ro (by decide) rfl rfl rfl (p4) ?_
        by_cases es : y_sg M n = 59
        · skip
          rw [if_pos es] at eG H4
          rw [decide_eq_true es]
          have hn := hz n (by omega)
          refine m_E.ift (by decide) rfl ?_
          exact K _ _ ⟨_, _, _, _, _, rfl, H4, by omega, by omega, by rw [show 60 - (i + 1) = 59 - i by omega]; exact eG, c4⟩
        · skip
          rw [if_neg es] at eG H4
          rw [decide_eq_false es]
          refine m_E.iff (by decide) rfl ?_
          refine m_E.run 1 (pc1 := 36) (ls1 := [some _]) (st1 := [_]) rfl ?_
          refine m_E.gf H4.ro (by decide) rfl rfl ?_
          exact m_E.iret rfl ⟨by rw [← eG]; rfl, _, _, _, _, H4, c4⟩
  · skip
    exact ⟨_, _, _, _, _, rfl, H1, Nat.zero_le _, Nat.le_refl _, hG, c1⟩
  · skip
    rintro _ hh ⟨a, s, f, g, L, rfl, hI⟩
    obtain ⟨Hi, lY, mY, eG, cY⟩ := hI
    exact absurd mY (by omega)
theorem e_fault {d : Nat} {F : Nat → c_Sh} {W : c_W} {M : c_M} {h : m_Hp} (H : Hmo h M) (ok : Okm M) (R : Rl F W M) : ∃ r h', m_Call m_P (d + 6) 147 [.ref 61] (h) r h' ∧ (Opm F W h (p_oI (p_run (y_sg M) (d_len M) 60 0 []).1)) r h' := by
  refine m_call_ex (tab := tX6_fault) (nL := 1) rfl rfl ?_
  refine m_E.run 1 (pc1 := 1) (ls1 := [some _]) (st1 := [_]) rfl ?_
  obtain ⟨_, h1, p1, rfl, a, s, f, g, H1, c1⟩ := e_findFault (d := d) (M := M) (a0 := d_at M) (s0 := d_sign M) (f0 := d_first M) (g0 := d_second M) H ok
  refine m_E.ov H.o (by decide) rfl rfl rfl (p1) ?_
  exact m_E.iret rfl ⟨rfl, _, H1, ok, R, c1⟩
