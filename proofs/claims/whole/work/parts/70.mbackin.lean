/-! the model's backIn -/
theorem e_backIn {d : Nat} {n p : Nat} {F : Nat → c_Sh} {W : c_W} {x : Int32} {M : c_M} {h : m_Hp} (H : Hmo h M) (ok : Okm M) (R : Rl F W M) (t : Tok n p (w_now W)) : ∃ r h', m_Call m_P (d + 3) 167 [.ref 61, .int x] (h) r h' ∧ (Opm F W h (r_back (w_now W) x)) r h' := by
  refine m_call_ex (tab := tX6_backIn) (nL := 3) rfl rfl ?_
  have ll : c_lf (w_now W) ≤ 24 := g_left_le _ _
  have lo : (d_order M).length = 24 := ok.2.2.2.2.2.2.2.2.1
  have ls : (d_seen M).length = 24 := ok.2.2.2.2.2.2.2.2.2
  refine m_E.run 1 (pc1 := 1) (ls1 := [some _, some _, none]) (st1 := [_]) rfl ?_
  refine m_E.gf H.o (by decide) rfl rfl ?_
  refine m_E.run 1 (pc1 := 6) (ls1 := [some _, some _, none]) (st1 := [_, _]) rfl ?_
  refine m_E.rs H ok.1 rfl (by omega) (R.1.has) rfl ?_
  by_cases ef : c_fr (w_now W) = none
  · skip
    have e : r_back (w_now W) x = -4 := by rw [r_back, if_pos ef]
    rw [e, if_pos ef]
    refine m_E.iff (rfl) rfl ?_
    refine m_E.run 1 (pc1 := 12) (ls1 := [some _, some _, none]) (st1 := [_]) rfl ?_
    exact m_E.iret rfl (Opm.same H ok R)
  · skip
    rw [if_neg ef]
    refine m_E.ift (rfl) rfl ?_
    refine m_E.run 2 (pc1 := 15) (ls1 := [some _, some _, none]) (st1 := [_, _]) rfl ?_
    refine m_E.ov H.o (by decide) rfl rfl rfl (e_canPart H ok.1 R.1.lf (by omega)) ?_
    by_cases ex : x < nI 1 ∨ nI (c_lf (w_now W)) ≤ x
    · skip
      have e : r_back (w_now W) x = -2 := by rw [r_back, if_neg ef, if_pos ex]
      have eb : (!decide (x < nI 1) && !decide (nI (c_lf (w_now W)) ≤ x)) = false := by rcases ex with z | z <;> simp [z]
      rw [e, eb]
      refine m_E.iff (rfl) rfl ?_
      refine m_E.run 1 (pc1 := 23) (ls1 := [some _, some _, none]) (st1 := [_]) rfl ?_
      exact m_E.iret rfl (Opm.same H ok R)
    · skip
      obtain ⟨top, rfl, t1, t2⟩ := m_rng2 (show c_lf (w_now W) < 100 by omega) (fun z => ex (Or.inl z)) (fun z => ex (Or.inr z)) (by decide)
      have e : r_back (w_now W) (nI top) = if g_until top (c_lf (w_now W)) (c_lf (w_now W)) ≤ 500 then nI (g_until top (c_lf (w_now W)) (c_lf (w_now W))) else -5 := by rw [r_back, if_neg ef, if_neg ex, m_cl (by omega)]
      have eb : (!decide (nI top < nI 1) && !decide (nI (c_lf (w_now W)) ≤ nI top)) = true := by rw [decide_eq_false (fun z => ex (Or.inl z)), decide_eq_false (fun z => ex (Or.inr z))]; rfl
      rw [e, eb]
      have r7 : (d_state M).getD 7 0 = nI (c_lf (w_now W)) := R.1.lf
      generalize c_lf (w_now W) = n at ll t2 r7 ⊢
      have gb := g_back_iff (top := top) (n := n) (by omega) t2
      have ub : 1 ≤ g_until top n n := by
        rcases Nat.eq_zero_or_pos (g_until top n n) with z | z
        · have q := (gb 1).mpr
          have q2 := g_until_mono (top := top) (show 0 < n by omega) 0 n
          rw [Nat.zero_add] at q2
          have q3 : g_until top n 0 = 1 := rfl
          omega
        · exact z
      generalize g_until top n n = U at gb ub ⊢
      refine m_E.ift (rfl) rfl ?_
      refine m_E.run 2 (pc1 := 26) (ls1 := [some _, some _, some _]) (st1 := []) rfl ?_
      refine m_E.lp (fun i ls hh => ∃ row, ls = [some (.ref 61), some (.int (nI top)), some (.int (nI i))] ∧ (Hmo hh (d_set_order M row) ∧ row.length = 24 ∧ (∀ k, k < i → row.getD k 0 = nI k) ∧ Chg 61 69 h hh)) n ?_ ?_ ?_
      · skip
        rintro i _ hh hi ⟨row, rfl, hI⟩ K
        obtain ⟨Hi, li, vi, ci⟩ := hI
        refine m_E.run 2 (pc1 := 28) (ls1 := [some _, some _, some _]) (st1 := [_, _]) rfl ?_
        refine m_E.gf Hi.o (by decide) rfl rfl ?_
        refine m_E.run 1 (pc1 := 33) (ls1 := [some _, some _, some _]) (st1 := [_, _, _]) rfl ?_
        refine m_E.rs Hi ok.1 rfl (by omega) (r7) rfl ?_
        refine m_E.icf ((m_leI (by omega) (by omega)).trans (decide_eq_false (by omega))) rfl ?_
        refine m_E.run 1 (pc1 := 38) (ls1 := [some _, some _, some _]) (st1 := [_]) rfl ?_
        refine m_E.gf Hi.o (by decide) rfl rfl ?_
        refine m_E.run 2 (pc1 := 43) (ls1 := [some _, some _, some _]) (st1 := [_, _, _]) rfl ?_
        refine m_E.ig Hi.2.2.2.2.2.2.1 (by decide) rfl (show i < row.length by omega) (show row.length < 2 ^ 31 by omega) rfl (fun h3 u3 => ?_)
        refine m_E.run 2 (pc1 := 26) (ls1 := [some _, some _, some _]) (st1 := []) rfl ?_
        rw [nI_add]
        refine K _ _ ⟨_, rfl, Hi.w_order u3, (List.length_set ..).trans li, fun k hk => ?_, ci.tr (u3.chg (by decide) (by decide))⟩
        show (row.set i _).getD k 0 = _
        rw [g_sd (by omega)]
        by_cases e : k = i
        · rw [if_pos e, e]
        · rw [if_neg e]; exact vi k (by omega)
      · skip
        exact ⟨_, rfl, H, lo, fun k hk => absurd hk (Nat.not_lt_zero k), Chg.rf⟩
      · skip
        rintro _ hh ⟨row, rfl, hI⟩
        obtain ⟨Hi, li, vi, ci⟩ := hI
        refine m_E.run 2 (pc1 := 28) (ls1 := [some _, some _, some _]) (st1 := [_, _]) rfl ?_
        refine m_E.gf Hi.o (by decide) rfl rfl ?_
        refine m_E.run 1 (pc1 := 33) (ls1 := [some _, some _, some _]) (st1 := [_, _, _]) rfl ?_
        refine m_E.rs Hi ok.1 rfl (by omega) (r7) rfl ?_
        refine m_E.ict ((m_leI (by omega) (by omega)).trans (decide_eq_true (Nat.le_refl _))) rfl ?_
        refine m_E.run 2 (pc1 := 52) (ls1 := [some _, some _, some _]) (st1 := []) rfl ?_
        refine m_E.lp (fun j ls hh => ∃ row, ∃ sn, ls = [some (.ref 61), some (.int (nI top)), some (.int (nI (j + 1)))] ∧ (Hmo hh (d_set_seen (d_set_order M row) sn) ∧ row.length = 24 ∧ sn.length = 24 ∧ (∀ k, k < n → row.getD k 0 = nI (g_it top n j k)) ∧ Chg 61 69 h hh)) (min (U - 1) 500) ?_ ?_ ?_
        · skip
          rintro j _ hh hi ⟨row, sn, rfl, hI⟩ K
          have hj : j < min (U - 1) 500 := by assumption
          obtain ⟨Hj, lj, lsj, vj, cj⟩ := hI
          have okj : Okm (d_set_seen (d_set_order M row) sn) := (ok.order lj).seen lsj
          refine m_E.run 2 (pc1 := 56) (ls1 := [some _, some _, some _]) (st1 := [_, _]) rfl ?_
          refine m_E.icf ((m_ltI (by omega) (by omega)).trans (decide_eq_false (by omega))) rfl ?_
          refine m_E.run 2 (pc1 := 61) (ls1 := [some _, some _, some _]) (st1 := [_, _]) rfl ?_
          obtain ⟨_, h3, p3, rfl, row3, sn3, H3, l3, ls3, v3, c3⟩ := e_comesBack (d := d) (o := g_it top n j) Hj okj r7 ll (rfl : nI top = nI top) (by omega) (fun k hk => ⟨vj k hk, Nat.lt_of_lt_of_le (g_it_lt (by omega) j k hk) ll⟩)
          refine m_E.ov Hj.o (by decide) rfl rfl rfl (p3) ?_
          have en : g_allb (fun k => g_it top n j (g_before k top n)) n = false := by
            rw [← Bool.not_eq_true]
            intro z
            have q := (gb (j + 1)).mp z
            have := Nat.le_of_dvd (by omega) q
            omega
          rw [en]
          refine m_E.iff (rfl) rfl ?_
          refine m_E.run 2 (pc1 := 52) (ls1 := [some _, some _, some _]) (st1 := []) rfl ?_
          rw [nI_add]
          exact K _ _ ⟨row3, sn3, rfl, H3, l3, ls3, v3, cj.tr c3⟩
        · skip
          exact ⟨row, d_seen M, rfl, Hi, li, ls, vi, ci⟩
        · skip
          rintro _ hh ⟨row, sn, rfl, hI⟩
          obtain ⟨Hj, lj, lsj, vj, cj⟩ := hI
          have okj : Okm (d_set_seen (d_set_order M row) sn) := (ok.order lj).seen lsj
          by_cases eU : U ≤ 500
          · skip
            have ej : min (U - 1) 500 = U - 1 := by omega
            rw [ej] at vj ⊢
            rw [if_pos eU, show U - 1 + 1 = U by omega]
            refine m_E.run 2 (pc1 := 56) (ls1 := [some _, some _, some _]) (st1 := [_, _]) rfl ?_
            refine m_E.icf ((m_ltI (by omega) (by omega)).trans (decide_eq_false (by omega))) rfl ?_
            refine m_E.run 2 (pc1 := 61) (ls1 := [some _, some _, some _]) (st1 := [_, _]) rfl ?_
            obtain ⟨_, h3, p3, rfl, row3, sn3, H3, l3, ls3, v3, c3⟩ := e_comesBack (d := d) (o := g_it top n (U - 1)) Hj okj r7 ll (rfl : nI top = nI top) (by omega) (fun k hk => ⟨vj k hk, Nat.lt_of_lt_of_le (g_it_lt (by omega) (U - 1) k hk) ll⟩)
            refine m_E.ov Hj.o (by decide) rfl rfl rfl (p3) ?_
            have en : g_allb (fun k => g_it top n (U - 1) (g_before k top n)) n = true := by
              have z := (gb (U - 1 + 1)).mpr (by rw [show U - 1 + 1 = U by omega]; exact Nat.dvd_refl U)
              exact z
            rw [en]
            refine m_E.ift (rfl) rfl ?_
            refine m_E.run 2 (pc1 := 77) (ls1 := [some _, some _, some _]) (st1 := [_, _]) rfl ?_
            refine m_E.ict ((m_leI (by omega) (by omega)).trans (decide_eq_true (by omega))) rfl ?_
            refine m_E.run 1 (pc1 := 86) (ls1 := [some _, some _, some _]) (st1 := [_]) rfl ?_
            exact m_E.iret rfl ⟨rfl, _, H3, (okj.order l3).seen ls3, Rl.seen (Rl.order (Rl.seen (Rl.order R row) sn) row3) sn3, cj.tr c3⟩
          · skip
            have ej : min (U - 1) 500 = 500 := by omega
            rw [ej]
            rw [if_neg eU]
            refine m_E.run 2 (pc1 := 56) (ls1 := [some _, some _, some _]) (st1 := [_, _]) rfl ?_
            refine m_E.ict (by decide) rfl ?_
            refine m_E.run 2 (pc1 := 77) (ls1 := [some _, some _, some _]) (st1 := [_, _]) rfl ?_
            refine m_E.icf (by decide) rfl ?_
            refine m_E.run 2 (pc1 := 86) (ls1 := [some _, some _, some _]) (st1 := [_]) rfl ?_
            exact m_E.iret rfl ⟨rfl, _, Hj, okj, Rl.seen (Rl.order R row) sn, cj⟩
