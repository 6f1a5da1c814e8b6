/-! the model deals, sells, pulps -/
theorem Enc.deal {n p v : Nat} {F : Nat → c_Sh} {S : c_St} {r r2 : List Int32} (E : Enc F S r) (t : Tok n p S) (hf : c_fr S ≠ none) (hv : v ≤ c_lf S) (hl : r2.length = 611) (ho : ∀ i, i < 7 ∨ (8 ≤ i ∧ i < 83) ∨ (107 ≤ i ∧ i < 155) ∨ 179 ≤ i → r2.getD i 0 = r.getD i 0) (h7 : r2.getD 7 0 = nI (c_lf S - v)) (hn : ∀ k, k < c_lf S - v → r2.getD (83 + k) 0 = r.getD (83 + k + v) 0) (hd : ∀ k, k < 24 → r2.getD (155 + (c_order S).getD k 0) 0 = nI (if k < c_dealt S + v then 1 else 0)) : Enc F (c_setDealt S (c_dealt S + v)) r2 := by
  obtain ⟨_, eb, en, ⟨p1, p2, p3, p4⟩, el⟩ := E.to
  have q := c_lf_eq t hf
  have el2 : c_lf (c_setDealt S (c_dealt S + v)) = c_lf S - v := by
    show g_left (c_fr S) (c_dealt S + v) = _
    cases e : c_fr S with
    | none => exact absurd e hf
    | some k => rw [g_left]; omega
  refine Enc.of hl (eb.same fun i hi => ho i (by omega)) (en.same fun i hi => ho i (by omega)) ⟨(ho _ (by omega)).trans p1, by rw [el2]; exact h7, fun k hk => ?_, fun s hs => ⟨fun k hk => (ho _ (by omega)).trans ((p4 s hs).1 k hk), fun k hk => (ho _ (by omega)).trans ((p4 s hs).2.1 k hk), hd⟩⟩ (el.same fun i hi => ho i (by omega))
  rw [el2] at hk
  show _ = nI ((c_order S).getD (c_dealt S + v + k) 0)
  rw [hn k hk, show 83 + k + v = 83 + (k + v) by omega, p3 _ (by omega), show c_dealt S + (k + v) = c_dealt S + v + k by omega]
theorem e_deal {d : Nat} {n p : Nat} {F : Nat → c_Sh} {W : c_W} {x : Int32} {M : c_M} {h : m_Hp} (H : Hmo h M) (ok : Okm M) (R : Rl F W M) (t : Tok n p (w_now W)) : ∃ r h', m_Call m_P (d + 3) 127 [.ref 61, .int x] (h) r h' ∧ (Opm F (w_res W (b_deal (w_now W) x).2) h (b_deal (w_now W) x).1) r h' := by
  refine m_call_ex (tab := tX6_deal) (nL := 3) rfl rfl ?_
  have ll : c_lf (w_now W) ≤ 24 := g_left_le _ _
  refine m_E.run 1 (pc1 := 1) (ls1 := [some _, some _, none]) (st1 := [_]) rfl ?_
  refine m_E.gf H.o (by decide) rfl rfl ?_
  refine m_E.run 1 (pc1 := 6) (ls1 := [some _, some _, none]) (st1 := [_, _]) rfl ?_
  refine m_E.rs H ok.1 rfl (by omega) (R.1.has) rfl ?_
  by_cases ef : c_fr (w_now W) = none
  · skip
    have e : b_deal (w_now W) x = (-4, none) := by rw [b_deal, if_pos ef]
    rw [e, if_pos ef]
    refine m_E.iff (rfl) rfl ?_
    refine m_E.run 1 (pc1 := 12) (ls1 := [some _, some _, none]) (st1 := [_]) rfl ?_
    exact m_E.iret rfl (Opm.same H ok R)
  · skip
    rw [if_neg ef]
    refine m_E.ift (rfl) rfl ?_
    refine m_E.run 3 (pc1 := 16) (ls1 := [some _, some _, none]) (st1 := [_, _, _]) rfl ?_
    refine m_E.gf H.o (by decide) rfl rfl ?_
    refine m_E.run 1 (pc1 := 21) (ls1 := [some _, some _, none]) (st1 := [_, _, _, _]) rfl ?_
    refine m_E.rs H ok.1 rfl (by omega) (R.1.lf) rfl ?_
    refine m_E.cv rfl rfl (e_within) ?_
    by_cases ex : x < nI 1 ∨ ¬ x ≤ nI (c_lf (w_now W))
    · skip
      have e : b_deal (w_now W) x = (-2, none) := by rw [b_deal, if_neg ef, if_pos ex]
      have ez : w_in (nI 1) (nI (c_lf (w_now W))) x = false := by rw [w_in]; rcases ex with z | z; rw [decide_eq_true z]; rfl; rw [decide_eq_true (Int32.not_le.mp z), Bool.not_true, Bool.and_false]
      rw [e, ez]
      refine m_E.iff (rfl) rfl ?_
      refine m_E.run 1 (pc1 := 30) (ls1 := [some _, some _, none]) (st1 := [_]) rfl ?_
      exact m_E.iret rfl (Opm.same H ok R)
    · skip
      have ez : w_in (nI 1) (nI (c_lf (w_now W))) x = true := by rw [w_in, decide_eq_false (fun z => ex (Or.inl z)), decide_eq_false (fun z => ex (Or.inr (Int32.not_le.mpr z)))]; rfl
      have ex2 : x ≤ nI (c_lf (w_now W)) := Decidable.not_not.mp (fun z => ex (Or.inr z))
      obtain ⟨v, rfl, v1, v2⟩ := m_rng (show c_lf (w_now W) < 100 by omega) (fun z => ex (Or.inl z)) ex2 (by decide)
      have e : b_deal (w_now W) (nI v) = (nI (c_lf (w_now W) - v), some (c_setDealt (w_now W) (c_dealt (w_now W) + v))) := by rw [b_deal, if_neg ef, if_neg ex, m_cl (by omega)]
      have q := c_lf_eq t ef
      have lo := t.ord
      rw [e, ez]
      refine m_E.ift (rfl) rfl ?_
      refine m_E.run 1 (pc1 := 32) (ls1 := [some _, some _, none]) (st1 := [_]) rfl ?_
      obtain ⟨h1, M1, p1, H1, ok1, R1, c1⟩ := e_rec2 (d := d) H ok R
      refine m_E.on H.o (by decide) rfl rfl rfl (p1) ?_
      have E1 : Enc F (w_now W) (d_state M1) := R1.1
      have dl0 : ∀ k, k < 24 → (d_state M1).getD (155 + (c_order (w_now W)).getD k 0) 0 = nI (if k < c_dealt (w_now W) then 1 else 0) := by
        cases es : c_fr (w_now W) with
        | none => exact absurd es ef
        | some s => exact (E1.pack es).2.2
      refine m_E.run 2 (pc1 := 37) (ls1 := [some _, some _, some _]) (st1 := []) rfl ?_
      refine m_E.lp (fun i ls hh => ∃ r, ls = [some (.ref 61), some (.int (nI v)), some (.int (nI i))] ∧ (Hmo hh (d_set_state M1 r) ∧ r.length = 611 ∧ (∀ k, k < 155 ∨ 179 ≤ k → r.getD k 0 = (d_state M1).getD k 0) ∧ (∀ k, k < 24 → r.getD (155 + (c_order (w_now W)).getD k 0) 0 = nI (if k < c_dealt (w_now W) + i then 1 else 0)) ∧ Chg 61 69 h hh)) v ?_ ?_ ?_
      · skip
        rintro i _ hh hi ⟨r, rfl, hI⟩ K
        obtain ⟨Hi, li, oi, vi, ci⟩ := hI
        have lc := lo (c_dealt (w_now W) + i) (by omega)
        refine m_E.run 2 (pc1 := 39) (ls1 := [some _, some _, some _]) (st1 := [_, _]) rfl ?_
        refine m_E.icf ((m_leI (by omega) (by omega)).trans (decide_eq_false (by omega))) rfl ?_
        refine m_E.run 1 (pc1 := 43) (ls1 := [some _, some _, some _]) (st1 := [_]) rfl ?_
        refine m_E.gf Hi.o (by decide) rfl rfl ?_
        refine m_E.run 2 (pc1 := 50) (ls1 := [some _, some _, some _]) (st1 := [_, _, _]) rfl ?_
        refine m_E.gf Hi.o (by decide) rfl rfl ?_
        refine m_E.run 3 (pc1 := 57) (ls1 := [some _, some _, some _]) (st1 := [_, _, _, _]) rfl ?_
        dsimp only
        refine m_E.rs Hi li (nI_add _ _) (by omega) ((oi _ (by omega)).trans (E1.ord (show i < c_lf (w_now W) by omega))) rfl ?_
        refine m_E.run 2 (pc1 := 60) (ls1 := [some _, some _, some _]) (st1 := [_, _, _]) rfl ?_
        dsimp only
        refine m_E.ws Hi li (nI_add _ _) (by omega) rfl (fun h3 H3 c3 => ?_)
        refine m_E.run 2 (pc1 := 37) (ls1 := [some _, some _, some _]) (st1 := []) rfl ?_
        rw [nI_add]
        refine K _ _ ⟨_, rfl, H3, (List.length_set ..).trans li, fun k hk => (g_so (by omega)).trans (oi k hk), fun k hk => ?_, ci.tr c3⟩
        have lk := lo k hk
        show (r.set (155 + (c_order (w_now W)).getD (c_dealt (w_now W) + i) 0) (nI 1)).getD _ 0 = _
        rw [g_sd (by omega)]
        by_cases e : k = c_dealt (w_now W) + i
        · rw [if_pos (by rw [e]), if_pos (by omega)]
        · rw [if_neg (fun z => e (g_perm_inj (t.2.2.2.2.1 ef) lo hk (by omega) (Nat.add_left_cancel z))), vi k hk]
          by_cases e2 : k < c_dealt (w_now W) + i
          · rw [if_pos e2, if_pos (by omega)]
          · rw [if_neg e2, if_neg (by omega)]
      · skip
        exact ⟨_, rfl, H1, ok1.1, fun _ _ => rfl, dl0, c1⟩
      · skip
        rintro _ hh ⟨r, rfl, hI⟩
        obtain ⟨Hi, li, oi, vi, ci⟩ := hI
        have r7 : r.getD 7 0 = nI (c_lf (w_now W)) := (oi 7 (by omega)).trans E1.lf
        refine m_E.run 2 (pc1 := 39) (ls1 := [some _, some _, some _]) (st1 := [_, _]) rfl ?_
        refine m_E.ict ((m_leI (by omega) (by omega)).trans (decide_eq_true (Nat.le_refl _))) rfl ?_
        refine m_E.run 1 (pc1 := 68) (ls1 := [some _, some _, some _]) (st1 := [_]) rfl ?_
        refine m_E.gf Hi.o (by decide) rfl rfl ?_
        refine m_E.run 2 (pc1 := 74) (ls1 := [some _, some _, some _]) (st1 := [_, _, _, _]) rfl ?_
        refine m_E.rs Hi li rfl (by omega) (r7) rfl ?_
        refine m_E.run 2 (pc1 := 77) (ls1 := [some _, some _, some _]) (st1 := [_, _, _]) rfl ?_
        dsimp only
        rw [pk_sub v2]
        refine m_E.ws Hi li rfl (by omega) rfl (fun h4 H4 c4 => ?_)
        change Hmo h4 (d_set_state M1 (r.set 7 (nI (c_lf (w_now W) - v)))) at H4
        have s7 : (r.set 7 (nI (c_lf (w_now W) - v))).getD 7 0 = nI (c_lf (w_now W) - v) := (g_sd (by omega)).trans (if_pos rfl)
        have so : ∀ k, k ≠ 7 → (r.set 7 (nI (c_lf (w_now W) - v))).getD k 0 = r.getD k 0 := fun k hk => g_so hk
        have sl : (r.set 7 (nI (c_lf (w_now W) - v))).length = 611 := (List.length_set ..).trans li
        generalize r.set 7 (nI (c_lf (w_now W) - v)) = r0 at H4 s7 so sl
        refine m_E.run 2 (pc1 := 80) (ls1 := [some _, some _, some _]) (st1 := []) rfl ?_
        refine m_E.lp (fun i ls hh => ∃ r, ls = [some (.ref 61), some (.int (nI v)), some (.int (nI i))] ∧ (Hmo hh (d_set_state M1 r) ∧ r.length = 611 ∧ (∀ k, k < 83 ∨ 83 + i ≤ k → r.getD k 0 = r0.getD k 0) ∧ (∀ k, k < i → r.getD (83 + k) 0 = r0.getD (83 + k + v) 0) ∧ Chg 61 69 h hh)) (c_lf (w_now W) - v) ?_ ?_ ?_
        · skip
          rintro i _ hh hi ⟨r, rfl, hI⟩ K
          obtain ⟨Hj, lj, oj, vj, cj⟩ := hI
          refine m_E.run 2 (pc1 := 82) (ls1 := [some _, some _, some _]) (st1 := [_, _]) rfl ?_
          refine m_E.gf Hj.o (by decide) rfl rfl ?_
          refine m_E.run 1 (pc1 := 87) (ls1 := [some _, some _, some _]) (st1 := [_, _, _]) rfl ?_
          refine m_E.rs Hj lj rfl (by omega) ((oj 7 (by omega)).trans s7) rfl ?_
          refine m_E.icf ((m_leI (by omega) (by omega)).trans (decide_eq_false (by omega))) rfl ?_
          refine m_E.run 1 (pc1 := 92) (ls1 := [some _, some _, some _]) (st1 := [_]) rfl ?_
          refine m_E.gf Hj.o (by decide) rfl rfl ?_
          refine m_E.run 4 (pc1 := 100) (ls1 := [some _, some _, some _]) (st1 := [_, _, _]) rfl ?_
          dsimp only
          refine m_E.gf Hj.o (by decide) rfl rfl ?_
          refine m_E.run 5 (pc1 := 109) (ls1 := [some _, some _, some _]) (st1 := [_, _, _, _]) rfl ?_
          dsimp only
          rw [nI_add]
          rw [nI_add]
          refine m_E.rs Hj lj rfl (by omega) ((oj (83 + i + v) (by omega))) rfl ?_
          refine m_E.ws Hj lj rfl (by omega) rfl (fun h5 H5 c5 => ?_)
          refine m_E.run 2 (pc1 := 80) (ls1 := [some _, some _, some _]) (st1 := []) rfl ?_
          rw [nI_add]
          refine K _ _ ⟨_, rfl, H5, (List.length_set ..).trans lj, fun k hk => (g_so (by omega)).trans (oj k (by omega)), fun k hk => ?_, cj.tr c5⟩
          show (r.set (83 + i) _).getD (83 + k) 0 = _
          rw [g_sd (by omega)]
          by_cases e : k = i
          · rw [if_pos (by omega), e]
          · rw [if_neg (by omega)]; exact vj k (by omega)
        · skip
          exact ⟨_, rfl, H4, sl, fun _ _ => rfl, fun k hk => absurd hk (Nat.not_lt_zero k), ci.tr c4⟩
        · skip
          rintro _ hh ⟨r, rfl, hI⟩
          obtain ⟨Hj, lj, oj, vj, cj⟩ := hI
          refine m_E.run 2 (pc1 := 82) (ls1 := [some _, some _, some _]) (st1 := [_, _]) rfl ?_
          refine m_E.gf Hj.o (by decide) rfl rfl ?_
          refine m_E.run 1 (pc1 := 87) (ls1 := [some _, some _, some _]) (st1 := [_, _, _]) rfl ?_
          refine m_E.rs Hj lj rfl (by omega) ((oj 7 (by omega)).trans s7) rfl ?_
          refine m_E.ict ((m_leI (by omega) (by omega)).trans (decide_eq_true (Nat.le_refl _))) rfl ?_
          refine m_E.run 1 (pc1 := 118) (ls1 := [some _, some _, some _]) (st1 := [_]) rfl ?_
          refine m_E.gf Hj.o (by decide) rfl rfl ?_
          refine m_E.run 1 (pc1 := 123) (ls1 := [some _, some _, some _]) (st1 := [_, _]) rfl ?_
          refine m_E.rs Hj lj rfl (by omega) ((oj 7 (by omega)).trans s7) rfl ?_
          exact m_E.iret rfl ⟨rfl, _, Hj, ok1.state lj, R1.setS (E1.deal (v := v) t ef v2 lj (fun k hk => ((oj k (by omega)).trans (so k (by omega))).trans (oi k (by omega))) ((oj 7 (by omega)).trans s7) (fun k hk => (vj k hk).trans ((so _ (by omega)).trans (oi _ (by omega)))) (fun k hk => (oj _ (by have := lo k hk; omega)).trans ((so _ (by omega)).trans (vi k hk)))), cj⟩
theorem e_dropPack {d : Nat} {M : c_M} {h : m_Hp} (H : Hmo h M) (hl : (d_state M).length = 611) : ∃ r h', m_Call m_P (d + 1) 136 [.ref 61] (h) r h' ∧ (fun r h2 => r = none ∧ ∃ row, Hmo h2 (d_set_state M row) ∧ row.length = 611 ∧ row.getD 6 0 = nI 0 ∧ row.getD 7 0 = nI 0 ∧ (∀ k, k < 6 ∨ (8 ≤ k ∧ k < 83) ∨ 179 ≤ k → row.getD k 0 = (d_state M).getD k 0) ∧ Chg 61 69 h h2) r h' := by
  refine m_call_ex (tab := tX6_dropPack) (nL := 2) rfl rfl ?_
  refine m_E.run 1 (pc1 := 1) (ls1 := [some _, none]) (st1 := [_]) rfl ?_
  refine m_E.gf H.o (by decide) rfl rfl ?_
  refine m_E.run 2 (pc1 := 7) (ls1 := [some _, none]) (st1 := [_, _, _]) rfl ?_
  refine m_E.ws H hl rfl (by omega) rfl (fun h1 H1 c1 => ?_)
  have l1 : (d_state (d_set_state M ((d_state M).set 6 (nI 0)))).length = 611 := (List.length_set ..).trans hl
  refine m_E.run 1 (pc1 := 9) (ls1 := [some _, none]) (st1 := [_]) rfl ?_
  refine m_E.gf H1.o (by decide) rfl rfl ?_
  refine m_E.run 2 (pc1 := 15) (ls1 := [some _, none]) (st1 := [_, _, _]) rfl ?_
  refine m_E.ws H1 l1 rfl (by omega) rfl (fun h2 H2 c2 => ?_)
  refine m_E.run 2 (pc1 := 18) (ls1 := [some _, some _]) (st1 := []) rfl ?_
  refine m_E.lp (fun i ls hh => ∃ row, ls = [some (.ref 61), some (.int (nI i))] ∧ (Hmo hh (d_set_state M row) ∧ row.length = 611 ∧ row.getD 6 0 = nI 0 ∧ row.getD 7 0 = nI 0 ∧ (∀ k, k < 6 ∨ (8 ≤ k ∧ k < 83) ∨ 179 ≤ k → row.getD k 0 = (d_state M).getD k 0) ∧ Chg 61 69 h hh)) 24 ?_ ?_ ?_
  · skip
    rintro i _ hh hi ⟨row, rfl, hI⟩ K
    obtain ⟨Hi, li, r6, r7, oi, ci⟩ := hI
    refine m_E.run 2 (pc1 := 21) (ls1 := [some _, some _]) (st1 := [_, _]) rfl ?_
    refine m_E.icf ((m_leI (by omega) (by omega)).trans (decide_eq_false (by omega))) rfl ?_
    refine m_E.run 1 (pc1 := 25) (ls1 := [some _, some _]) (st1 := [_]) rfl ?_
    refine m_E.gf Hi.o (by decide) rfl rfl ?_
    refine m_E.run 4 (pc1 := 33) (ls1 := [some _, some _]) (st1 := [_, _, _]) rfl ?_
    dsimp only
    refine m_E.ws Hi li (nI_add _ _) (by omega) rfl (fun h3 H3 c3 => ?_)
    have l3 : (row.set (83 + i) (nI 0)).length = 611 := (List.length_set ..).trans li
    refine m_E.run 1 (pc1 := 35) (ls1 := [some _, some _]) (st1 := [_]) rfl ?_
    refine m_E.gf H3.o (by decide) rfl rfl ?_
    refine m_E.run 4 (pc1 := 43) (ls1 := [some _, some _]) (st1 := [_, _, _]) rfl ?_
    dsimp only
    refine m_E.ws H3 l3 (nI_add _ _) (by omega) rfl (fun h4 H4 c4 => ?_)
    have l4 : ((row.set (83 + i) (nI 0)).set (107 + i) (nI 0)).length = 611 := (List.length_set ..).trans l3
    refine m_E.run 1 (pc1 := 45) (ls1 := [some _, some _]) (st1 := [_]) rfl ?_
    refine m_E.gf H4.o (by decide) rfl rfl ?_
    refine m_E.run 4 (pc1 := 54) (ls1 := [some _, some _]) (st1 := [_, _, _]) rfl ?_
    dsimp only
    refine m_E.ws H4 l4 (nI_add _ _) (by omega) rfl (fun h5 H5 c5 => ?_)
    have l5 : (((row.set (83 + i) (nI 0)).set (107 + i) (nI 0)).set (131 + i) (nI 0)).length = 611 := (List.length_set ..).trans l4
    refine m_E.run 1 (pc1 := 56) (ls1 := [some _, some _]) (st1 := [_]) rfl ?_
    refine m_E.gf H5.o (by decide) rfl rfl ?_
    refine m_E.run 4 (pc1 := 65) (ls1 := [some _, some _]) (st1 := [_, _, _]) rfl ?_
    dsimp only
    refine m_E.ws H5 l5 (nI_add _ _) (by omega) rfl (fun h6 H6 c6 => ?_)
    have l6 : ((((row.set (83 + i) (nI 0)).set (107 + i) (nI 0)).set (131 + i) (nI 0)).set (155 + i) (nI 0)).length = 611 := (List.length_set ..).trans l5
    have so : ∀ k, k < 83 ∨ 179 ≤ k → ((((row.set (83 + i) (nI 0)).set (107 + i) (nI 0)).set (131 + i) (nI 0)).set (155 + i) (nI 0)).getD k 0 = row.getD k 0 := fun k hk => by rw [g_so (by omega), g_so (by omega), g_so (by omega), g_so (by omega)]
    refine m_E.run 2 (pc1 := 18) (ls1 := [some _, some _]) (st1 := []) rfl ?_
    rw [nI_add]
    exact K _ _ ⟨_, rfl, H6, l6, (so 6 (by omega)).trans r6, (so 7 (by omega)).trans r7, fun k hk => (so k (by omega)).trans (oi k hk), ci.tr (c3.tr (c4.tr (c5.tr c6)))⟩
  · skip
    refine ⟨_, rfl, H2, (List.length_set ..).trans l1, ?_, ?_, fun k hk => ?_, c1.tr c2⟩
    · show (((d_state M).set 6 (nI 0)).set 7 (nI 0)).getD 6 0 = _
      rw [g_so (by omega), g_sd (by omega), if_pos rfl]
    · show (((d_state M).set 6 (nI 0)).set 7 (nI 0)).getD 7 0 = _
      rw [g_sd (by rw [List.length_set]; omega), if_pos rfl]
    · show (((d_state M).set 6 (nI 0)).set 7 (nI 0)).getD k 0 = _
      rw [g_so (by omega), g_so (by omega)]
  · skip
    rintro _ hh ⟨row, rfl, hI⟩
    obtain ⟨Hi, li, r6, r7, oi, ci⟩ := hI
    refine m_E.run 2 (pc1 := 21) (ls1 := [some _, some _]) (st1 := [_, _]) rfl ?_
    refine m_E.ict (by decide) rfl ?_
    exact m_E.vret rfl ⟨rfl, row, Hi, li, r6, r7, oi, ci⟩
theorem Enc.away {F : Nat → c_Sh} {S : c_St} {r r2 : List Int32} (E : Enc F S r) (hl : r2.length = 611) (r6 : r2.getD 6 0 = nI 0) (r7 : r2.getD 7 0 = nI 0) (ho : ∀ k, k < 6 ∨ (8 ≤ k ∧ k < 83) ∨ 179 ≤ k → r2.getD k 0 = r.getD k 0) : Enc F (c_away S) r2 := by
  obtain ⟨_, eb, en, _, el⟩ := E.to
  exact Enc.of hl (eb.same fun i hi => ho i (by omega)) (en.same fun i hi => ho i (by omega)) ⟨r6, r7, fun k hk => absurd hk (Nat.not_lt_zero k), fun s hs => by cases hs⟩ (el.same fun i hi => ho i (by omega))
theorem Enc.nums {F : Nat → c_Sh} {S : c_St} {r r2 : List Int32} {n p : Nat} {a b c : Int32} (E : Enc F S r) (t : Tok n p S) (hl : r2.length = 611) (ho : ∀ k, k < 8 ∨ 11 ≤ k → r2.getD k 0 = r.getD k 0) (h8 : r2.getD 8 0 = a) (h9 : r2.getD 9 0 = b) (h10 : r2.getD 10 0 = c) : Enc F (c_setNum S (c_piled S) (c_printed S) a b c) r2 := by
  obtain ⟨_, eb, ⟨n1, n2, n3, n4, n5⟩, ep, el⟩ := E.to
  exact Enc.of hl (eb.same fun i hi => ho i (by omega)) ⟨(ho _ (by omega)).trans n1, (ho _ (by omega)).trans n2, h8, h9, h10⟩ (EncP.same (S := S) ep t fun i hi => ho i (by omega)) (el.same fun i hi => ho i (by omega))
theorem e_sell {d : Nat} {n p : Nat} {F : Nat → c_Sh} {W : c_W} {M : c_M} {h : m_Hp} (H : Hmo h M) (ok : Okm M) (R : Rl F W M) (t : Tok n p (w_now W)) (G : Gsh n F) : ∃ r h', m_Call m_P (d + 4) 137 [.ref 61] (h) r h' ∧ (Opm F (w_res W (b_sell F (w_now W)).2) h (b_sell F (w_now W)).1) r h' := by
  refine m_call_ex (tab := tX6_sell) (nL := 1) rfl rfl ?_
  refine m_E.run 1 (pc1 := 1) (ls1 := [some _]) (st1 := [_]) rfl ?_
  refine m_E.gf H.o (by decide) rfl rfl ?_
  refine m_E.run 1 (pc1 := 6) (ls1 := [some _]) (st1 := [_, _]) rfl ?_
  refine m_E.rs H ok.1 rfl (by omega) (R.1.has) rfl ?_
  rcases ef : c_fr (w_now W) with _ | k
  · skip
    have e : b_sell F (w_now W) = (-4, none) := by rw [b_sell, ef]
    rw [e]
    refine m_E.iff (rfl) rfl ?_
    refine m_E.run 1 (pc1 := 12) (ls1 := [some _]) (st1 := [_]) rfl ?_
    exact m_E.iret rfl (Opm.same H ok R)
  · skip
    have lr := g_reason_lt (w_now W) (g_sh F k)
    refine m_E.ift (rfl) rfl ?_
    refine m_E.run 1 (pc1 := 14) (ls1 := [some _]) (st1 := [_]) rfl ?_
    refine m_E.ov H.o (by decide) rfl rfl rfl (e_reason H R.1 t G ef) ?_
    by_cases e0 : g_reason (w_now W) (g_sh F k) = 0
    · skip
      have e : b_sell F (w_now W) = (nI ((c_settings (w_now W)).getD 3 0), some (c_sale (w_now W))) := by rw [b_sell, ef]; dsimp only; rw [if_pos e0]
      rw [e, e0]
      refine m_E.ift (rfl) rfl ?_
      refine m_E.run 1 (pc1 := 29) (ls1 := [some _]) (st1 := [_]) rfl ?_
      obtain ⟨h1, M1, p1, H1, ok1, R1, c1⟩ := e_rec2 (d := d + 1) H ok R
      have E1 : Enc F (w_now W) (d_state M1) := R1.1
      refine m_E.on H.o (by decide) rfl rfl rfl (p1) ?_
      refine m_E.run 1 (pc1 := 33) (ls1 := [some _]) (st1 := [_]) rfl ?_
      obtain ⟨_, h2, p2, rfl, row, H2, l2, r6, r7, o2, c2⟩ := e_dropPack (d := d + 2) H1 ok1.1
      refine m_E.on H1.o (by decide) rfl rfl rfl (p2) ?_
      refine m_E.run 1 (pc1 := 37) (ls1 := [some _]) (st1 := [_]) rfl ?_
      refine m_E.gf H2.o (by decide) rfl rfl ?_
      refine m_E.run 2 (pc1 := 43) (ls1 := [some _]) (st1 := [_, _, _, _]) rfl ?_
      refine m_E.rs H2 l2 rfl (by omega) ((o2 8 (by omega)).trans E1.sold) rfl ?_
      refine m_E.run 2 (pc1 := 46) (ls1 := [some _]) (st1 := [_, _, _]) rfl ?_
      dsimp only
      refine m_E.ws H2 l2 rfl (by omega) rfl (fun h3 H3 c3 => ?_)
      have l3 : (row.set 8 (c_sold (w_now W) + nI 1)).length = 611 := (List.length_set ..).trans l2
      have o3 : ∀ k, k ≠ 8 → (row.set 8 (c_sold (w_now W) + nI 1)).getD k 0 = row.getD k 0 := fun k hk => g_so hk
      refine m_E.run 1 (pc1 := 48) (ls1 := [some _]) (st1 := [_]) rfl ?_
      refine m_E.gf H3.o (by decide) rfl rfl ?_
      refine m_E.run 2 (pc1 := 54) (ls1 := [some _]) (st1 := [_, _, _, _]) rfl ?_
      refine m_E.rs H3 l3 rfl (by omega) ((o3 10 (by omega)).trans ((o2 10 (by omega)).trans E1.coin)) rfl ?_
      refine m_E.run 1 (pc1 := 56) (ls1 := [some _]) (st1 := [_, _, _, _]) rfl ?_
      refine m_E.gf H3.o (by decide) rfl rfl ?_
      refine m_E.run 1 (pc1 := 60) (ls1 := [some _]) (st1 := [_, _, _, _, _]) rfl ?_
      refine m_E.rs H3 l3 rfl (by omega) ((o3 3 (by omega)).trans ((o2 3 (by omega)).trans (E1.set (k := 3) (by decide)))) rfl ?_
      refine m_E.run 1 (pc1 := 62) (ls1 := [some _]) (st1 := [_, _, _]) rfl ?_
      dsimp only
      refine m_E.ws H3 l3 rfl (by omega) rfl (fun h4 H4 c4 => ?_)
      have l4 : ((row.set 8 (c_sold (w_now W) + nI 1)).set 10 (c_coins (w_now W) + nI ((c_settings (w_now W)).getD 3 0))).length = 611 := (List.length_set ..).trans l3
      refine m_E.run 1 (pc1 := 64) (ls1 := [some _]) (st1 := [_]) rfl ?_
      refine m_E.gf H4.o (by decide) rfl rfl ?_
      refine m_E.run 1 (pc1 := 68) (ls1 := [some _]) (st1 := [_, _]) rfl ?_
      refine m_E.rs H4 l4 rfl (by omega) ((g_so (by omega)).trans ((o3 3 (by omega)).trans ((o2 3 (by omega)).trans (E1.set (k := 3) (by decide))))) rfl ?_
      have Ea := E1.away l2 r6 r7 o2
      have E4 := Ea.nums (p := p) (n := n) (a := c_sold (w_now W) + nI 1) (b := c_pulped (w_now W)) (c := c_coins (w_now W) + nI ((c_settings (w_now W)).getD 3 0)) t.away l4 (fun k hk => by rw [g_so (by omega), g_so (by omega)]) (by rw [g_so (by omega), g_sd (by omega), if_pos rfl]) (by rw [g_so (by omega), g_so (by omega)]; exact (o2 9 (by omega)).trans E1.pul) (by rw [g_sd (by omega), if_pos rfl])
      exact m_E.iret rfl ⟨rfl, _, H4, ok1.state l4, R1.setS (S := c_sale (w_now W)) E4, c1.tr (c2.tr (c3.tr c4))⟩
    · skip
      have e : b_sell F (w_now W) = (-10 - nI (g_reason (w_now W) (g_sh F k)), none) := by rw [b_sell, ef]; dsimp only; rw [if_neg e0]
      rw [e]
      refine m_E.iff (by rw [m_beq0 (by omega)]; exact decide_eq_false e0) rfl ?_
      refine m_E.run 2 (pc1 := 23) (ls1 := [some _]) (st1 := [_, _]) rfl ?_
      refine m_E.ov H.o (by decide) rfl rfl rfl (e_reason H R.1 t G ef) ?_
      refine m_E.run 1 (pc1 := 27) (ls1 := [some _]) (st1 := [_]) rfl ?_
      dsimp only
      exact m_E.iret rfl (Opm.same H ok R)
theorem e_pulp {d : Nat} {n p : Nat} {F : Nat → c_Sh} {W : c_W} {M : c_M} {h : m_Hp} (H : Hmo h M) (ok : Okm M) (R : Rl F W M) (t : Tok n p (w_now W)) : ∃ r h', m_Call m_P (d + 3) 138 [.ref 61] (h) r h' ∧ (Opm F (w_res W (b_pulp (w_now W)).2) h (b_pulp (w_now W)).1) r h' := by
  refine m_call_ex (tab := tX6_pulp) (nL := 2) rfl rfl ?_
  refine m_E.run 1 (pc1 := 1) (ls1 := [some _, none]) (st1 := [_]) rfl ?_
  refine m_E.gf H.o (by decide) rfl rfl ?_
  refine m_E.run 1 (pc1 := 6) (ls1 := [some _, none]) (st1 := [_, _]) rfl ?_
  refine m_E.rs H ok.1 rfl (by omega) (R.1.has) rfl ?_
  by_cases ef : c_fr (w_now W) = none
  · skip
    have e : b_pulp (w_now W) = (-4, none) := by rw [b_pulp, if_pos ef]
    rw [e, if_pos ef]
    refine m_E.iff (rfl) rfl ?_
    refine m_E.run 1 (pc1 := 12) (ls1 := [some _, none]) (st1 := [_]) rfl ?_
    exact m_E.iret rfl (Opm.same H ok R)
  · skip
    have e : b_pulp (w_now W) = (nI (c_lf (w_now W)), some (c_pulp (w_now W))) := by rw [b_pulp, if_neg ef]
    rw [e, if_neg ef]
    refine m_E.ift (rfl) rfl ?_
    refine m_E.run 1 (pc1 := 14) (ls1 := [some _, none]) (st1 := [_]) rfl ?_
    obtain ⟨h1, M1, p1, H1, ok1, R1, c1⟩ := e_rec2 (d := d) H ok R
    have E1 : Enc F (w_now W) (d_state M1) := R1.1
    refine m_E.on H.o (by decide) rfl rfl rfl (p1) ?_
    refine m_E.run 1 (pc1 := 18) (ls1 := [some _, none]) (st1 := [_]) rfl ?_
    refine m_E.gf H1.o (by decide) rfl rfl ?_
    refine m_E.run 1 (pc1 := 23) (ls1 := [some _, none]) (st1 := [_, _]) rfl ?_
    refine m_E.rs H1 ok1.1 rfl (by omega) (E1.lf) rfl ?_
    refine m_E.run 2 (pc1 := 26) (ls1 := [some _, some _]) (st1 := [_]) rfl ?_
    obtain ⟨_, h2, p2, rfl, row, H2, l2, r6, r7, o2, c2⟩ := e_dropPack (d := d + 1) H1 ok1.1
    refine m_E.on H1.o (by decide) rfl rfl rfl (p2) ?_
    refine m_E.run 1 (pc1 := 30) (ls1 := [some _, some _]) (st1 := [_]) rfl ?_
    refine m_E.gf H2.o (by decide) rfl rfl ?_
    refine m_E.run 2 (pc1 := 36) (ls1 := [some _, some _]) (st1 := [_, _, _, _]) rfl ?_
    refine m_E.rs H2 l2 rfl (by omega) ((o2 9 (by omega)).trans E1.pul) rfl ?_
    refine m_E.run 2 (pc1 := 39) (ls1 := [some _, some _]) (st1 := [_, _, _]) rfl ?_
    dsimp only
    refine m_E.ws H2 l2 rfl (by omega) rfl (fun h3 H3 c3 => ?_)
    have l3 : (row.set 9 (c_pulped (w_now W) + nI 1)).length = 611 := (List.length_set ..).trans l2
    refine m_E.run 1 (pc1 := 41) (ls1 := [some _, some _]) (st1 := [_]) rfl ?_
    have Ea := E1.away l2 r6 r7 o2
    have E4 := Ea.nums (p := p) (n := n) (a := c_sold (w_now W)) (b := c_pulped (w_now W) + nI 1) (c := c_coins (w_now W)) t.away l3 (fun k hk => g_so (by omega)) (by rw [g_so (by omega)]; exact (o2 8 (by omega)).trans E1.sold) (by rw [g_sd (by omega), if_pos rfl]) (by rw [g_so (by omega)]; exact (o2 10 (by omega)).trans E1.coin)
    exact m_E.iret rfl ⟨rfl, _, H3, ok1.state l3, R1.setS (S := c_pulp (w_now W)) E4, c1.tr (c2.tr c3)⟩
